set_option maxRecDepth 100000 in
theorem cw_0 : wAt 10025 = some (Cond.code in_0.1 in_0.2.1 in_0.2.2.1 in_0.2.2.2.1) := rfl
set_option maxRecDepth 100000 in
theorem cw_1 : wAt 20092 = some (Cond.code in_1.1 in_1.2.1 in_1.2.2.1 in_1.2.2.2.1) := rfl
set_option maxRecDepth 100000 in
theorem cw_2 : wAt 20217 = some (Cond.code in_2.1 in_2.2.1 in_2.2.2.1 in_2.2.2.2.1) := rfl
set_option maxRecDepth 100000 in
theorem cw_3 : wAt 20213 = some (Cond.code in_3.1 in_3.2.1 in_3.2.2.1 in_3.2.2.2.1) := rfl
set_option maxRecDepth 100000 in
theorem cw_4 : wAt 10041 = some (Cond.code in_4.1 in_4.2.1 in_4.2.2.1 in_4.2.2.2.1) := rfl
set_option maxRecDepth 100000 in
theorem cw_5 : wAt 30107 = some (Cond.code in_5.1 in_5.2.1 in_5.2.2.1 in_5.2.2.2.1) := rfl
set_option maxRecDepth 100000 in
theorem cw_6 : wAt 40046 = some (Cond.code in_6.1 in_6.2.1 in_6.2.2.1 in_6.2.2.2.1) := rfl
set_option maxRecDepth 100000 in
theorem cw_7 : wAt 20080 = some (Cond.code in_7.1 in_7.2.1 in_7.2.2.1 in_7.2.2.2.1) := rfl
set_option maxRecDepth 100000 in
theorem cw_8 : wAt 40016 = some (Cond.code in_8.1 in_8.2.1 in_8.2.2.1 in_8.2.2.2.1) := rfl
set_option maxRecDepth 100000 in
theorem cw_9 : wAt 40029 = some (Cond.code in_9.1 in_9.2.1 in_9.2.2.1 in_9.2.2.2.1) := rfl
set_option maxRecDepth 100000 in
theorem cw_10 : wAt 20125 = some (Cond.code in_10.1 in_10.2.1 in_10.2.2.1 in_10.2.2.2.1) := rfl
set_option maxRecDepth 100000 in
theorem cw_11 : wAt 20197 = some (Cond.code in_11.1 in_11.2.1 in_11.2.2.1 in_11.2.2.2.1) := rfl
set_option maxRecDepth 100000 in
theorem cw_12 : wAt 20190 = some (Cond.code in_12.1 in_12.2.1 in_12.2.2.1 in_12.2.2.2.1) := rfl
set_option maxRecDepth 100000 in
theorem cw_13 : wAt 20205 = some (Cond.code in_13.1 in_13.2.1 in_13.2.2.1 in_13.2.2.2.1) := rfl
set_option maxRecDepth 100000 in
theorem cw_14 : wAt 20179 = some (Cond.code in_14.1 in_14.2.1 in_14.2.2.1 in_14.2.2.2.1) := rfl
set_option maxRecDepth 100000 in
theorem cw_15 : wAt 20209 = some (Cond.code in_15.1 in_15.2.1 in_15.2.2.1 in_15.2.2.2.1) := rfl
set_option maxRecDepth 100000 in
theorem cw_16 : wAt 20227 = some (Cond.code in_16.1 in_16.2.1 in_16.2.2.1 in_16.2.2.2.1) := rfl
set_option maxRecDepth 100000 in
theorem cw_17 : wAt 20231 = some (Cond.code in_17.1 in_17.2.1 in_17.2.2.1 in_17.2.2.2.1) := rfl
set_option maxRecDepth 100000 in
theorem cw_18 : wAt 30024 = some (Cond.code in_18.1 in_18.2.1 in_18.2.2.1 in_18.2.2.2.1) := rfl
set_option maxRecDepth 100000 in
theorem cw_19 : wAt 30037 = some (Cond.code in_19.1 in_19.2.1 in_19.2.2.1 in_19.2.2.2.1) := rfl
set_option maxRecDepth 100000 in
theorem cw_20 : wAt 30020 = some (Cond.code in_20.1 in_20.2.1 in_20.2.2.1 in_20.2.2.2.1) := rfl
set_option maxRecDepth 100000 in
theorem cw_21 : wAt 20167 = some (Cond.code in_21.1 in_21.2.1 in_21.2.2.1 in_21.2.2.2.1) := rfl
set_option maxRecDepth 100000 in
theorem cw_22 : wAt 20171 = some (Cond.code in_22.1 in_22.2.1 in_22.2.2.1 in_22.2.2.2.1) := rfl
set_option maxRecDepth 100000 in
theorem cw_23 : wAt 20236 = some (Cond.code in_23.1 in_23.2.1 in_23.2.2.1 in_23.2.2.2.1) := rfl
set_option maxRecDepth 100000 in
theorem cw_24 : wAt 30000 = some (Cond.code in_24.1 in_24.2.1 in_24.2.2.1 in_24.2.2.2.1) := rfl
set_option maxRecDepth 100000 in
theorem cw_25 : wAt 30069 = some (Cond.code in_25.1 in_25.2.1 in_25.2.2.1 in_25.2.2.2.1) := rfl
set_option maxRecDepth 100000 in
theorem cw_26 : wAt 30073 = some (Cond.code in_26.1 in_26.2.1 in_26.2.2.1 in_26.2.2.2.1) := rfl
set_option maxRecDepth 100000 in
theorem cw_27 : wAt 30077 = some (Cond.code in_27.1 in_27.2.1 in_27.2.2.1 in_27.2.2.2.1) := rfl
set_option maxRecDepth 100000 in
theorem cw_28 : wAt 30081 = some (Cond.code in_28.1 in_28.2.1 in_28.2.2.1 in_28.2.2.2.1) := rfl
set_option maxRecDepth 100000 in
theorem cw_29 : wAt 30045 = some (Cond.code in_29.1 in_29.2.1 in_29.2.2.1 in_29.2.2.2.1) := rfl
set_option maxRecDepth 100000 in
theorem cw_30 : wAt 30057 = some (Cond.code in_30.1 in_30.2.1 in_30.2.2.1 in_30.2.2.2.1) := rfl
set_option maxRecDepth 100000 in
theorem cw_31 : wAt 30053 = some (Cond.code in_31.1 in_31.2.1 in_31.2.2.1 in_31.2.2.2.1) := rfl
set_option maxRecDepth 100000 in
theorem cw_32 : wAt 30171 = some (Cond.code in_32.1 in_32.2.1 in_32.2.2.1 in_32.2.2.2.1) := rfl
set_option maxRecDepth 100000 in
theorem cw_33 : wAt 30199 = some (Cond.code in_33.1 in_33.2.1 in_33.2.2.1 in_33.2.2.2.1) := rfl
set_option maxRecDepth 100000 in
theorem cw_34 : wAt 30127 = some (Cond.code in_34.1 in_34.2.1 in_34.2.2.1 in_34.2.2.2.1) := rfl
set_option maxRecDepth 100000 in
theorem cw_35 : wAt 30131 = some (Cond.code in_35.1 in_35.2.1 in_35.2.2.1 in_35.2.2.2.1) := rfl
set_option maxRecDepth 100000 in
theorem cw_36 : wAt 30137 = some (Cond.code in_36.1 in_36.2.1 in_36.2.2.1 in_36.2.2.2.1) := rfl
set_option maxRecDepth 100000 in
theorem cw_37 : wAt 30191 = some (Cond.code in_37.1 in_37.2.1 in_37.2.2.1 in_37.2.2.2.1) := rfl
set_option maxRecDepth 100000 in
theorem cw_38 : wAt 30195 = some (Cond.code in_38.1 in_38.2.1 in_38.2.2.1 in_38.2.2.2.1) := rfl
set_option maxRecDepth 100000 in
theorem cw_39 : wAt 30215 = some (Cond.code in_39.1 in_39.2.1 in_39.2.2.1 in_39.2.2.2.1) := rfl
set_option maxRecDepth 100000 in
theorem cw_40 : wAt 10218 = some (Cond.code in_40.1 in_40.2.1 in_40.2.2.1 in_40.2.2.2.1) := rfl
set_option maxRecDepth 100000 in
theorem cw_41 : wAt 30103 = some (Cond.code in_41.1 in_41.2.1 in_41.2.2.1 in_41.2.2.2.1) := rfl
set_option maxRecDepth 100000 in
theorem cw_42 : wAt 30123 = some (Cond.code in_42.1 in_42.2.1 in_42.2.2.1 in_42.2.2.2.1) := rfl
set_option maxRecDepth 100000 in
theorem cw_43 : wAt 30145 = some (Cond.code in_43.1 in_43.2.1 in_43.2.2.1 in_43.2.2.2.1) := rfl
set_option maxRecDepth 100000 in
theorem cw_44 : wAt 30149 = some (Cond.code in_44.1 in_44.2.1 in_44.2.2.1 in_44.2.2.2.1) := rfl
set_option maxRecDepth 100000 in
theorem cw_45 : wAt 30163 = some (Cond.code in_45.1 in_45.2.1 in_45.2.2.1 in_45.2.2.2.1) := rfl
set_option maxRecDepth 100000 in
theorem cw_46 : wAt 30166 = some (Cond.code in_46.1 in_46.2.1 in_46.2.2.1 in_46.2.2.2.1) := rfl
set_option maxRecDepth 100000 in
theorem cw_47 : wAt 30176 = some (Cond.code in_47.1 in_47.2.1 in_47.2.2.1 in_47.2.2.2.1) := rfl
set_option maxRecDepth 100000 in
theorem cw_48 : wAt 20013 = some (Cond.code in_48.1 in_48.2.1 in_48.2.2.1 in_48.2.2.2.1) := rfl
set_option maxRecDepth 100000 in
theorem cw_49 : wAt 30229 = some (Cond.code in_49.1 in_49.2.1 in_49.2.2.1 in_49.2.2.2.1) := rfl
set_option maxRecDepth 100000 in
theorem cw_50 : wAt 30239 = some (Cond.code in_50.1 in_50.2.1 in_50.2.2.1 in_50.2.2.2.1) := rfl
set_option maxRecDepth 100000 in
theorem cw_51 : wAt 40002 = some (Cond.code in_51.1 in_51.2.1 in_51.2.2.1 in_51.2.2.2.1) := rfl
set_option maxRecDepth 100000 in
theorem cw_52 : wAt 10102 = some (Cond.code in_52.1 in_52.2.1 in_52.2.2.1 in_52.2.2.2.1) := rfl
set_option maxRecDepth 100000 in
theorem cw_53 : wAt 20109 = some (Cond.code in_53.1 in_53.2.1 in_53.2.2.1 in_53.2.2.2.1) := rfl
set_option maxRecDepth 100000 in
theorem cw_54 : wAt 30119 = some (Cond.code in_54.1 in_54.2.1 in_54.2.2.1 in_54.2.2.2.1) := rfl
set_option maxRecDepth 100000 in
theorem cw_55 : wAt 20084 = some (Cond.code in_55.1 in_55.2.1 in_55.2.2.1 in_55.2.2.2.1) := rfl
set_option maxRecDepth 100000 in
theorem cw_56 : wAt 30028 = some (Cond.code in_56.1 in_56.2.1 in_56.2.2.1 in_56.2.2.2.1) := rfl
set_option maxRecDepth 100000 in
theorem cw_57 : wAt 20113 = some (Cond.code in_57.1 in_57.2.1 in_57.2.2.1 in_57.2.2.2.1) := rfl
set_option maxRecDepth 100000 in
theorem cw_58 : wAt 30032 = some (Cond.code in_58.1 in_58.2.1 in_58.2.2.1 in_58.2.2.2.1) := rfl
set_option maxRecDepth 100000 in
theorem cw_59 : wAt 20175 = some (Cond.code in_59.1 in_59.2.1 in_59.2.2.1 in_59.2.2.2.1) := rfl
set_option maxRecDepth 100000 in
theorem cw_60 : wAt 20183 = some (Cond.code in_60.1 in_60.2.1 in_60.2.2.1 in_60.2.2.2.1) := rfl
set_option maxRecDepth 100000 in
theorem cw_61 : wAt 20221 = some (Cond.code in_61.1 in_61.2.1 in_61.2.2.1 in_61.2.2.2.1) := rfl
set_option maxRecDepth 100000 in
theorem cw_62 : wAt 30141 = some (Cond.code in_62.1 in_62.2.1 in_62.2.2.1 in_62.2.2.2.1) := rfl
set_option maxRecDepth 100000 in
theorem cw_63 : wAt 10050 = some (Cond.code in_63.1 in_63.2.1 in_63.2.2.1 in_63.2.2.2.1) := rfl
set_option maxRecDepth 100000 in
theorem cw_64 : wAt 20101 = some (Cond.code in_64.1 in_64.2.1 in_64.2.2.1 in_64.2.2.2.1) := rfl
set_option maxRecDepth 100000 in
theorem cw_65 : wAt 30114 = some (Cond.code in_65.1 in_65.2.1 in_65.2.2.1 in_65.2.2.2.1) := rfl
set_option maxRecDepth 100000 in
theorem cw_66 : wAt 20142 = some (Cond.code in_66.1 in_66.2.1 in_66.2.2.1 in_66.2.2.2.1) := rfl
set_option maxRecDepth 100000 in
theorem cw_67 : wAt 30207 = some (Cond.code in_67.1 in_67.2.1 in_67.2.2.1 in_67.2.2.2.1) := rfl
set_option maxRecDepth 100000 in
theorem cw_68 : wAt 20138 = some (Cond.code in_68.1 in_68.2.1 in_68.2.2.1 in_68.2.2.2.1) := rfl
set_option maxRecDepth 100000 in
theorem cw_69 : wAt 20146 = some (Cond.code in_69.1 in_69.2.1 in_69.2.2.1 in_69.2.2.2.1) := rfl
set_option maxRecDepth 100000 in
theorem cw_70 : wAt 30005 = some (Cond.code in_70.1 in_70.2.1 in_70.2.2.1 in_70.2.2.2.1) := rfl
set_option maxRecDepth 100000 in
theorem cw_71 : wAt 20150 = some (Cond.code in_71.1 in_71.2.1 in_71.2.2.1 in_71.2.2.2.1) := rfl
set_option maxRecDepth 100000 in
theorem cw_72 : wAt 30015 = some (Cond.code in_72.1 in_72.2.1 in_72.2.2.1 in_72.2.2.2.1) := rfl
set_option maxRecDepth 100000 in
theorem cw_73 : wAt 10017 = some (Cond.code in_73.1 in_73.2.1 in_73.2.2.1 in_73.2.2.2.1) := rfl
set_option maxRecDepth 100000 in
theorem cw_74 : wAt 20055 = some (Cond.code in_74.1 in_74.2.1 in_74.2.2.1 in_74.2.2.2.1) := rfl
set_option maxRecDepth 100000 in
theorem cw_75 : wAt 20062 = some (Cond.code in_75.1 in_75.2.1 in_75.2.2.1 in_75.2.2.2.1) := rfl
set_option maxRecDepth 100000 in
theorem cw_76 : wAt 20069 = some (Cond.code in_76.1 in_76.2.1 in_76.2.2.1 in_76.2.2.2.1) := rfl
set_option maxRecDepth 100000 in
theorem cw_77 : wAt 20073 = some (Cond.code in_77.1 in_77.2.1 in_77.2.2.1 in_77.2.2.2.1) := rfl
set_option maxRecDepth 100000 in
theorem cw_78 : wAt 20088 = some (Cond.code in_78.1 in_78.2.1 in_78.2.2.1 in_78.2.2.2.1) := rfl
set_option maxRecDepth 100000 in
theorem cw_79 : wAt 20097 = some (Cond.code in_79.1 in_79.2.1 in_79.2.2.1 in_79.2.2.2.1) := rfl
set_option maxRecDepth 100000 in
theorem cw_80 : wAt 20105 = some (Cond.code in_80.1 in_80.2.1 in_80.2.2.1 in_80.2.2.2.1) := rfl
set_option maxRecDepth 100000 in
theorem cw_81 : wAt 20117 = some (Cond.code in_81.1 in_81.2.1 in_81.2.2.1 in_81.2.2.2.1) := rfl
set_option maxRecDepth 100000 in
theorem cw_82 : wAt 20130 = some (Cond.code in_82.1 in_82.2.1 in_82.2.2.1 in_82.2.2.2.1) := rfl
set_option maxRecDepth 100000 in
theorem cw_83 : wAt 20154 = some (Cond.code in_83.1 in_83.2.1 in_83.2.2.1 in_83.2.2.2.1) := rfl
set_option maxRecDepth 100000 in
theorem cw_84 : wAt 20158 = some (Cond.code in_84.1 in_84.2.1 in_84.2.2.1 in_84.2.2.2.1) := rfl
set_option maxRecDepth 100000 in
theorem cw_85 : wAt 30041 = some (Cond.code in_85.1 in_85.2.1 in_85.2.2.1 in_85.2.2.2.1) := rfl
set_option maxRecDepth 100000 in
theorem cw_86 : wAt 30049 = some (Cond.code in_86.1 in_86.2.1 in_86.2.2.1 in_86.2.2.2.1) := rfl
set_option maxRecDepth 100000 in
theorem cw_87 : wAt 30065 = some (Cond.code in_87.1 in_87.2.1 in_87.2.2.1 in_87.2.2.2.1) := rfl
set_option maxRecDepth 100000 in
theorem cw_88 : wAt 30091 = some (Cond.code in_88.1 in_88.2.1 in_88.2.2.1 in_88.2.2.2.1) := rfl
set_option maxRecDepth 100000 in
theorem cw_89 : wAt 30095 = some (Cond.code in_89.1 in_89.2.1 in_89.2.2.1 in_89.2.2.2.1) := rfl
set_option maxRecDepth 100000 in
theorem cw_90 : wAt 30153 = some (Cond.code in_90.1 in_90.2.1 in_90.2.2.1 in_90.2.2.2.1) := rfl
set_option maxRecDepth 100000 in
theorem cw_91 : wAt 30159 = some (Cond.code in_91.1 in_91.2.1 in_91.2.2.1 in_91.2.2.2.1) := rfl
set_option maxRecDepth 100000 in
theorem cw_92 : wAt 30182 = some (Cond.code in_92.1 in_92.2.1 in_92.2.2.1 in_92.2.2.2.1) := rfl
set_option maxRecDepth 100000 in
theorem cw_93 : wAt 30187 = some (Cond.code in_93.1 in_93.2.1 in_93.2.2.1 in_93.2.2.2.1) := rfl
set_option maxRecDepth 100000 in
theorem cw_94 : wAt 30203 = some (Cond.code in_94.1 in_94.2.1 in_94.2.2.1 in_94.2.2.2.1) := rfl
set_option maxRecDepth 100000 in
theorem cw_95 : wAt 30211 = some (Cond.code in_95.1 in_95.2.1 in_95.2.2.1 in_95.2.2.2.1) := rfl
set_option maxRecDepth 100000 in
theorem cw_96 : wAt 30219 = some (Cond.code in_96.1 in_96.2.1 in_96.2.2.1 in_96.2.2.2.1) := rfl
set_option maxRecDepth 100000 in
theorem cw_97 : wAt 30224 = some (Cond.code in_97.1 in_97.2.1 in_97.2.2.1 in_97.2.2.2.1) := rfl
set_option maxRecDepth 100000 in
theorem cw_98 : wAt 30234 = some (Cond.code in_98.1 in_98.2.1 in_98.2.2.1 in_98.2.2.2.1) := rfl
set_option maxRecDepth 100000 in
theorem cw_99 : wAt 40011 = some (Cond.code in_99.1 in_99.2.1 in_99.2.2.1 in_99.2.2.2.1) := rfl
set_option maxRecDepth 100000 in
theorem cw_100 : wAt 40020 = some (Cond.code in_100.1 in_100.2.1 in_100.2.2.1 in_100.2.2.2.1) := rfl
set_option maxRecDepth 100000 in
theorem cw_101 : wAt 40025 = some (Cond.code in_101.1 in_101.2.1 in_101.2.2.1 in_101.2.2.2.1) := rfl
set_option maxRecDepth 100000 in
theorem cw_102 : wAt 40033 = some (Cond.code in_102.1 in_102.2.1 in_102.2.2.1 in_102.2.2.2.1) := rfl
set_option maxRecDepth 100000 in
theorem cw_103 : wAt 40038 = some (Cond.code in_103.1 in_103.2.1 in_103.2.2.1 in_103.2.2.2.1) := rfl
set_option maxRecDepth 100000 in
theorem cw_104 : wAt 40042 = some (Cond.code in_104.1 in_104.2.1 in_104.2.2.1 in_104.2.2.2.1) := rfl
set_option maxRecDepth 100000 in
theorem cw_105 : wAt 20058 = some (Cond.code in_105.1 in_105.2.1 in_105.2.2.1 in_105.2.2.2.1) := rfl
set_option maxRecDepth 100000 in
theorem cw_106 : wAt 20065 = some (Cond.code in_106.1 in_106.2.1 in_106.2.2.1 in_106.2.2.2.1) := rfl
set_option maxRecDepth 100000 in
theorem cw_107 : wAt 20076 = some (Cond.code in_107.1 in_107.2.1 in_107.2.2.1 in_107.2.2.2.1) := rfl
set_option maxRecDepth 100000 in
theorem cw_108 : wAt 20134 = some (Cond.code in_108.1 in_108.2.1 in_108.2.2.1 in_108.2.2.2.1) := rfl
set_option maxRecDepth 100000 in
theorem cw_109 : wAt 20121 = some (Cond.code in_109.1 in_109.2.1 in_109.2.2.1 in_109.2.2.2.1) := rfl
set_option maxRecDepth 100000 in
theorem cw_110 : wAt 20162 = some (Cond.code in_110.1 in_110.2.1 in_110.2.2.1 in_110.2.2.2.1) := rfl
set_option maxRecDepth 100000 in
theorem cw_111 : wAt 30099 = some (Cond.code in_111.1 in_111.2.1 in_111.2.2.1 in_111.2.2.2.1) := rfl
set_option maxRecDepth 100000 in
theorem cw_112 : wAt 20186 = some (Cond.code in_112.1 in_112.2.1 in_112.2.2.1 in_112.2.2.2.1) := rfl
set_option maxRecDepth 100000 in
theorem cw_113 : wAt 20193 = some (Cond.code in_113.1 in_113.2.1 in_113.2.2.1 in_113.2.2.2.1) := rfl
set_option maxRecDepth 100000 in
theorem cw_114 : wAt 40051 = some (Cond.code in_114.1 in_114.2.1 in_114.2.2.1 in_114.2.2.2.1) := rfl
set_option maxRecDepth 100000 in
theorem cw_115 : wAt 40119 = some (Cond.code in_115.1 in_115.2.1 in_115.2.2.1 in_115.2.2.2.1) := rfl
set_option maxRecDepth 100000 in
theorem cw_116 : wAt 40127 = some (Cond.code in_116.1 in_116.2.1 in_116.2.2.1 in_116.2.2.2.1) := rfl
set_option maxRecDepth 100000 in
theorem cw_117 : wAt 40206 = some (Cond.code in_117.1 in_117.2.1 in_117.2.2.1 in_117.2.2.2.1) := rfl
set_option maxRecDepth 100000 in
theorem cw_118 : wAt 40150 = some (Cond.code in_118.1 in_118.2.1 in_118.2.2.1 in_118.2.2.2.1) := rfl
set_option maxRecDepth 100000 in
theorem cw_119 : wAt 40193 = some (Cond.code in_119.1 in_119.2.1 in_119.2.2.1 in_119.2.2.2.1) := rfl
set_option maxRecDepth 100000 in
theorem cw_120 : wAt 40181 = some (Cond.code in_120.1 in_120.2.1 in_120.2.2.1 in_120.2.2.2.1) := rfl
set_option maxRecDepth 100000 in
theorem cw_121 : wAt 40141 = some (Cond.code in_121.1 in_121.2.1 in_121.2.2.1 in_121.2.2.2.1) := rfl
set_option maxRecDepth 100000 in
theorem cw_122 : wAt 40115 = some (Cond.code in_122.1 in_122.2.1 in_122.2.2.1 in_122.2.2.2.1) := rfl
set_option maxRecDepth 100000 in
theorem cw_123 : wAt 40124 = some (Cond.code in_123.1 in_123.2.1 in_123.2.2.1 in_123.2.2.2.1) := rfl
set_option maxRecDepth 100000 in
theorem cw_124 : wAt 40132 = some (Cond.code in_124.1 in_124.2.1 in_124.2.2.1 in_124.2.2.2.1) := rfl
set_option maxRecDepth 100000 in
theorem cw_125 : wAt 40146 = some (Cond.code in_125.1 in_125.2.1 in_125.2.2.1 in_125.2.2.2.1) := rfl
set_option maxRecDepth 100000 in
theorem cw_126 : wAt 40138 = some (Cond.code in_126.1 in_126.2.1 in_126.2.2.1 in_126.2.2.2.1) := rfl
set_option maxRecDepth 100000 in
theorem cw_127 : wAt 40158 = some (Cond.code in_127.1 in_127.2.1 in_127.2.2.1 in_127.2.2.2.1) := rfl
set_option maxRecDepth 100000 in
theorem cw_128 : wAt 40154 = some (Cond.code in_128.1 in_128.2.1 in_128.2.2.1 in_128.2.2.2.1) := rfl
set_option maxRecDepth 100000 in
theorem cw_129 : wAt 40162 = some (Cond.code in_129.1 in_129.2.1 in_129.2.2.1 in_129.2.2.2.1) := rfl
set_option maxRecDepth 100000 in
theorem cw_130 : wAt 40168 = some (Cond.code in_130.1 in_130.2.1 in_130.2.2.1 in_130.2.2.2.1) := rfl
set_option maxRecDepth 100000 in
theorem cw_131 : wAt 40185 = some (Cond.code in_131.1 in_131.2.1 in_131.2.2.1 in_131.2.2.2.1) := rfl
set_option maxRecDepth 100000 in
theorem cw_132 : wAt 40177 = some (Cond.code in_132.1 in_132.2.1 in_132.2.2.1 in_132.2.2.2.1) := rfl
set_option maxRecDepth 100000 in
theorem cw_133 : wAt 40209 = some (Cond.code in_133.1 in_133.2.1 in_133.2.2.1 in_133.2.2.2.1) := rfl
set_option maxRecDepth 100000 in
theorem cw_134 : wAt 50008 = some (Cond.code in_134.1 in_134.2.1 in_134.2.2.1 in_134.2.2.2.1) := rfl
set_option maxRecDepth 100000 in
theorem cw_135 : wAt 40198 = some (Cond.code in_135.1 in_135.2.1 in_135.2.2.1 in_135.2.2.2.1) := rfl
set_option maxRecDepth 100000 in
theorem cw_136 : wAt 40213 = some (Cond.code in_136.1 in_136.2.1 in_136.2.2.1 in_136.2.2.2.1) := rfl
set_option maxRecDepth 100000 in
theorem cw_137 : wAt 40202 = some (Cond.code in_137.1 in_137.2.1 in_137.2.2.1 in_137.2.2.2.1) := rfl
set_option maxRecDepth 100000 in
theorem cw_138 : wAt 40189 = some (Cond.code in_138.1 in_138.2.1 in_138.2.2.1 in_138.2.2.2.1) := rfl
set_option maxRecDepth 100000 in
theorem cw_139 : wAt 40217 = some (Cond.code in_139.1 in_139.2.1 in_139.2.2.1 in_139.2.2.2.1) := rfl
set_option maxRecDepth 100000 in
theorem cw_140 : wAt 50016 = some (Cond.code in_140.1 in_140.2.1 in_140.2.2.1 in_140.2.2.2.1) := rfl
set_option maxRecDepth 100000 in
theorem cw_141 : wAt 50024 = some (Cond.code in_141.1 in_141.2.1 in_141.2.2.1 in_141.2.2.2.1) := rfl
set_option maxRecDepth 100000 in
theorem cw_142 : wAt 50005 = some (Cond.code in_142.1 in_142.2.1 in_142.2.2.1 in_142.2.2.2.1) := rfl
set_option maxRecDepth 100000 in
theorem cw_143 : wAt 50032 = some (Cond.code in_143.1 in_143.2.1 in_143.2.2.1 in_143.2.2.2.1) := rfl
set_option maxRecDepth 100000 in
theorem cw_144 : wAt 50028 = some (Cond.code in_144.1 in_144.2.1 in_144.2.2.1 in_144.2.2.2.1) := rfl
set_option maxRecDepth 100000 in
theorem cw_145 : wAt 50020 = some (Cond.code in_145.1 in_145.2.1 in_145.2.2.1 in_145.2.2.2.1) := rfl
set_option maxRecDepth 100000 in
theorem cw_146 : wAt 50001 = some (Cond.code in_146.1 in_146.2.1 in_146.2.2.1 in_146.2.2.2.1) := rfl
set_option maxRecDepth 100000 in
theorem cw_147 : wAt 40237 = some (Cond.code in_147.1 in_147.2.1 in_147.2.2.1 in_147.2.2.2.1) := rfl
set_option maxRecDepth 100000 in
theorem cw_148 : wAt 50012 = some (Cond.code in_148.1 in_148.2.1 in_148.2.2.1 in_148.2.2.2.1) := rfl
set_option maxRecDepth 100000 in
theorem cw_149 : wAt 40233 = some (Cond.code in_149.1 in_149.2.1 in_149.2.2.1 in_149.2.2.2.1) := rfl
set_option maxRecDepth 100000 in
theorem cw_150 : wAt 40229 = some (Cond.code in_150.1 in_150.2.1 in_150.2.2.1 in_150.2.2.2.1) := rfl
set_option maxRecDepth 100000 in
theorem cw_151 : wAt 40225 = some (Cond.code in_151.1 in_151.2.1 in_151.2.2.1 in_151.2.2.2.1) := rfl
set_option maxRecDepth 100000 in
theorem cw_152 : wAt 40221 = some (Cond.code in_152.1 in_152.2.1 in_152.2.2.1 in_152.2.2.2.1) := rfl
set_option maxRecDepth 100000 in
theorem cw_153 : wAt 50041 = some (Cond.code in_153.1 in_153.2.1 in_153.2.2.1 in_153.2.2.2.1) := rfl
set_option maxRecDepth 100000 in
theorem cw_154 : wAt 50036 = some (Cond.code in_154.1 in_154.2.1 in_154.2.2.1 in_154.2.2.2.1) := rfl
set_option maxRecDepth 100000 in
theorem cw_155 : wAt 50049 = some (Cond.code in_155.1 in_155.2.1 in_155.2.2.1 in_155.2.2.2.1) := rfl
set_option maxRecDepth 100000 in
theorem cw_156 : wAt 50045 = some (Cond.code in_156.1 in_156.2.1 in_156.2.2.1 in_156.2.2.2.1) := rfl
set_option maxRecDepth 100000 in
theorem cw_157 : wAt 50064 = some (Cond.code in_157.1 in_157.2.1 in_157.2.2.1 in_157.2.2.2.1) := rfl
set_option maxRecDepth 100000 in
theorem cw_158 : wAt 50061 = some (Cond.code in_158.1 in_158.2.1 in_158.2.2.1 in_158.2.2.2.1) := rfl
set_option maxRecDepth 100000 in
theorem cw_159 : wAt 50057 = some (Cond.code in_159.1 in_159.2.1 in_159.2.2.1 in_159.2.2.2.1) := rfl
set_option maxRecDepth 100000 in
theorem cw_160 : wAt 50053 = some (Cond.code in_160.1 in_160.2.1 in_160.2.2.1 in_160.2.2.2.1) := rfl
set_option maxRecDepth 100000 in
theorem cw_161 : wAt 50068 = some (Cond.code in_161.1 in_161.2.1 in_161.2.2.1 in_161.2.2.2.1) := rfl
set_option maxRecDepth 100000 in
theorem cw_162 : wAt 50084 = some (Cond.code in_162.1 in_162.2.1 in_162.2.2.1 in_162.2.2.2.1) := rfl
set_option maxRecDepth 100000 in
theorem cw_163 : wAt 50104 = some (Cond.code in_163.1 in_163.2.1 in_163.2.2.1 in_163.2.2.2.1) := rfl
set_option maxRecDepth 100000 in
theorem cw_164 : wAt 50092 = some (Cond.code in_164.1 in_164.2.1 in_164.2.2.1 in_164.2.2.2.1) := rfl
set_option maxRecDepth 100000 in
theorem cw_165 : wAt 50100 = some (Cond.code in_165.1 in_165.2.1 in_165.2.2.1 in_165.2.2.2.1) := rfl
set_option maxRecDepth 100000 in
theorem cw_166 : wAt 50088 = some (Cond.code in_166.1 in_166.2.1 in_166.2.2.1 in_166.2.2.2.1) := rfl
set_option maxRecDepth 100000 in
theorem cw_167 : wAt 50096 = some (Cond.code in_167.1 in_167.2.1 in_167.2.2.1 in_167.2.2.2.1) := rfl
set_option maxRecDepth 100000 in
theorem cw_168 : wAt 50076 = some (Cond.code in_168.1 in_168.2.1 in_168.2.2.1 in_168.2.2.2.1) := rfl
set_option maxRecDepth 100000 in
theorem cw_169 : wAt 50080 = some (Cond.code in_169.1 in_169.2.1 in_169.2.2.1 in_169.2.2.2.1) := rfl
set_option maxRecDepth 100000 in
theorem cw_170 : wAt 50072 = some (Cond.code in_170.1 in_170.2.1 in_170.2.2.1 in_170.2.2.2.1) := rfl
set_option maxRecDepth 100000 in
theorem cw_171 : wAt 50108 = some (Cond.code in_171.1 in_171.2.1 in_171.2.2.1 in_171.2.2.2.1) := rfl
set_option maxRecDepth 100000 in
theorem cw_172 : wAt 50121 = some (Cond.code in_172.1 in_172.2.1 in_172.2.2.1 in_172.2.2.2.1) := rfl
set_option maxRecDepth 100000 in
theorem cw_173 : wAt 50117 = some (Cond.code in_173.1 in_173.2.1 in_173.2.2.1 in_173.2.2.2.1) := rfl
set_option maxRecDepth 100000 in
theorem cw_174 : wAt 50112 = some (Cond.code in_174.1 in_174.2.1 in_174.2.2.1 in_174.2.2.2.1) := rfl
set_option maxRecDepth 100000 in
theorem cw_175 : wAt 50125 = some (Cond.code in_175.1 in_175.2.1 in_175.2.2.1 in_175.2.2.2.1) := rfl
set_option maxRecDepth 100000 in
theorem cw_176 : wAt 50133 = some (Cond.code in_176.1 in_176.2.1 in_176.2.2.1 in_176.2.2.2.1) := rfl
set_option maxRecDepth 100000 in
theorem cw_177 : wAt 50129 = some (Cond.code in_177.1 in_177.2.1 in_177.2.2.1 in_177.2.2.2.1) := rfl
set_option maxRecDepth 100000 in
theorem cw_178 : wAt 50137 = some (Cond.code in_178.1 in_178.2.1 in_178.2.2.1 in_178.2.2.2.1) := rfl
set_option maxRecDepth 100000 in
theorem cw_179 : wAt 50141 = some (Cond.code in_179.1 in_179.2.1 in_179.2.2.1 in_179.2.2.2.1) := rfl
set_option maxRecDepth 100000 in
theorem cw_180 : wAt 50149 = some (Cond.code in_180.1 in_180.2.1 in_180.2.2.1 in_180.2.2.2.1) := rfl
set_option maxRecDepth 100000 in
theorem cw_181 : wAt 50145 = some (Cond.code in_181.1 in_181.2.1 in_181.2.2.1 in_181.2.2.2.1) := rfl
set_option maxRecDepth 100000 in
theorem cw_182 : wAt 50153 = some (Cond.code in_182.1 in_182.2.1 in_182.2.2.1 in_182.2.2.2.1) := rfl
set_option maxRecDepth 100000 in
theorem cw_183 : wAt 50168 = some (Cond.code in_183.1 in_183.2.1 in_183.2.2.1 in_183.2.2.2.1) := rfl
set_option maxRecDepth 100000 in
theorem cw_184 : wAt 50162 = some (Cond.code in_184.1 in_184.2.1 in_184.2.2.1 in_184.2.2.2.1) := rfl
set_option maxRecDepth 100000 in
theorem cw_185 : wAt 50173 = some (Cond.code in_185.1 in_185.2.1 in_185.2.2.1 in_185.2.2.2.1) := rfl
set_option maxRecDepth 100000 in
theorem cw_186 : wAt 50178 = some (Cond.code in_186.1 in_186.2.1 in_186.2.2.1 in_186.2.2.2.1) := rfl
set_option maxRecDepth 100000 in
theorem cw_187 : wAt 50187 = some (Cond.code in_187.1 in_187.2.1 in_187.2.2.1 in_187.2.2.2.1) := rfl
set_option maxRecDepth 100000 in
theorem cw_188 : wAt 50182 = some (Cond.code in_188.1 in_188.2.1 in_188.2.2.1 in_188.2.2.2.1) := rfl
set_option maxRecDepth 100000 in
theorem cw_189 : wAt 50191 = some (Cond.code in_189.1 in_189.2.1 in_189.2.2.1 in_189.2.2.2.1) := rfl
set_option maxRecDepth 100000 in
theorem cw_190 : wAt 50195 = some (Cond.code in_190.1 in_190.2.1 in_190.2.2.1 in_190.2.2.2.1) := rfl
set_option maxRecDepth 100000 in
theorem cw_191 : wAt 50199 = some (Cond.code in_191.1 in_191.2.1 in_191.2.2.1 in_191.2.2.2.1) := rfl
set_option maxRecDepth 100000 in
theorem cw_192 : wAt 30008 = some (Cond.code in_192.1 in_192.2.1 in_192.2.2.1 in_192.2.2.2.1) := rfl
set_option maxRecDepth 100000 in
theorem cw_193 : wAt 30084 = some (Cond.code in_193.1 in_193.2.1 in_193.2.2.1 in_193.2.2.2.1) := rfl
theorem ck_0 : ckM mths in_0 = true := by decide +kernel
theorem ck_1 : ckM mths in_1 = true := by decide +kernel
theorem ck_2 : ckM mths in_2 = true := by decide +kernel
theorem ck_3 : ckM mths in_3 = true := by decide +kernel
theorem ck_4_0 : ((es_4[0]?.getD (0, [])).2.all (fun q => ckE mths in_4 q.1 q.2)) = true := by decide +kernel
theorem ck_4_1 : ((es_4[1]?.getD (0, [])).2.all (fun q => ckE mths in_4 q.1 q.2)) = true := by decide +kernel
theorem ck_4_2 : ((es_4[2]?.getD (0, [])).2.all (fun q => ckE mths in_4 q.1 q.2)) = true := by decide +kernel
theorem ck_4_3 : ((es_4[3]?.getD (0, [])).2.all (fun q => ckE mths in_4 q.1 q.2)) = true := by decide +kernel
theorem ck_4_4 : ((es_4[4]?.getD (0, [])).2.all (fun q => ckE mths in_4 q.1 q.2)) = true := by decide +kernel
theorem ck_4_5 : ((es_4[5]?.getD (0, [])).2.all (fun q => ckE mths in_4 q.1 q.2)) = true := by decide +kernel
theorem ck_4_6 : ((es_4[6]?.getD (0, [])).2.all (fun q => ckE mths in_4 q.1 q.2)) = true := by decide +kernel
theorem ck_4_7 : ((es_4[7]?.getD (0, [])).2.all (fun q => ckE mths in_4 q.1 q.2)) = true := by decide +kernel
theorem ck_4_8 : ((es_4[8]?.getD (0, [])).2.all (fun q => ckE mths in_4 q.1 q.2)) = true := by decide +kernel
theorem ck_4_9 : ((es_4[9]?.getD (0, [])).2.all (fun q => ckE mths in_4 q.1 q.2)) = true := by decide +kernel
theorem ck_4 : ckM mths in_4 = true := List.all_eq_true.mpr (List.forall_mem_cons.mpr ⟨ck_4_0, List.forall_mem_cons.mpr ⟨ck_4_1, List.forall_mem_cons.mpr ⟨ck_4_2, List.forall_mem_cons.mpr ⟨ck_4_3, List.forall_mem_cons.mpr ⟨ck_4_4, List.forall_mem_cons.mpr ⟨ck_4_5, List.forall_mem_cons.mpr ⟨ck_4_6, List.forall_mem_cons.mpr ⟨ck_4_7, List.forall_mem_cons.mpr ⟨ck_4_8, List.forall_mem_cons.mpr ⟨ck_4_9, fun _ h => absurd h List.not_mem_nil⟩⟩⟩⟩⟩⟩⟩⟩⟩⟩)
theorem ck_5_0 : ((es_5[0]?.getD (0, [])).2.all (fun q => ckE mths in_5 q.1 q.2)) = true := by decide +kernel
theorem ck_5_1 : ((es_5[1]?.getD (0, [])).2.all (fun q => ckE mths in_5 q.1 q.2)) = true := by decide +kernel
theorem ck_5_2 : ((es_5[2]?.getD (0, [])).2.all (fun q => ckE mths in_5 q.1 q.2)) = true := by decide +kernel
theorem ck_5_3 : ((es_5[3]?.getD (0, [])).2.all (fun q => ckE mths in_5 q.1 q.2)) = true := by decide +kernel
theorem ck_5_4 : ((es_5[4]?.getD (0, [])).2.all (fun q => ckE mths in_5 q.1 q.2)) = true := by decide +kernel
theorem ck_5_5 : ((es_5[5]?.getD (0, [])).2.all (fun q => ckE mths in_5 q.1 q.2)) = true := by decide +kernel
theorem ck_5_6 : ((es_5[6]?.getD (0, [])).2.all (fun q => ckE mths in_5 q.1 q.2)) = true := by decide +kernel
theorem ck_5_7 : ((es_5[7]?.getD (0, [])).2.all (fun q => ckE mths in_5 q.1 q.2)) = true := by decide +kernel
theorem ck_5_8 : ((es_5[8]?.getD (0, [])).2.all (fun q => ckE mths in_5 q.1 q.2)) = true := by decide +kernel
theorem ck_5 : ckM mths in_5 = true := List.all_eq_true.mpr (List.forall_mem_cons.mpr ⟨ck_5_0, List.forall_mem_cons.mpr ⟨ck_5_1, List.forall_mem_cons.mpr ⟨ck_5_2, List.forall_mem_cons.mpr ⟨ck_5_3, List.forall_mem_cons.mpr ⟨ck_5_4, List.forall_mem_cons.mpr ⟨ck_5_5, List.forall_mem_cons.mpr ⟨ck_5_6, List.forall_mem_cons.mpr ⟨ck_5_7, List.forall_mem_cons.mpr ⟨ck_5_8, fun _ h => absurd h List.not_mem_nil⟩⟩⟩⟩⟩⟩⟩⟩⟩)
theorem ck_6 : ckM mths in_6 = true := by decide +kernel
theorem ck_7 : ckM mths in_7 = true := by decide +kernel
theorem ck_8 : ckM mths in_8 = true := by decide +kernel
theorem ck_9 : ckM mths in_9 = true := by decide +kernel
theorem ck_10 : ckM mths in_10 = true := by decide +kernel
theorem ck_11 : ckM mths in_11 = true := by decide +kernel
theorem ck_12 : ckM mths in_12 = true := by decide +kernel
theorem ck_13 : ckM mths in_13 = true := by decide +kernel
theorem ck_14 : ckM mths in_14 = true := by decide +kernel
theorem ck_15 : ckM mths in_15 = true := by decide +kernel
theorem ck_16 : ckM mths in_16 = true := by decide +kernel
theorem ck_17 : ckM mths in_17 = true := by decide +kernel
theorem ck_18 : ckM mths in_18 = true := by decide +kernel
theorem ck_19 : ckM mths in_19 = true := by decide +kernel
theorem ck_20_0 : ((es_20[0]?.getD (0, [])).2.all (fun q => ckE mths in_20 q.1 q.2)) = true := by decide +kernel
theorem ck_20_1 : ((es_20[1]?.getD (0, [])).2.all (fun q => ckE mths in_20 q.1 q.2)) = true := by decide +kernel
theorem ck_20_2 : ((es_20[2]?.getD (0, [])).2.all (fun q => ckE mths in_20 q.1 q.2)) = true := by decide +kernel
theorem ck_20_3 : ((es_20[3]?.getD (0, [])).2.all (fun q => ckE mths in_20 q.1 q.2)) = true := by decide +kernel
theorem ck_20_4 : ((es_20[4]?.getD (0, [])).2.all (fun q => ckE mths in_20 q.1 q.2)) = true := by decide +kernel
theorem ck_20_5 : ((es_20[5]?.getD (0, [])).2.all (fun q => ckE mths in_20 q.1 q.2)) = true := by decide +kernel
theorem ck_20_6 : ((es_20[6]?.getD (0, [])).2.all (fun q => ckE mths in_20 q.1 q.2)) = true := by decide +kernel
theorem ck_20_7 : ((es_20[7]?.getD (0, [])).2.all (fun q => ckE mths in_20 q.1 q.2)) = true := by decide +kernel
theorem ck_20 : ckM mths in_20 = true := List.all_eq_true.mpr (List.forall_mem_cons.mpr ⟨ck_20_0, List.forall_mem_cons.mpr ⟨ck_20_1, List.forall_mem_cons.mpr ⟨ck_20_2, List.forall_mem_cons.mpr ⟨ck_20_3, List.forall_mem_cons.mpr ⟨ck_20_4, List.forall_mem_cons.mpr ⟨ck_20_5, List.forall_mem_cons.mpr ⟨ck_20_6, List.forall_mem_cons.mpr ⟨ck_20_7, fun _ h => absurd h List.not_mem_nil⟩⟩⟩⟩⟩⟩⟩⟩)
theorem ck_21 : ckM mths in_21 = true := by decide +kernel
theorem ck_22_0 : ((es_22[0]?.getD (0, [])).2.all (fun q => ckE mths in_22 q.1 q.2)) = true := by decide +kernel
theorem ck_22_1 : ((es_22[1]?.getD (0, [])).2.all (fun q => ckE mths in_22 q.1 q.2)) = true := by decide +kernel
theorem ck_22_2 : ((es_22[2]?.getD (0, [])).2.all (fun q => ckE mths in_22 q.1 q.2)) = true := by decide +kernel
theorem ck_22_3 : ((es_22[3]?.getD (0, [])).2.all (fun q => ckE mths in_22 q.1 q.2)) = true := by decide +kernel
theorem ck_22_4 : ((es_22[4]?.getD (0, [])).2.all (fun q => ckE mths in_22 q.1 q.2)) = true := by decide +kernel
theorem ck_22_5 : ((es_22[5]?.getD (0, [])).2.all (fun q => ckE mths in_22 q.1 q.2)) = true := by decide +kernel
theorem ck_22_6 : ((es_22[6]?.getD (0, [])).2.all (fun q => ckE mths in_22 q.1 q.2)) = true := by decide +kernel
theorem ck_22_7 : ((es_22[7]?.getD (0, [])).2.all (fun q => ckE mths in_22 q.1 q.2)) = true := by decide +kernel
theorem ck_22_8 : ((es_22[8]?.getD (0, [])).2.all (fun q => ckE mths in_22 q.1 q.2)) = true := by decide +kernel
theorem ck_22 : ckM mths in_22 = true := List.all_eq_true.mpr (List.forall_mem_cons.mpr ⟨ck_22_0, List.forall_mem_cons.mpr ⟨ck_22_1, List.forall_mem_cons.mpr ⟨ck_22_2, List.forall_mem_cons.mpr ⟨ck_22_3, List.forall_mem_cons.mpr ⟨ck_22_4, List.forall_mem_cons.mpr ⟨ck_22_5, List.forall_mem_cons.mpr ⟨ck_22_6, List.forall_mem_cons.mpr ⟨ck_22_7, List.forall_mem_cons.mpr ⟨ck_22_8, fun _ h => absurd h List.not_mem_nil⟩⟩⟩⟩⟩⟩⟩⟩⟩)
theorem ck_23 : ckM mths in_23 = true := by decide +kernel
theorem ck_24 : ckM mths in_24 = true := by decide +kernel
theorem ck_25 : ckM mths in_25 = true := by decide +kernel
theorem ck_26_0 : ((es_26[0]?.getD (0, [])).2.all (fun q => ckE mths in_26 q.1 q.2)) = true := by decide +kernel
theorem ck_26_1 : ((es_26[1]?.getD (0, [])).2.all (fun q => ckE mths in_26 q.1 q.2)) = true := by decide +kernel
theorem ck_26_2 : ((es_26[2]?.getD (0, [])).2.all (fun q => ckE mths in_26 q.1 q.2)) = true := by decide +kernel
theorem ck_26_3 : ((es_26[3]?.getD (0, [])).2.all (fun q => ckE mths in_26 q.1 q.2)) = true := by decide +kernel
theorem ck_26_4 : ((es_26[4]?.getD (0, [])).2.all (fun q => ckE mths in_26 q.1 q.2)) = true := by decide +kernel
theorem ck_26_5 : ((es_26[5]?.getD (0, [])).2.all (fun q => ckE mths in_26 q.1 q.2)) = true := by decide +kernel
theorem ck_26_6 : ((es_26[6]?.getD (0, [])).2.all (fun q => ckE mths in_26 q.1 q.2)) = true := by decide +kernel
theorem ck_26_7 : ((es_26[7]?.getD (0, [])).2.all (fun q => ckE mths in_26 q.1 q.2)) = true := by decide +kernel
theorem ck_26 : ckM mths in_26 = true := List.all_eq_true.mpr (List.forall_mem_cons.mpr ⟨ck_26_0, List.forall_mem_cons.mpr ⟨ck_26_1, List.forall_mem_cons.mpr ⟨ck_26_2, List.forall_mem_cons.mpr ⟨ck_26_3, List.forall_mem_cons.mpr ⟨ck_26_4, List.forall_mem_cons.mpr ⟨ck_26_5, List.forall_mem_cons.mpr ⟨ck_26_6, List.forall_mem_cons.mpr ⟨ck_26_7, fun _ h => absurd h List.not_mem_nil⟩⟩⟩⟩⟩⟩⟩⟩)
theorem ck_27_0 : ((es_27[0]?.getD (0, [])).2.all (fun q => ckE mths in_27 q.1 q.2)) = true := by decide +kernel
theorem ck_27_1 : ((es_27[1]?.getD (0, [])).2.all (fun q => ckE mths in_27 q.1 q.2)) = true := by decide +kernel
theorem ck_27_2 : ((es_27[2]?.getD (0, [])).2.all (fun q => ckE mths in_27 q.1 q.2)) = true := by decide +kernel
theorem ck_27_3 : ((es_27[3]?.getD (0, [])).2.all (fun q => ckE mths in_27 q.1 q.2)) = true := by decide +kernel
theorem ck_27_4 : ((es_27[4]?.getD (0, [])).2.all (fun q => ckE mths in_27 q.1 q.2)) = true := by decide +kernel
theorem ck_27_5 : ((es_27[5]?.getD (0, [])).2.all (fun q => ckE mths in_27 q.1 q.2)) = true := by decide +kernel
theorem ck_27_6 : ((es_27[6]?.getD (0, [])).2.all (fun q => ckE mths in_27 q.1 q.2)) = true := by decide +kernel
theorem ck_27_7 : ((es_27[7]?.getD (0, [])).2.all (fun q => ckE mths in_27 q.1 q.2)) = true := by decide +kernel
theorem ck_27 : ckM mths in_27 = true := List.all_eq_true.mpr (List.forall_mem_cons.mpr ⟨ck_27_0, List.forall_mem_cons.mpr ⟨ck_27_1, List.forall_mem_cons.mpr ⟨ck_27_2, List.forall_mem_cons.mpr ⟨ck_27_3, List.forall_mem_cons.mpr ⟨ck_27_4, List.forall_mem_cons.mpr ⟨ck_27_5, List.forall_mem_cons.mpr ⟨ck_27_6, List.forall_mem_cons.mpr ⟨ck_27_7, fun _ h => absurd h List.not_mem_nil⟩⟩⟩⟩⟩⟩⟩⟩)
theorem ck_28 : ckM mths in_28 = true := by decide +kernel
theorem ck_29 : ckM mths in_29 = true := by decide +kernel
theorem ck_30 : ckM mths in_30 = true := by decide +kernel
theorem ck_31 : ckM mths in_31 = true := by decide +kernel
theorem ck_32 : ckM mths in_32 = true := by decide +kernel
theorem ck_33 : ckM mths in_33 = true := by decide +kernel
theorem ck_34 : ckM mths in_34 = true := by decide +kernel
theorem ck_35 : ckM mths in_35 = true := by decide +kernel
theorem ck_36 : ckM mths in_36 = true := by decide +kernel
theorem ck_37_0 : ((es_37[0]?.getD (0, [])).2.all (fun q => ckE mths in_37 q.1 q.2)) = true := by decide +kernel
theorem ck_37_1 : ((es_37[1]?.getD (0, [])).2.all (fun q => ckE mths in_37 q.1 q.2)) = true := by decide +kernel
theorem ck_37_2 : ((es_37[2]?.getD (0, [])).2.all (fun q => ckE mths in_37 q.1 q.2)) = true := by decide +kernel
theorem ck_37_3 : ((es_37[3]?.getD (0, [])).2.all (fun q => ckE mths in_37 q.1 q.2)) = true := by decide +kernel
theorem ck_37_4 : ((es_37[4]?.getD (0, [])).2.all (fun q => ckE mths in_37 q.1 q.2)) = true := by decide +kernel
theorem ck_37_5 : ((es_37[5]?.getD (0, [])).2.all (fun q => ckE mths in_37 q.1 q.2)) = true := by decide +kernel
theorem ck_37_6 : ((es_37[6]?.getD (0, [])).2.all (fun q => ckE mths in_37 q.1 q.2)) = true := by decide +kernel
theorem ck_37_7 : ((es_37[7]?.getD (0, [])).2.all (fun q => ckE mths in_37 q.1 q.2)) = true := by decide +kernel
theorem ck_37_8 : ((es_37[8]?.getD (0, [])).2.all (fun q => ckE mths in_37 q.1 q.2)) = true := by decide +kernel
theorem ck_37 : ckM mths in_37 = true := List.all_eq_true.mpr (List.forall_mem_cons.mpr ⟨ck_37_0, List.forall_mem_cons.mpr ⟨ck_37_1, List.forall_mem_cons.mpr ⟨ck_37_2, List.forall_mem_cons.mpr ⟨ck_37_3, List.forall_mem_cons.mpr ⟨ck_37_4, List.forall_mem_cons.mpr ⟨ck_37_5, List.forall_mem_cons.mpr ⟨ck_37_6, List.forall_mem_cons.mpr ⟨ck_37_7, List.forall_mem_cons.mpr ⟨ck_37_8, fun _ h => absurd h List.not_mem_nil⟩⟩⟩⟩⟩⟩⟩⟩⟩)
theorem ck_38 : ckM mths in_38 = true := by decide +kernel
theorem ck_39 : ckM mths in_39 = true := by decide +kernel
theorem ck_40 : ckM mths in_40 = true := by decide +kernel
theorem ck_41 : ckM mths in_41 = true := by decide +kernel
theorem ck_42 : ckM mths in_42 = true := by decide +kernel
theorem ck_43_0 : ((es_43[0]?.getD (0, [])).2.all (fun q => ckE mths in_43 q.1 q.2)) = true := by decide +kernel
theorem ck_43_1 : ((es_43[1]?.getD (0, [])).2.all (fun q => ckE mths in_43 q.1 q.2)) = true := by decide +kernel
theorem ck_43_2 : ((es_43[2]?.getD (0, [])).2.all (fun q => ckE mths in_43 q.1 q.2)) = true := by decide +kernel
theorem ck_43_3 : ((es_43[3]?.getD (0, [])).2.all (fun q => ckE mths in_43 q.1 q.2)) = true := by decide +kernel
theorem ck_43_4 : ((es_43[4]?.getD (0, [])).2.all (fun q => ckE mths in_43 q.1 q.2)) = true := by decide +kernel
theorem ck_43_5 : ((es_43[5]?.getD (0, [])).2.all (fun q => ckE mths in_43 q.1 q.2)) = true := by decide +kernel
theorem ck_43_6 : ((es_43[6]?.getD (0, [])).2.all (fun q => ckE mths in_43 q.1 q.2)) = true := by decide +kernel
theorem ck_43_7 : ((es_43[7]?.getD (0, [])).2.all (fun q => ckE mths in_43 q.1 q.2)) = true := by decide +kernel
theorem ck_43_8 : ((es_43[8]?.getD (0, [])).2.all (fun q => ckE mths in_43 q.1 q.2)) = true := by decide +kernel
theorem ck_43 : ckM mths in_43 = true := List.all_eq_true.mpr (List.forall_mem_cons.mpr ⟨ck_43_0, List.forall_mem_cons.mpr ⟨ck_43_1, List.forall_mem_cons.mpr ⟨ck_43_2, List.forall_mem_cons.mpr ⟨ck_43_3, List.forall_mem_cons.mpr ⟨ck_43_4, List.forall_mem_cons.mpr ⟨ck_43_5, List.forall_mem_cons.mpr ⟨ck_43_6, List.forall_mem_cons.mpr ⟨ck_43_7, List.forall_mem_cons.mpr ⟨ck_43_8, fun _ h => absurd h List.not_mem_nil⟩⟩⟩⟩⟩⟩⟩⟩⟩)
theorem ck_44 : ckM mths in_44 = true := by decide +kernel
theorem ck_45 : ckM mths in_45 = true := by decide +kernel
theorem ck_46 : ckM mths in_46 = true := by decide +kernel
theorem ck_47 : ckM mths in_47 = true := by decide +kernel
theorem ck_48 : ckM mths in_48 = true := by decide +kernel
theorem ck_49 : ckM mths in_49 = true := by decide +kernel
theorem ck_50 : ckM mths in_50 = true := by decide +kernel
theorem ck_51_0 : ((es_51[0]?.getD (0, [])).2.all (fun q => ckE mths in_51 q.1 q.2)) = true := by decide +kernel
theorem ck_51_1 : ((es_51[1]?.getD (0, [])).2.all (fun q => ckE mths in_51 q.1 q.2)) = true := by decide +kernel
theorem ck_51_2 : ((es_51[2]?.getD (0, [])).2.all (fun q => ckE mths in_51 q.1 q.2)) = true := by decide +kernel
theorem ck_51_3 : ((es_51[3]?.getD (0, [])).2.all (fun q => ckE mths in_51 q.1 q.2)) = true := by decide +kernel
theorem ck_51_4 : ((es_51[4]?.getD (0, [])).2.all (fun q => ckE mths in_51 q.1 q.2)) = true := by decide +kernel
theorem ck_51_5 : ((es_51[5]?.getD (0, [])).2.all (fun q => ckE mths in_51 q.1 q.2)) = true := by decide +kernel
theorem ck_51_6 : ((es_51[6]?.getD (0, [])).2.all (fun q => ckE mths in_51 q.1 q.2)) = true := by decide +kernel
theorem ck_51_7 : ((es_51[7]?.getD (0, [])).2.all (fun q => ckE mths in_51 q.1 q.2)) = true := by decide +kernel
theorem ck_51_8 : ((es_51[8]?.getD (0, [])).2.all (fun q => ckE mths in_51 q.1 q.2)) = true := by decide +kernel
theorem ck_51 : ckM mths in_51 = true := List.all_eq_true.mpr (List.forall_mem_cons.mpr ⟨ck_51_0, List.forall_mem_cons.mpr ⟨ck_51_1, List.forall_mem_cons.mpr ⟨ck_51_2, List.forall_mem_cons.mpr ⟨ck_51_3, List.forall_mem_cons.mpr ⟨ck_51_4, List.forall_mem_cons.mpr ⟨ck_51_5, List.forall_mem_cons.mpr ⟨ck_51_6, List.forall_mem_cons.mpr ⟨ck_51_7, List.forall_mem_cons.mpr ⟨ck_51_8, fun _ h => absurd h List.not_mem_nil⟩⟩⟩⟩⟩⟩⟩⟩⟩)
theorem ck_52 : ckM mths in_52 = true := by decide +kernel
theorem ck_53 : ckM mths in_53 = true := by decide +kernel
theorem ck_54 : ckM mths in_54 = true := by decide +kernel
theorem ck_55 : ckM mths in_55 = true := by decide +kernel
theorem ck_56 : ckM mths in_56 = true := by decide +kernel
theorem ck_57 : ckM mths in_57 = true := by decide +kernel
theorem ck_58 : ckM mths in_58 = true := by decide +kernel
theorem ck_59 : ckM mths in_59 = true := by decide +kernel
theorem ck_60 : ckM mths in_60 = true := by decide +kernel
theorem ck_61 : ckM mths in_61 = true := by decide +kernel
theorem ck_62 : ckM mths in_62 = true := by decide +kernel
theorem ck_63 : ckM mths in_63 = true := by decide +kernel
theorem ck_64 : ckM mths in_64 = true := by decide +kernel
theorem ck_65 : ckM mths in_65 = true := by decide +kernel
theorem ck_66 : ckM mths in_66 = true := by decide +kernel
theorem ck_67 : ckM mths in_67 = true := by decide +kernel
theorem ck_68 : ckM mths in_68 = true := by decide +kernel
theorem ck_69 : ckM mths in_69 = true := by decide +kernel
theorem ck_70 : ckM mths in_70 = true := by decide +kernel
theorem ck_71 : ckM mths in_71 = true := by decide +kernel
theorem ck_72 : ckM mths in_72 = true := by decide +kernel
theorem ck_73 : ckM mths in_73 = true := by decide +kernel
theorem ck_74 : ckM mths in_74 = true := by decide +kernel
theorem ck_75 : ckM mths in_75 = true := by decide +kernel
theorem ck_76 : ckM mths in_76 = true := by decide +kernel
theorem ck_77 : ckM mths in_77 = true := by decide +kernel
theorem ck_78 : ckM mths in_78 = true := by decide +kernel
theorem ck_79_0 : ((es_79[0]?.getD (0, [])).2.all (fun q => ckE mths in_79 q.1 q.2)) = true := by decide +kernel
theorem ck_79_1 : ((es_79[1]?.getD (0, [])).2.all (fun q => ckE mths in_79 q.1 q.2)) = true := by decide +kernel
theorem ck_79_2 : ((es_79[2]?.getD (0, [])).2.all (fun q => ckE mths in_79 q.1 q.2)) = true := by decide +kernel
theorem ck_79_3 : ((es_79[3]?.getD (0, [])).2.all (fun q => ckE mths in_79 q.1 q.2)) = true := by decide +kernel
theorem ck_79_4 : ((es_79[4]?.getD (0, [])).2.all (fun q => ckE mths in_79 q.1 q.2)) = true := by decide +kernel
theorem ck_79_5 : ((es_79[5]?.getD (0, [])).2.all (fun q => ckE mths in_79 q.1 q.2)) = true := by decide +kernel
theorem ck_79_6 : ((es_79[6]?.getD (0, [])).2.all (fun q => ckE mths in_79 q.1 q.2)) = true := by decide +kernel
theorem ck_79_7 : ((es_79[7]?.getD (0, [])).2.all (fun q => ckE mths in_79 q.1 q.2)) = true := by decide +kernel
theorem ck_79 : ckM mths in_79 = true := List.all_eq_true.mpr (List.forall_mem_cons.mpr ⟨ck_79_0, List.forall_mem_cons.mpr ⟨ck_79_1, List.forall_mem_cons.mpr ⟨ck_79_2, List.forall_mem_cons.mpr ⟨ck_79_3, List.forall_mem_cons.mpr ⟨ck_79_4, List.forall_mem_cons.mpr ⟨ck_79_5, List.forall_mem_cons.mpr ⟨ck_79_6, List.forall_mem_cons.mpr ⟨ck_79_7, fun _ h => absurd h List.not_mem_nil⟩⟩⟩⟩⟩⟩⟩⟩)
theorem ck_80_0 : ((es_80[0]?.getD (0, [])).2.all (fun q => ckE mths in_80 q.1 q.2)) = true := by decide +kernel
theorem ck_80_1 : ((es_80[1]?.getD (0, [])).2.all (fun q => ckE mths in_80 q.1 q.2)) = true := by decide +kernel
theorem ck_80_2 : ((es_80[2]?.getD (0, [])).2.all (fun q => ckE mths in_80 q.1 q.2)) = true := by decide +kernel
theorem ck_80_3 : ((es_80[3]?.getD (0, [])).2.all (fun q => ckE mths in_80 q.1 q.2)) = true := by decide +kernel
theorem ck_80_4 : ((es_80[4]?.getD (0, [])).2.all (fun q => ckE mths in_80 q.1 q.2)) = true := by decide +kernel
theorem ck_80_5 : ((es_80[5]?.getD (0, [])).2.all (fun q => ckE mths in_80 q.1 q.2)) = true := by decide +kernel
theorem ck_80_6 : ((es_80[6]?.getD (0, [])).2.all (fun q => ckE mths in_80 q.1 q.2)) = true := by decide +kernel
theorem ck_80_7 : ((es_80[7]?.getD (0, [])).2.all (fun q => ckE mths in_80 q.1 q.2)) = true := by decide +kernel
theorem ck_80 : ckM mths in_80 = true := List.all_eq_true.mpr (List.forall_mem_cons.mpr ⟨ck_80_0, List.forall_mem_cons.mpr ⟨ck_80_1, List.forall_mem_cons.mpr ⟨ck_80_2, List.forall_mem_cons.mpr ⟨ck_80_3, List.forall_mem_cons.mpr ⟨ck_80_4, List.forall_mem_cons.mpr ⟨ck_80_5, List.forall_mem_cons.mpr ⟨ck_80_6, List.forall_mem_cons.mpr ⟨ck_80_7, fun _ h => absurd h List.not_mem_nil⟩⟩⟩⟩⟩⟩⟩⟩)
theorem ck_81 : ckM mths in_81 = true := by decide +kernel
theorem ck_82 : ckM mths in_82 = true := by decide +kernel
theorem ck_83 : ckM mths in_83 = true := by decide +kernel
theorem ck_84 : ckM mths in_84 = true := by decide +kernel
theorem ck_85 : ckM mths in_85 = true := by decide +kernel
theorem ck_86 : ckM mths in_86 = true := by decide +kernel
theorem ck_87 : ckM mths in_87 = true := by decide +kernel
theorem ck_88 : ckM mths in_88 = true := by decide +kernel
theorem ck_89 : ckM mths in_89 = true := by decide +kernel
theorem ck_90 : ckM mths in_90 = true := by decide +kernel
theorem ck_91 : ckM mths in_91 = true := by decide +kernel
theorem ck_92 : ckM mths in_92 = true := by decide +kernel
theorem ck_93 : ckM mths in_93 = true := by decide +kernel
theorem ck_94 : ckM mths in_94 = true := by decide +kernel
theorem ck_95 : ckM mths in_95 = true := by decide +kernel
theorem ck_96 : ckM mths in_96 = true := by decide +kernel
theorem ck_97 : ckM mths in_97 = true := by decide +kernel
theorem ck_98 : ckM mths in_98 = true := by decide +kernel
theorem ck_99 : ckM mths in_99 = true := by decide +kernel
theorem ck_100 : ckM mths in_100 = true := by decide +kernel
theorem ck_101 : ckM mths in_101 = true := by decide +kernel
theorem ck_102 : ckM mths in_102 = true := by decide +kernel
theorem ck_103 : ckM mths in_103 = true := by decide +kernel
theorem ck_104 : ckM mths in_104 = true := by decide +kernel
theorem ck_105 : ckM mths in_105 = true := by decide +kernel
theorem ck_106 : ckM mths in_106 = true := by decide +kernel
theorem ck_107 : ckM mths in_107 = true := by decide +kernel
theorem ck_108 : ckM mths in_108 = true := by decide +kernel
theorem ck_109 : ckM mths in_109 = true := by decide +kernel
theorem ck_110 : ckM mths in_110 = true := by decide +kernel
theorem ck_111 : ckM mths in_111 = true := by decide +kernel
theorem ck_112 : ckM mths in_112 = true := by decide +kernel
theorem ck_113 : ckM mths in_113 = true := by decide +kernel
theorem ck_114_0 : ((es_114[0]?.getD (0, [])).2.all (fun q => ckE mths in_114 q.1 q.2)) = true := by decide +kernel
theorem ck_114_1 : ((es_114[1]?.getD (0, [])).2.all (fun q => ckE mths in_114 q.1 q.2)) = true := by decide +kernel
theorem ck_114_2 : ((es_114[2]?.getD (0, [])).2.all (fun q => ckE mths in_114 q.1 q.2)) = true := by decide +kernel
theorem ck_114_3 : ((es_114[3]?.getD (0, [])).2.all (fun q => ckE mths in_114 q.1 q.2)) = true := by decide +kernel
theorem ck_114_4 : ((es_114[4]?.getD (0, [])).2.all (fun q => ckE mths in_114 q.1 q.2)) = true := by decide +kernel
theorem ck_114_5 : ((es_114[5]?.getD (0, [])).2.all (fun q => ckE mths in_114 q.1 q.2)) = true := by decide +kernel
theorem ck_114_6 : ((es_114[6]?.getD (0, [])).2.all (fun q => ckE mths in_114 q.1 q.2)) = true := by decide +kernel
theorem ck_114_7 : ((es_114[7]?.getD (0, [])).2.all (fun q => ckE mths in_114 q.1 q.2)) = true := by decide +kernel
theorem ck_114_8 : ((es_114[8]?.getD (0, [])).2.all (fun q => ckE mths in_114 q.1 q.2)) = true := by decide +kernel
theorem ck_114 : ckM mths in_114 = true := List.all_eq_true.mpr (List.forall_mem_cons.mpr ⟨ck_114_0, List.forall_mem_cons.mpr ⟨ck_114_1, List.forall_mem_cons.mpr ⟨ck_114_2, List.forall_mem_cons.mpr ⟨ck_114_3, List.forall_mem_cons.mpr ⟨ck_114_4, List.forall_mem_cons.mpr ⟨ck_114_5, List.forall_mem_cons.mpr ⟨ck_114_6, List.forall_mem_cons.mpr ⟨ck_114_7, List.forall_mem_cons.mpr ⟨ck_114_8, fun _ h => absurd h List.not_mem_nil⟩⟩⟩⟩⟩⟩⟩⟩⟩)
theorem ck_115 : ckM mths in_115 = true := by decide +kernel
theorem ck_116 : ckM mths in_116 = true := by decide +kernel
theorem ck_117 : ckM mths in_117 = true := by decide +kernel
theorem ck_118 : ckM mths in_118 = true := by decide +kernel
theorem ck_119 : ckM mths in_119 = true := by decide +kernel
theorem ck_120 : ckM mths in_120 = true := by decide +kernel
theorem ck_121 : ckM mths in_121 = true := by decide +kernel
theorem ck_122 : ckM mths in_122 = true := by decide +kernel
theorem ck_123 : ckM mths in_123 = true := by decide +kernel
theorem ck_124 : ckM mths in_124 = true := by decide +kernel
theorem ck_125 : ckM mths in_125 = true := by decide +kernel
theorem ck_126_0 : ((es_126[0]?.getD (0, [])).2.all (fun q => ckE mths in_126 q.1 q.2)) = true := by decide +kernel
theorem ck_126_1 : ((es_126[1]?.getD (0, [])).2.all (fun q => ckE mths in_126 q.1 q.2)) = true := by decide +kernel
theorem ck_126_2 : ((es_126[2]?.getD (0, [])).2.all (fun q => ckE mths in_126 q.1 q.2)) = true := by decide +kernel
theorem ck_126_3 : ((es_126[3]?.getD (0, [])).2.all (fun q => ckE mths in_126 q.1 q.2)) = true := by decide +kernel
theorem ck_126_4 : ((es_126[4]?.getD (0, [])).2.all (fun q => ckE mths in_126 q.1 q.2)) = true := by decide +kernel
theorem ck_126_5 : ((es_126[5]?.getD (0, [])).2.all (fun q => ckE mths in_126 q.1 q.2)) = true := by decide +kernel
theorem ck_126_6 : ((es_126[6]?.getD (0, [])).2.all (fun q => ckE mths in_126 q.1 q.2)) = true := by decide +kernel
theorem ck_126_7 : ((es_126[7]?.getD (0, [])).2.all (fun q => ckE mths in_126 q.1 q.2)) = true := by decide +kernel
theorem ck_126_8 : ((es_126[8]?.getD (0, [])).2.all (fun q => ckE mths in_126 q.1 q.2)) = true := by decide +kernel
theorem ck_126 : ckM mths in_126 = true := List.all_eq_true.mpr (List.forall_mem_cons.mpr ⟨ck_126_0, List.forall_mem_cons.mpr ⟨ck_126_1, List.forall_mem_cons.mpr ⟨ck_126_2, List.forall_mem_cons.mpr ⟨ck_126_3, List.forall_mem_cons.mpr ⟨ck_126_4, List.forall_mem_cons.mpr ⟨ck_126_5, List.forall_mem_cons.mpr ⟨ck_126_6, List.forall_mem_cons.mpr ⟨ck_126_7, List.forall_mem_cons.mpr ⟨ck_126_8, fun _ h => absurd h List.not_mem_nil⟩⟩⟩⟩⟩⟩⟩⟩⟩)
theorem ck_127 : ckM mths in_127 = true := by decide +kernel
theorem ck_128 : ckM mths in_128 = true := by decide +kernel
theorem ck_129_0 : ((es_129[0]?.getD (0, [])).2.all (fun q => ckE mths in_129 q.1 q.2)) = true := by decide +kernel
theorem ck_129_1 : ((es_129[1]?.getD (0, [])).2.all (fun q => ckE mths in_129 q.1 q.2)) = true := by decide +kernel
theorem ck_129_2 : ((es_129[2]?.getD (0, [])).2.all (fun q => ckE mths in_129 q.1 q.2)) = true := by decide +kernel
theorem ck_129_3 : ((es_129[3]?.getD (0, [])).2.all (fun q => ckE mths in_129 q.1 q.2)) = true := by decide +kernel
theorem ck_129_4 : ((es_129[4]?.getD (0, [])).2.all (fun q => ckE mths in_129 q.1 q.2)) = true := by decide +kernel
theorem ck_129_5 : ((es_129[5]?.getD (0, [])).2.all (fun q => ckE mths in_129 q.1 q.2)) = true := by decide +kernel
theorem ck_129_6 : ((es_129[6]?.getD (0, [])).2.all (fun q => ckE mths in_129 q.1 q.2)) = true := by decide +kernel
theorem ck_129_7 : ((es_129[7]?.getD (0, [])).2.all (fun q => ckE mths in_129 q.1 q.2)) = true := by decide +kernel
theorem ck_129_8 : ((es_129[8]?.getD (0, [])).2.all (fun q => ckE mths in_129 q.1 q.2)) = true := by decide +kernel
theorem ck_129_9 : ((es_129[9]?.getD (0, [])).2.all (fun q => ckE mths in_129 q.1 q.2)) = true := by decide +kernel
theorem ck_129_10 : ((es_129[10]?.getD (0, [])).2.all (fun q => ckE mths in_129 q.1 q.2)) = true := by decide +kernel
theorem ck_129_11 : ((es_129[11]?.getD (0, [])).2.all (fun q => ckE mths in_129 q.1 q.2)) = true := by decide +kernel
theorem ck_129 : ckM mths in_129 = true := List.all_eq_true.mpr (List.forall_mem_cons.mpr ⟨ck_129_0, List.forall_mem_cons.mpr ⟨ck_129_1, List.forall_mem_cons.mpr ⟨ck_129_2, List.forall_mem_cons.mpr ⟨ck_129_3, List.forall_mem_cons.mpr ⟨ck_129_4, List.forall_mem_cons.mpr ⟨ck_129_5, List.forall_mem_cons.mpr ⟨ck_129_6, List.forall_mem_cons.mpr ⟨ck_129_7, List.forall_mem_cons.mpr ⟨ck_129_8, List.forall_mem_cons.mpr ⟨ck_129_9, List.forall_mem_cons.mpr ⟨ck_129_10, List.forall_mem_cons.mpr ⟨ck_129_11, fun _ h => absurd h List.not_mem_nil⟩⟩⟩⟩⟩⟩⟩⟩⟩⟩⟩⟩)
theorem ck_130_0 : ((es_130[0]?.getD (0, [])).2.all (fun q => ckE mths in_130 q.1 q.2)) = true := by decide +kernel
theorem ck_130_1 : ((es_130[1]?.getD (0, [])).2.all (fun q => ckE mths in_130 q.1 q.2)) = true := by decide +kernel
theorem ck_130_2 : ((es_130[2]?.getD (0, [])).2.all (fun q => ckE mths in_130 q.1 q.2)) = true := by decide +kernel
theorem ck_130_3 : ((es_130[3]?.getD (0, [])).2.all (fun q => ckE mths in_130 q.1 q.2)) = true := by decide +kernel
theorem ck_130_4 : ((es_130[4]?.getD (0, [])).2.all (fun q => ckE mths in_130 q.1 q.2)) = true := by decide +kernel
theorem ck_130_5 : ((es_130[5]?.getD (0, [])).2.all (fun q => ckE mths in_130 q.1 q.2)) = true := by decide +kernel
theorem ck_130_6 : ((es_130[6]?.getD (0, [])).2.all (fun q => ckE mths in_130 q.1 q.2)) = true := by decide +kernel
theorem ck_130_7 : ((es_130[7]?.getD (0, [])).2.all (fun q => ckE mths in_130 q.1 q.2)) = true := by decide +kernel
theorem ck_130_8 : ((es_130[8]?.getD (0, [])).2.all (fun q => ckE mths in_130 q.1 q.2)) = true := by decide +kernel
theorem ck_130_9 : ((es_130[9]?.getD (0, [])).2.all (fun q => ckE mths in_130 q.1 q.2)) = true := by decide +kernel
theorem ck_130_10 : ((es_130[10]?.getD (0, [])).2.all (fun q => ckE mths in_130 q.1 q.2)) = true := by decide +kernel
theorem ck_130_11 : ((es_130[11]?.getD (0, [])).2.all (fun q => ckE mths in_130 q.1 q.2)) = true := by decide +kernel
theorem ck_130 : ckM mths in_130 = true := List.all_eq_true.mpr (List.forall_mem_cons.mpr ⟨ck_130_0, List.forall_mem_cons.mpr ⟨ck_130_1, List.forall_mem_cons.mpr ⟨ck_130_2, List.forall_mem_cons.mpr ⟨ck_130_3, List.forall_mem_cons.mpr ⟨ck_130_4, List.forall_mem_cons.mpr ⟨ck_130_5, List.forall_mem_cons.mpr ⟨ck_130_6, List.forall_mem_cons.mpr ⟨ck_130_7, List.forall_mem_cons.mpr ⟨ck_130_8, List.forall_mem_cons.mpr ⟨ck_130_9, List.forall_mem_cons.mpr ⟨ck_130_10, List.forall_mem_cons.mpr ⟨ck_130_11, fun _ h => absurd h List.not_mem_nil⟩⟩⟩⟩⟩⟩⟩⟩⟩⟩⟩⟩)
theorem ck_131 : ckM mths in_131 = true := by decide +kernel
theorem ck_132 : ckM mths in_132 = true := by decide +kernel
theorem ck_133 : ckM mths in_133 = true := by decide +kernel
theorem ck_134 : ckM mths in_134 = true := by decide +kernel
theorem ck_135 : ckM mths in_135 = true := by decide +kernel
theorem ck_136 : ckM mths in_136 = true := by decide +kernel
theorem ck_137 : ckM mths in_137 = true := by decide +kernel
theorem ck_138 : ckM mths in_138 = true := by decide +kernel
theorem ck_139 : ckM mths in_139 = true := by decide +kernel
theorem ck_140 : ckM mths in_140 = true := by decide +kernel
theorem ck_141 : ckM mths in_141 = true := by decide +kernel
theorem ck_142 : ckM mths in_142 = true := by decide +kernel
theorem ck_143 : ckM mths in_143 = true := by decide +kernel
theorem ck_144_0 : ((es_144[0]?.getD (0, [])).2.all (fun q => ckE mths in_144 q.1 q.2)) = true := by decide +kernel
theorem ck_144_1 : ((es_144[1]?.getD (0, [])).2.all (fun q => ckE mths in_144 q.1 q.2)) = true := by decide +kernel
theorem ck_144_2 : ((es_144[2]?.getD (0, [])).2.all (fun q => ckE mths in_144 q.1 q.2)) = true := by decide +kernel
theorem ck_144_3 : ((es_144[3]?.getD (0, [])).2.all (fun q => ckE mths in_144 q.1 q.2)) = true := by decide +kernel
theorem ck_144_4 : ((es_144[4]?.getD (0, [])).2.all (fun q => ckE mths in_144 q.1 q.2)) = true := by decide +kernel
theorem ck_144_5 : ((es_144[5]?.getD (0, [])).2.all (fun q => ckE mths in_144 q.1 q.2)) = true := by decide +kernel
theorem ck_144_6 : ((es_144[6]?.getD (0, [])).2.all (fun q => ckE mths in_144 q.1 q.2)) = true := by decide +kernel
theorem ck_144_7 : ((es_144[7]?.getD (0, [])).2.all (fun q => ckE mths in_144 q.1 q.2)) = true := by decide +kernel
theorem ck_144_8 : ((es_144[8]?.getD (0, [])).2.all (fun q => ckE mths in_144 q.1 q.2)) = true := by decide +kernel
theorem ck_144_9 : ((es_144[9]?.getD (0, [])).2.all (fun q => ckE mths in_144 q.1 q.2)) = true := by decide +kernel
theorem ck_144_10 : ((es_144[10]?.getD (0, [])).2.all (fun q => ckE mths in_144 q.1 q.2)) = true := by decide +kernel
theorem ck_144 : ckM mths in_144 = true := List.all_eq_true.mpr (List.forall_mem_cons.mpr ⟨ck_144_0, List.forall_mem_cons.mpr ⟨ck_144_1, List.forall_mem_cons.mpr ⟨ck_144_2, List.forall_mem_cons.mpr ⟨ck_144_3, List.forall_mem_cons.mpr ⟨ck_144_4, List.forall_mem_cons.mpr ⟨ck_144_5, List.forall_mem_cons.mpr ⟨ck_144_6, List.forall_mem_cons.mpr ⟨ck_144_7, List.forall_mem_cons.mpr ⟨ck_144_8, List.forall_mem_cons.mpr ⟨ck_144_9, List.forall_mem_cons.mpr ⟨ck_144_10, fun _ h => absurd h List.not_mem_nil⟩⟩⟩⟩⟩⟩⟩⟩⟩⟩⟩)
theorem ck_145_0 : ((es_145[0]?.getD (0, [])).2.all (fun q => ckE mths in_145 q.1 q.2)) = true := by decide +kernel
theorem ck_145_1 : ((es_145[1]?.getD (0, [])).2.all (fun q => ckE mths in_145 q.1 q.2)) = true := by decide +kernel
theorem ck_145_2 : ((es_145[2]?.getD (0, [])).2.all (fun q => ckE mths in_145 q.1 q.2)) = true := by decide +kernel
theorem ck_145_3 : ((es_145[3]?.getD (0, [])).2.all (fun q => ckE mths in_145 q.1 q.2)) = true := by decide +kernel
theorem ck_145_4 : ((es_145[4]?.getD (0, [])).2.all (fun q => ckE mths in_145 q.1 q.2)) = true := by decide +kernel
theorem ck_145_5 : ((es_145[5]?.getD (0, [])).2.all (fun q => ckE mths in_145 q.1 q.2)) = true := by decide +kernel
theorem ck_145_6 : ((es_145[6]?.getD (0, [])).2.all (fun q => ckE mths in_145 q.1 q.2)) = true := by decide +kernel
theorem ck_145_7 : ((es_145[7]?.getD (0, [])).2.all (fun q => ckE mths in_145 q.1 q.2)) = true := by decide +kernel
theorem ck_145_8 : ((es_145[8]?.getD (0, [])).2.all (fun q => ckE mths in_145 q.1 q.2)) = true := by decide +kernel
theorem ck_145 : ckM mths in_145 = true := List.all_eq_true.mpr (List.forall_mem_cons.mpr ⟨ck_145_0, List.forall_mem_cons.mpr ⟨ck_145_1, List.forall_mem_cons.mpr ⟨ck_145_2, List.forall_mem_cons.mpr ⟨ck_145_3, List.forall_mem_cons.mpr ⟨ck_145_4, List.forall_mem_cons.mpr ⟨ck_145_5, List.forall_mem_cons.mpr ⟨ck_145_6, List.forall_mem_cons.mpr ⟨ck_145_7, List.forall_mem_cons.mpr ⟨ck_145_8, fun _ h => absurd h List.not_mem_nil⟩⟩⟩⟩⟩⟩⟩⟩⟩)
theorem ck_146_0 : ((es_146[0]?.getD (0, [])).2.all (fun q => ckE mths in_146 q.1 q.2)) = true := by decide +kernel
theorem ck_146_1 : ((es_146[1]?.getD (0, [])).2.all (fun q => ckE mths in_146 q.1 q.2)) = true := by decide +kernel
theorem ck_146_2 : ((es_146[2]?.getD (0, [])).2.all (fun q => ckE mths in_146 q.1 q.2)) = true := by decide +kernel
theorem ck_146_3 : ((es_146[3]?.getD (0, [])).2.all (fun q => ckE mths in_146 q.1 q.2)) = true := by decide +kernel
theorem ck_146_4 : ((es_146[4]?.getD (0, [])).2.all (fun q => ckE mths in_146 q.1 q.2)) = true := by decide +kernel
theorem ck_146_5 : ((es_146[5]?.getD (0, [])).2.all (fun q => ckE mths in_146 q.1 q.2)) = true := by decide +kernel
theorem ck_146_6 : ((es_146[6]?.getD (0, [])).2.all (fun q => ckE mths in_146 q.1 q.2)) = true := by decide +kernel
theorem ck_146_7 : ((es_146[7]?.getD (0, [])).2.all (fun q => ckE mths in_146 q.1 q.2)) = true := by decide +kernel
theorem ck_146_8 : ((es_146[8]?.getD (0, [])).2.all (fun q => ckE mths in_146 q.1 q.2)) = true := by decide +kernel
theorem ck_146_9 : ((es_146[9]?.getD (0, [])).2.all (fun q => ckE mths in_146 q.1 q.2)) = true := by decide +kernel
theorem ck_146 : ckM mths in_146 = true := List.all_eq_true.mpr (List.forall_mem_cons.mpr ⟨ck_146_0, List.forall_mem_cons.mpr ⟨ck_146_1, List.forall_mem_cons.mpr ⟨ck_146_2, List.forall_mem_cons.mpr ⟨ck_146_3, List.forall_mem_cons.mpr ⟨ck_146_4, List.forall_mem_cons.mpr ⟨ck_146_5, List.forall_mem_cons.mpr ⟨ck_146_6, List.forall_mem_cons.mpr ⟨ck_146_7, List.forall_mem_cons.mpr ⟨ck_146_8, List.forall_mem_cons.mpr ⟨ck_146_9, fun _ h => absurd h List.not_mem_nil⟩⟩⟩⟩⟩⟩⟩⟩⟩⟩)
theorem ck_147_0 : ((es_147[0]?.getD (0, [])).2.all (fun q => ckE mths in_147 q.1 q.2)) = true := by decide +kernel
theorem ck_147_1 : ((es_147[1]?.getD (0, [])).2.all (fun q => ckE mths in_147 q.1 q.2)) = true := by decide +kernel
theorem ck_147_2 : ((es_147[2]?.getD (0, [])).2.all (fun q => ckE mths in_147 q.1 q.2)) = true := by decide +kernel
theorem ck_147_3 : ((es_147[3]?.getD (0, [])).2.all (fun q => ckE mths in_147 q.1 q.2)) = true := by decide +kernel
theorem ck_147_4 : ((es_147[4]?.getD (0, [])).2.all (fun q => ckE mths in_147 q.1 q.2)) = true := by decide +kernel
theorem ck_147_5 : ((es_147[5]?.getD (0, [])).2.all (fun q => ckE mths in_147 q.1 q.2)) = true := by decide +kernel
theorem ck_147_6 : ((es_147[6]?.getD (0, [])).2.all (fun q => ckE mths in_147 q.1 q.2)) = true := by decide +kernel
theorem ck_147_7 : ((es_147[7]?.getD (0, [])).2.all (fun q => ckE mths in_147 q.1 q.2)) = true := by decide +kernel
theorem ck_147 : ckM mths in_147 = true := List.all_eq_true.mpr (List.forall_mem_cons.mpr ⟨ck_147_0, List.forall_mem_cons.mpr ⟨ck_147_1, List.forall_mem_cons.mpr ⟨ck_147_2, List.forall_mem_cons.mpr ⟨ck_147_3, List.forall_mem_cons.mpr ⟨ck_147_4, List.forall_mem_cons.mpr ⟨ck_147_5, List.forall_mem_cons.mpr ⟨ck_147_6, List.forall_mem_cons.mpr ⟨ck_147_7, fun _ h => absurd h List.not_mem_nil⟩⟩⟩⟩⟩⟩⟩⟩)
theorem ck_148_0 : ((es_148[0]?.getD (0, [])).2.all (fun q => ckE mths in_148 q.1 q.2)) = true := by decide +kernel
theorem ck_148_1 : ((es_148[1]?.getD (0, [])).2.all (fun q => ckE mths in_148 q.1 q.2)) = true := by decide +kernel
theorem ck_148_2 : ((es_148[2]?.getD (0, [])).2.all (fun q => ckE mths in_148 q.1 q.2)) = true := by decide +kernel
theorem ck_148_3 : ((es_148[3]?.getD (0, [])).2.all (fun q => ckE mths in_148 q.1 q.2)) = true := by decide +kernel
theorem ck_148_4 : ((es_148[4]?.getD (0, [])).2.all (fun q => ckE mths in_148 q.1 q.2)) = true := by decide +kernel
theorem ck_148_5 : ((es_148[5]?.getD (0, [])).2.all (fun q => ckE mths in_148 q.1 q.2)) = true := by decide +kernel
theorem ck_148_6 : ((es_148[6]?.getD (0, [])).2.all (fun q => ckE mths in_148 q.1 q.2)) = true := by decide +kernel
theorem ck_148_7 : ((es_148[7]?.getD (0, [])).2.all (fun q => ckE mths in_148 q.1 q.2)) = true := by decide +kernel
theorem ck_148_8 : ((es_148[8]?.getD (0, [])).2.all (fun q => ckE mths in_148 q.1 q.2)) = true := by decide +kernel
theorem ck_148_9 : ((es_148[9]?.getD (0, [])).2.all (fun q => ckE mths in_148 q.1 q.2)) = true := by decide +kernel
theorem ck_148_10 : ((es_148[10]?.getD (0, [])).2.all (fun q => ckE mths in_148 q.1 q.2)) = true := by decide +kernel
theorem ck_148_11 : ((es_148[11]?.getD (0, [])).2.all (fun q => ckE mths in_148 q.1 q.2)) = true := by decide +kernel
theorem ck_148 : ckM mths in_148 = true := List.all_eq_true.mpr (List.forall_mem_cons.mpr ⟨ck_148_0, List.forall_mem_cons.mpr ⟨ck_148_1, List.forall_mem_cons.mpr ⟨ck_148_2, List.forall_mem_cons.mpr ⟨ck_148_3, List.forall_mem_cons.mpr ⟨ck_148_4, List.forall_mem_cons.mpr ⟨ck_148_5, List.forall_mem_cons.mpr ⟨ck_148_6, List.forall_mem_cons.mpr ⟨ck_148_7, List.forall_mem_cons.mpr ⟨ck_148_8, List.forall_mem_cons.mpr ⟨ck_148_9, List.forall_mem_cons.mpr ⟨ck_148_10, List.forall_mem_cons.mpr ⟨ck_148_11, fun _ h => absurd h List.not_mem_nil⟩⟩⟩⟩⟩⟩⟩⟩⟩⟩⟩⟩)
theorem ck_149_0 : ((es_149[0]?.getD (0, [])).2.all (fun q => ckE mths in_149 q.1 q.2)) = true := by decide +kernel
theorem ck_149_1 : ((es_149[1]?.getD (0, [])).2.all (fun q => ckE mths in_149 q.1 q.2)) = true := by decide +kernel
theorem ck_149_2 : ((es_149[2]?.getD (0, [])).2.all (fun q => ckE mths in_149 q.1 q.2)) = true := by decide +kernel
theorem ck_149_3 : ((es_149[3]?.getD (0, [])).2.all (fun q => ckE mths in_149 q.1 q.2)) = true := by decide +kernel
theorem ck_149_4 : ((es_149[4]?.getD (0, [])).2.all (fun q => ckE mths in_149 q.1 q.2)) = true := by decide +kernel
theorem ck_149_5 : ((es_149[5]?.getD (0, [])).2.all (fun q => ckE mths in_149 q.1 q.2)) = true := by decide +kernel
theorem ck_149_6 : ((es_149[6]?.getD (0, [])).2.all (fun q => ckE mths in_149 q.1 q.2)) = true := by decide +kernel
theorem ck_149_7 : ((es_149[7]?.getD (0, [])).2.all (fun q => ckE mths in_149 q.1 q.2)) = true := by decide +kernel
theorem ck_149 : ckM mths in_149 = true := List.all_eq_true.mpr (List.forall_mem_cons.mpr ⟨ck_149_0, List.forall_mem_cons.mpr ⟨ck_149_1, List.forall_mem_cons.mpr ⟨ck_149_2, List.forall_mem_cons.mpr ⟨ck_149_3, List.forall_mem_cons.mpr ⟨ck_149_4, List.forall_mem_cons.mpr ⟨ck_149_5, List.forall_mem_cons.mpr ⟨ck_149_6, List.forall_mem_cons.mpr ⟨ck_149_7, fun _ h => absurd h List.not_mem_nil⟩⟩⟩⟩⟩⟩⟩⟩)
theorem ck_150 : ckM mths in_150 = true := by decide +kernel
theorem ck_151 : ckM mths in_151 = true := by decide +kernel
theorem ck_152 : ckM mths in_152 = true := by decide +kernel
theorem ck_153_0 : ((es_153[0]?.getD (0, [])).2.all (fun q => ckE mths in_153 q.1 q.2)) = true := by decide +kernel
theorem ck_153_1 : ((es_153[1]?.getD (0, [])).2.all (fun q => ckE mths in_153 q.1 q.2)) = true := by decide +kernel
theorem ck_153_2 : ((es_153[2]?.getD (0, [])).2.all (fun q => ckE mths in_153 q.1 q.2)) = true := by decide +kernel
theorem ck_153_3 : ((es_153[3]?.getD (0, [])).2.all (fun q => ckE mths in_153 q.1 q.2)) = true := by decide +kernel
theorem ck_153_4 : ((es_153[4]?.getD (0, [])).2.all (fun q => ckE mths in_153 q.1 q.2)) = true := by decide +kernel
theorem ck_153_5 : ((es_153[5]?.getD (0, [])).2.all (fun q => ckE mths in_153 q.1 q.2)) = true := by decide +kernel
theorem ck_153_6 : ((es_153[6]?.getD (0, [])).2.all (fun q => ckE mths in_153 q.1 q.2)) = true := by decide +kernel
theorem ck_153_7 : ((es_153[7]?.getD (0, [])).2.all (fun q => ckE mths in_153 q.1 q.2)) = true := by decide +kernel
theorem ck_153 : ckM mths in_153 = true := List.all_eq_true.mpr (List.forall_mem_cons.mpr ⟨ck_153_0, List.forall_mem_cons.mpr ⟨ck_153_1, List.forall_mem_cons.mpr ⟨ck_153_2, List.forall_mem_cons.mpr ⟨ck_153_3, List.forall_mem_cons.mpr ⟨ck_153_4, List.forall_mem_cons.mpr ⟨ck_153_5, List.forall_mem_cons.mpr ⟨ck_153_6, List.forall_mem_cons.mpr ⟨ck_153_7, fun _ h => absurd h List.not_mem_nil⟩⟩⟩⟩⟩⟩⟩⟩)
theorem ck_154 : ckM mths in_154 = true := by decide +kernel
theorem ck_155_0 : ((es_155[0]?.getD (0, [])).2.all (fun q => ckE mths in_155 q.1 q.2)) = true := by decide +kernel
theorem ck_155_1 : ((es_155[1]?.getD (0, [])).2.all (fun q => ckE mths in_155 q.1 q.2)) = true := by decide +kernel
theorem ck_155_2 : ((es_155[2]?.getD (0, [])).2.all (fun q => ckE mths in_155 q.1 q.2)) = true := by decide +kernel
theorem ck_155_3 : ((es_155[3]?.getD (0, [])).2.all (fun q => ckE mths in_155 q.1 q.2)) = true := by decide +kernel
theorem ck_155_4 : ((es_155[4]?.getD (0, [])).2.all (fun q => ckE mths in_155 q.1 q.2)) = true := by decide +kernel
theorem ck_155_5 : ((es_155[5]?.getD (0, [])).2.all (fun q => ckE mths in_155 q.1 q.2)) = true := by decide +kernel
theorem ck_155_6 : ((es_155[6]?.getD (0, [])).2.all (fun q => ckE mths in_155 q.1 q.2)) = true := by decide +kernel
theorem ck_155_7 : ((es_155[7]?.getD (0, [])).2.all (fun q => ckE mths in_155 q.1 q.2)) = true := by decide +kernel
theorem ck_155_8 : ((es_155[8]?.getD (0, [])).2.all (fun q => ckE mths in_155 q.1 q.2)) = true := by decide +kernel
theorem ck_155 : ckM mths in_155 = true := List.all_eq_true.mpr (List.forall_mem_cons.mpr ⟨ck_155_0, List.forall_mem_cons.mpr ⟨ck_155_1, List.forall_mem_cons.mpr ⟨ck_155_2, List.forall_mem_cons.mpr ⟨ck_155_3, List.forall_mem_cons.mpr ⟨ck_155_4, List.forall_mem_cons.mpr ⟨ck_155_5, List.forall_mem_cons.mpr ⟨ck_155_6, List.forall_mem_cons.mpr ⟨ck_155_7, List.forall_mem_cons.mpr ⟨ck_155_8, fun _ h => absurd h List.not_mem_nil⟩⟩⟩⟩⟩⟩⟩⟩⟩)
theorem ck_156 : ckM mths in_156 = true := by decide +kernel
theorem ck_157 : ckM mths in_157 = true := by decide +kernel
theorem ck_158 : ckM mths in_158 = true := by decide +kernel
theorem ck_159_0 : ((es_159[0]?.getD (0, [])).2.all (fun q => ckE mths in_159 q.1 q.2)) = true := by decide +kernel
theorem ck_159_1 : ((es_159[1]?.getD (0, [])).2.all (fun q => ckE mths in_159 q.1 q.2)) = true := by decide +kernel
theorem ck_159_2 : ((es_159[2]?.getD (0, [])).2.all (fun q => ckE mths in_159 q.1 q.2)) = true := by decide +kernel
theorem ck_159_3 : ((es_159[3]?.getD (0, [])).2.all (fun q => ckE mths in_159 q.1 q.2)) = true := by decide +kernel
theorem ck_159_4 : ((es_159[4]?.getD (0, [])).2.all (fun q => ckE mths in_159 q.1 q.2)) = true := by decide +kernel
theorem ck_159_5 : ((es_159[5]?.getD (0, [])).2.all (fun q => ckE mths in_159 q.1 q.2)) = true := by decide +kernel
theorem ck_159_6 : ((es_159[6]?.getD (0, [])).2.all (fun q => ckE mths in_159 q.1 q.2)) = true := by decide +kernel
theorem ck_159_7 : ((es_159[7]?.getD (0, [])).2.all (fun q => ckE mths in_159 q.1 q.2)) = true := by decide +kernel
theorem ck_159_8 : ((es_159[8]?.getD (0, [])).2.all (fun q => ckE mths in_159 q.1 q.2)) = true := by decide +kernel
theorem ck_159_9 : ((es_159[9]?.getD (0, [])).2.all (fun q => ckE mths in_159 q.1 q.2)) = true := by decide +kernel
theorem ck_159_10 : ((es_159[10]?.getD (0, [])).2.all (fun q => ckE mths in_159 q.1 q.2)) = true := by decide +kernel
theorem ck_159_11 : ((es_159[11]?.getD (0, [])).2.all (fun q => ckE mths in_159 q.1 q.2)) = true := by decide +kernel
theorem ck_159_12 : ((es_159[12]?.getD (0, [])).2.all (fun q => ckE mths in_159 q.1 q.2)) = true := by decide +kernel
theorem ck_159 : ckM mths in_159 = true := List.all_eq_true.mpr (List.forall_mem_cons.mpr ⟨ck_159_0, List.forall_mem_cons.mpr ⟨ck_159_1, List.forall_mem_cons.mpr ⟨ck_159_2, List.forall_mem_cons.mpr ⟨ck_159_3, List.forall_mem_cons.mpr ⟨ck_159_4, List.forall_mem_cons.mpr ⟨ck_159_5, List.forall_mem_cons.mpr ⟨ck_159_6, List.forall_mem_cons.mpr ⟨ck_159_7, List.forall_mem_cons.mpr ⟨ck_159_8, List.forall_mem_cons.mpr ⟨ck_159_9, List.forall_mem_cons.mpr ⟨ck_159_10, List.forall_mem_cons.mpr ⟨ck_159_11, List.forall_mem_cons.mpr ⟨ck_159_12, fun _ h => absurd h List.not_mem_nil⟩⟩⟩⟩⟩⟩⟩⟩⟩⟩⟩⟩⟩)
theorem ck_160 : ckM mths in_160 = true := by decide +kernel
theorem ck_161 : ckM mths in_161 = true := by decide +kernel
theorem ck_162_0 : ((es_162[0]?.getD (0, [])).2.all (fun q => ckE mths in_162 q.1 q.2)) = true := by decide +kernel
theorem ck_162_1 : ((es_162[1]?.getD (0, [])).2.all (fun q => ckE mths in_162 q.1 q.2)) = true := by decide +kernel
theorem ck_162_2 : ((es_162[2]?.getD (0, [])).2.all (fun q => ckE mths in_162 q.1 q.2)) = true := by decide +kernel
theorem ck_162_3 : ((es_162[3]?.getD (0, [])).2.all (fun q => ckE mths in_162 q.1 q.2)) = true := by decide +kernel
theorem ck_162_4 : ((es_162[4]?.getD (0, [])).2.all (fun q => ckE mths in_162 q.1 q.2)) = true := by decide +kernel
theorem ck_162_5 : ((es_162[5]?.getD (0, [])).2.all (fun q => ckE mths in_162 q.1 q.2)) = true := by decide +kernel
theorem ck_162_6 : ((es_162[6]?.getD (0, [])).2.all (fun q => ckE mths in_162 q.1 q.2)) = true := by decide +kernel
theorem ck_162_7 : ((es_162[7]?.getD (0, [])).2.all (fun q => ckE mths in_162 q.1 q.2)) = true := by decide +kernel
theorem ck_162 : ckM mths in_162 = true := List.all_eq_true.mpr (List.forall_mem_cons.mpr ⟨ck_162_0, List.forall_mem_cons.mpr ⟨ck_162_1, List.forall_mem_cons.mpr ⟨ck_162_2, List.forall_mem_cons.mpr ⟨ck_162_3, List.forall_mem_cons.mpr ⟨ck_162_4, List.forall_mem_cons.mpr ⟨ck_162_5, List.forall_mem_cons.mpr ⟨ck_162_6, List.forall_mem_cons.mpr ⟨ck_162_7, fun _ h => absurd h List.not_mem_nil⟩⟩⟩⟩⟩⟩⟩⟩)
theorem ck_163_0 : ((es_163[0]?.getD (0, [])).2.all (fun q => ckE mths in_163 q.1 q.2)) = true := by decide +kernel
theorem ck_163_1 : ((es_163[1]?.getD (0, [])).2.all (fun q => ckE mths in_163 q.1 q.2)) = true := by decide +kernel
theorem ck_163_2 : ((es_163[2]?.getD (0, [])).2.all (fun q => ckE mths in_163 q.1 q.2)) = true := by decide +kernel
theorem ck_163_3 : ((es_163[3]?.getD (0, [])).2.all (fun q => ckE mths in_163 q.1 q.2)) = true := by decide +kernel
theorem ck_163_4 : ((es_163[4]?.getD (0, [])).2.all (fun q => ckE mths in_163 q.1 q.2)) = true := by decide +kernel
theorem ck_163_5 : ((es_163[5]?.getD (0, [])).2.all (fun q => ckE mths in_163 q.1 q.2)) = true := by decide +kernel
theorem ck_163_6 : ((es_163[6]?.getD (0, [])).2.all (fun q => ckE mths in_163 q.1 q.2)) = true := by decide +kernel
theorem ck_163_7 : ((es_163[7]?.getD (0, [])).2.all (fun q => ckE mths in_163 q.1 q.2)) = true := by decide +kernel
theorem ck_163 : ckM mths in_163 = true := List.all_eq_true.mpr (List.forall_mem_cons.mpr ⟨ck_163_0, List.forall_mem_cons.mpr ⟨ck_163_1, List.forall_mem_cons.mpr ⟨ck_163_2, List.forall_mem_cons.mpr ⟨ck_163_3, List.forall_mem_cons.mpr ⟨ck_163_4, List.forall_mem_cons.mpr ⟨ck_163_5, List.forall_mem_cons.mpr ⟨ck_163_6, List.forall_mem_cons.mpr ⟨ck_163_7, fun _ h => absurd h List.not_mem_nil⟩⟩⟩⟩⟩⟩⟩⟩)
theorem ck_164 : ckM mths in_164 = true := by decide +kernel
theorem ck_165 : ckM mths in_165 = true := by decide +kernel
theorem ck_166_0 : ((es_166[0]?.getD (0, [])).2.all (fun q => ckE mths in_166 q.1 q.2)) = true := by decide +kernel
theorem ck_166_1 : ((es_166[1]?.getD (0, [])).2.all (fun q => ckE mths in_166 q.1 q.2)) = true := by decide +kernel
theorem ck_166_2 : ((es_166[2]?.getD (0, [])).2.all (fun q => ckE mths in_166 q.1 q.2)) = true := by decide +kernel
theorem ck_166_3 : ((es_166[3]?.getD (0, [])).2.all (fun q => ckE mths in_166 q.1 q.2)) = true := by decide +kernel
theorem ck_166_4 : ((es_166[4]?.getD (0, [])).2.all (fun q => ckE mths in_166 q.1 q.2)) = true := by decide +kernel
theorem ck_166_5 : ((es_166[5]?.getD (0, [])).2.all (fun q => ckE mths in_166 q.1 q.2)) = true := by decide +kernel
theorem ck_166_6 : ((es_166[6]?.getD (0, [])).2.all (fun q => ckE mths in_166 q.1 q.2)) = true := by decide +kernel
theorem ck_166_7 : ((es_166[7]?.getD (0, [])).2.all (fun q => ckE mths in_166 q.1 q.2)) = true := by decide +kernel
theorem ck_166_8 : ((es_166[8]?.getD (0, [])).2.all (fun q => ckE mths in_166 q.1 q.2)) = true := by decide +kernel
theorem ck_166_9 : ((es_166[9]?.getD (0, [])).2.all (fun q => ckE mths in_166 q.1 q.2)) = true := by decide +kernel
theorem ck_166 : ckM mths in_166 = true := List.all_eq_true.mpr (List.forall_mem_cons.mpr ⟨ck_166_0, List.forall_mem_cons.mpr ⟨ck_166_1, List.forall_mem_cons.mpr ⟨ck_166_2, List.forall_mem_cons.mpr ⟨ck_166_3, List.forall_mem_cons.mpr ⟨ck_166_4, List.forall_mem_cons.mpr ⟨ck_166_5, List.forall_mem_cons.mpr ⟨ck_166_6, List.forall_mem_cons.mpr ⟨ck_166_7, List.forall_mem_cons.mpr ⟨ck_166_8, List.forall_mem_cons.mpr ⟨ck_166_9, fun _ h => absurd h List.not_mem_nil⟩⟩⟩⟩⟩⟩⟩⟩⟩⟩)
theorem ck_167 : ckM mths in_167 = true := by decide +kernel
theorem ck_168 : ckM mths in_168 = true := by decide +kernel
theorem ck_169_0 : ((es_169[0]?.getD (0, [])).2.all (fun q => ckE mths in_169 q.1 q.2)) = true := by decide +kernel
theorem ck_169_1 : ((es_169[1]?.getD (0, [])).2.all (fun q => ckE mths in_169 q.1 q.2)) = true := by decide +kernel
theorem ck_169_2 : ((es_169[2]?.getD (0, [])).2.all (fun q => ckE mths in_169 q.1 q.2)) = true := by decide +kernel
theorem ck_169_3 : ((es_169[3]?.getD (0, [])).2.all (fun q => ckE mths in_169 q.1 q.2)) = true := by decide +kernel
theorem ck_169_4 : ((es_169[4]?.getD (0, [])).2.all (fun q => ckE mths in_169 q.1 q.2)) = true := by decide +kernel
theorem ck_169_5 : ((es_169[5]?.getD (0, [])).2.all (fun q => ckE mths in_169 q.1 q.2)) = true := by decide +kernel
theorem ck_169_6 : ((es_169[6]?.getD (0, [])).2.all (fun q => ckE mths in_169 q.1 q.2)) = true := by decide +kernel
theorem ck_169_7 : ((es_169[7]?.getD (0, [])).2.all (fun q => ckE mths in_169 q.1 q.2)) = true := by decide +kernel
theorem ck_169 : ckM mths in_169 = true := List.all_eq_true.mpr (List.forall_mem_cons.mpr ⟨ck_169_0, List.forall_mem_cons.mpr ⟨ck_169_1, List.forall_mem_cons.mpr ⟨ck_169_2, List.forall_mem_cons.mpr ⟨ck_169_3, List.forall_mem_cons.mpr ⟨ck_169_4, List.forall_mem_cons.mpr ⟨ck_169_5, List.forall_mem_cons.mpr ⟨ck_169_6, List.forall_mem_cons.mpr ⟨ck_169_7, fun _ h => absurd h List.not_mem_nil⟩⟩⟩⟩⟩⟩⟩⟩)
theorem ck_170 : ckM mths in_170 = true := by decide +kernel
theorem ck_171 : ckM mths in_171 = true := by decide +kernel
theorem ck_172 : ckM mths in_172 = true := by decide +kernel
theorem ck_173_0 : ((es_173[0]?.getD (0, [])).2.all (fun q => ckE mths in_173 q.1 q.2)) = true := by decide +kernel
theorem ck_173_1 : ((es_173[1]?.getD (0, [])).2.all (fun q => ckE mths in_173 q.1 q.2)) = true := by decide +kernel
theorem ck_173_2 : ((es_173[2]?.getD (0, [])).2.all (fun q => ckE mths in_173 q.1 q.2)) = true := by decide +kernel
theorem ck_173_3 : ((es_173[3]?.getD (0, [])).2.all (fun q => ckE mths in_173 q.1 q.2)) = true := by decide +kernel
theorem ck_173_4 : ((es_173[4]?.getD (0, [])).2.all (fun q => ckE mths in_173 q.1 q.2)) = true := by decide +kernel
theorem ck_173_5 : ((es_173[5]?.getD (0, [])).2.all (fun q => ckE mths in_173 q.1 q.2)) = true := by decide +kernel
theorem ck_173_6 : ((es_173[6]?.getD (0, [])).2.all (fun q => ckE mths in_173 q.1 q.2)) = true := by decide +kernel
theorem ck_173_7 : ((es_173[7]?.getD (0, [])).2.all (fun q => ckE mths in_173 q.1 q.2)) = true := by decide +kernel
theorem ck_173_8 : ((es_173[8]?.getD (0, [])).2.all (fun q => ckE mths in_173 q.1 q.2)) = true := by decide +kernel
theorem ck_173_9 : ((es_173[9]?.getD (0, [])).2.all (fun q => ckE mths in_173 q.1 q.2)) = true := by decide +kernel
theorem ck_173_10 : ((es_173[10]?.getD (0, [])).2.all (fun q => ckE mths in_173 q.1 q.2)) = true := by decide +kernel
theorem ck_173 : ckM mths in_173 = true := List.all_eq_true.mpr (List.forall_mem_cons.mpr ⟨ck_173_0, List.forall_mem_cons.mpr ⟨ck_173_1, List.forall_mem_cons.mpr ⟨ck_173_2, List.forall_mem_cons.mpr ⟨ck_173_3, List.forall_mem_cons.mpr ⟨ck_173_4, List.forall_mem_cons.mpr ⟨ck_173_5, List.forall_mem_cons.mpr ⟨ck_173_6, List.forall_mem_cons.mpr ⟨ck_173_7, List.forall_mem_cons.mpr ⟨ck_173_8, List.forall_mem_cons.mpr ⟨ck_173_9, List.forall_mem_cons.mpr ⟨ck_173_10, fun _ h => absurd h List.not_mem_nil⟩⟩⟩⟩⟩⟩⟩⟩⟩⟩⟩)
theorem ck_174 : ckM mths in_174 = true := by decide +kernel
theorem ck_175 : ckM mths in_175 = true := by decide +kernel
theorem ck_176 : ckM mths in_176 = true := by decide +kernel
theorem ck_177_0 : ((es_177[0]?.getD (0, [])).2.all (fun q => ckE mths in_177 q.1 q.2)) = true := by decide +kernel
theorem ck_177_1 : ((es_177[1]?.getD (0, [])).2.all (fun q => ckE mths in_177 q.1 q.2)) = true := by decide +kernel
theorem ck_177_2 : ((es_177[2]?.getD (0, [])).2.all (fun q => ckE mths in_177 q.1 q.2)) = true := by decide +kernel
theorem ck_177_3 : ((es_177[3]?.getD (0, [])).2.all (fun q => ckE mths in_177 q.1 q.2)) = true := by decide +kernel
theorem ck_177_4 : ((es_177[4]?.getD (0, [])).2.all (fun q => ckE mths in_177 q.1 q.2)) = true := by decide +kernel
theorem ck_177_5 : ((es_177[5]?.getD (0, [])).2.all (fun q => ckE mths in_177 q.1 q.2)) = true := by decide +kernel
theorem ck_177_6 : ((es_177[6]?.getD (0, [])).2.all (fun q => ckE mths in_177 q.1 q.2)) = true := by decide +kernel
theorem ck_177_7 : ((es_177[7]?.getD (0, [])).2.all (fun q => ckE mths in_177 q.1 q.2)) = true := by decide +kernel
theorem ck_177_8 : ((es_177[8]?.getD (0, [])).2.all (fun q => ckE mths in_177 q.1 q.2)) = true := by decide +kernel
theorem ck_177_9 : ((es_177[9]?.getD (0, [])).2.all (fun q => ckE mths in_177 q.1 q.2)) = true := by decide +kernel
theorem ck_177_10 : ((es_177[10]?.getD (0, [])).2.all (fun q => ckE mths in_177 q.1 q.2)) = true := by decide +kernel
theorem ck_177_11 : ((es_177[11]?.getD (0, [])).2.all (fun q => ckE mths in_177 q.1 q.2)) = true := by decide +kernel
theorem ck_177 : ckM mths in_177 = true := List.all_eq_true.mpr (List.forall_mem_cons.mpr ⟨ck_177_0, List.forall_mem_cons.mpr ⟨ck_177_1, List.forall_mem_cons.mpr ⟨ck_177_2, List.forall_mem_cons.mpr ⟨ck_177_3, List.forall_mem_cons.mpr ⟨ck_177_4, List.forall_mem_cons.mpr ⟨ck_177_5, List.forall_mem_cons.mpr ⟨ck_177_6, List.forall_mem_cons.mpr ⟨ck_177_7, List.forall_mem_cons.mpr ⟨ck_177_8, List.forall_mem_cons.mpr ⟨ck_177_9, List.forall_mem_cons.mpr ⟨ck_177_10, List.forall_mem_cons.mpr ⟨ck_177_11, fun _ h => absurd h List.not_mem_nil⟩⟩⟩⟩⟩⟩⟩⟩⟩⟩⟩⟩)
theorem ck_178 : ckM mths in_178 = true := by decide +kernel
theorem ck_179_0 : ((es_179[0]?.getD (0, [])).2.all (fun q => ckE mths in_179 q.1 q.2)) = true := by decide +kernel
theorem ck_179_1 : ((es_179[1]?.getD (0, [])).2.all (fun q => ckE mths in_179 q.1 q.2)) = true := by decide +kernel
theorem ck_179_2 : ((es_179[2]?.getD (0, [])).2.all (fun q => ckE mths in_179 q.1 q.2)) = true := by decide +kernel
theorem ck_179_3 : ((es_179[3]?.getD (0, [])).2.all (fun q => ckE mths in_179 q.1 q.2)) = true := by decide +kernel
theorem ck_179_4 : ((es_179[4]?.getD (0, [])).2.all (fun q => ckE mths in_179 q.1 q.2)) = true := by decide +kernel
theorem ck_179_5 : ((es_179[5]?.getD (0, [])).2.all (fun q => ckE mths in_179 q.1 q.2)) = true := by decide +kernel
theorem ck_179_6 : ((es_179[6]?.getD (0, [])).2.all (fun q => ckE mths in_179 q.1 q.2)) = true := by decide +kernel
theorem ck_179_7 : ((es_179[7]?.getD (0, [])).2.all (fun q => ckE mths in_179 q.1 q.2)) = true := by decide +kernel
theorem ck_179_8 : ((es_179[8]?.getD (0, [])).2.all (fun q => ckE mths in_179 q.1 q.2)) = true := by decide +kernel
theorem ck_179 : ckM mths in_179 = true := List.all_eq_true.mpr (List.forall_mem_cons.mpr ⟨ck_179_0, List.forall_mem_cons.mpr ⟨ck_179_1, List.forall_mem_cons.mpr ⟨ck_179_2, List.forall_mem_cons.mpr ⟨ck_179_3, List.forall_mem_cons.mpr ⟨ck_179_4, List.forall_mem_cons.mpr ⟨ck_179_5, List.forall_mem_cons.mpr ⟨ck_179_6, List.forall_mem_cons.mpr ⟨ck_179_7, List.forall_mem_cons.mpr ⟨ck_179_8, fun _ h => absurd h List.not_mem_nil⟩⟩⟩⟩⟩⟩⟩⟩⟩)
theorem ck_180 : ckM mths in_180 = true := by decide +kernel
theorem ck_181 : ckM mths in_181 = true := by decide +kernel
theorem ck_182_0 : ((es_182[0]?.getD (0, [])).2.all (fun q => ckE mths in_182 q.1 q.2)) = true := by decide +kernel
theorem ck_182_1 : ((es_182[1]?.getD (0, [])).2.all (fun q => ckE mths in_182 q.1 q.2)) = true := by decide +kernel
theorem ck_182_2 : ((es_182[2]?.getD (0, [])).2.all (fun q => ckE mths in_182 q.1 q.2)) = true := by decide +kernel
theorem ck_182_3 : ((es_182[3]?.getD (0, [])).2.all (fun q => ckE mths in_182 q.1 q.2)) = true := by decide +kernel
theorem ck_182_4 : ((es_182[4]?.getD (0, [])).2.all (fun q => ckE mths in_182 q.1 q.2)) = true := by decide +kernel
theorem ck_182_5 : ((es_182[5]?.getD (0, [])).2.all (fun q => ckE mths in_182 q.1 q.2)) = true := by decide +kernel
theorem ck_182_6 : ((es_182[6]?.getD (0, [])).2.all (fun q => ckE mths in_182 q.1 q.2)) = true := by decide +kernel
theorem ck_182_7 : ((es_182[7]?.getD (0, [])).2.all (fun q => ckE mths in_182 q.1 q.2)) = true := by decide +kernel
theorem ck_182_8 : ((es_182[8]?.getD (0, [])).2.all (fun q => ckE mths in_182 q.1 q.2)) = true := by decide +kernel
theorem ck_182 : ckM mths in_182 = true := List.all_eq_true.mpr (List.forall_mem_cons.mpr ⟨ck_182_0, List.forall_mem_cons.mpr ⟨ck_182_1, List.forall_mem_cons.mpr ⟨ck_182_2, List.forall_mem_cons.mpr ⟨ck_182_3, List.forall_mem_cons.mpr ⟨ck_182_4, List.forall_mem_cons.mpr ⟨ck_182_5, List.forall_mem_cons.mpr ⟨ck_182_6, List.forall_mem_cons.mpr ⟨ck_182_7, List.forall_mem_cons.mpr ⟨ck_182_8, fun _ h => absurd h List.not_mem_nil⟩⟩⟩⟩⟩⟩⟩⟩⟩)
theorem ck_183_0 : ((es_183[0]?.getD (0, [])).2.all (fun q => ckE mths in_183 q.1 q.2)) = true := by decide +kernel
theorem ck_183_1 : ((es_183[1]?.getD (0, [])).2.all (fun q => ckE mths in_183 q.1 q.2)) = true := by decide +kernel
theorem ck_183_2 : ((es_183[2]?.getD (0, [])).2.all (fun q => ckE mths in_183 q.1 q.2)) = true := by decide +kernel
theorem ck_183_3 : ((es_183[3]?.getD (0, [])).2.all (fun q => ckE mths in_183 q.1 q.2)) = true := by decide +kernel
theorem ck_183_4 : ((es_183[4]?.getD (0, [])).2.all (fun q => ckE mths in_183 q.1 q.2)) = true := by decide +kernel
theorem ck_183_5 : ((es_183[5]?.getD (0, [])).2.all (fun q => ckE mths in_183 q.1 q.2)) = true := by decide +kernel
theorem ck_183_6 : ((es_183[6]?.getD (0, [])).2.all (fun q => ckE mths in_183 q.1 q.2)) = true := by decide +kernel
theorem ck_183_7 : ((es_183[7]?.getD (0, [])).2.all (fun q => ckE mths in_183 q.1 q.2)) = true := by decide +kernel
theorem ck_183_8 : ((es_183[8]?.getD (0, [])).2.all (fun q => ckE mths in_183 q.1 q.2)) = true := by decide +kernel
theorem ck_183 : ckM mths in_183 = true := List.all_eq_true.mpr (List.forall_mem_cons.mpr ⟨ck_183_0, List.forall_mem_cons.mpr ⟨ck_183_1, List.forall_mem_cons.mpr ⟨ck_183_2, List.forall_mem_cons.mpr ⟨ck_183_3, List.forall_mem_cons.mpr ⟨ck_183_4, List.forall_mem_cons.mpr ⟨ck_183_5, List.forall_mem_cons.mpr ⟨ck_183_6, List.forall_mem_cons.mpr ⟨ck_183_7, List.forall_mem_cons.mpr ⟨ck_183_8, fun _ h => absurd h List.not_mem_nil⟩⟩⟩⟩⟩⟩⟩⟩⟩)
theorem ck_184 : ckM mths in_184 = true := by decide +kernel
theorem ck_185_0 : ((es_185[0]?.getD (0, [])).2.all (fun q => ckE mths in_185 q.1 q.2)) = true := by decide +kernel
theorem ck_185_1 : ((es_185[1]?.getD (0, [])).2.all (fun q => ckE mths in_185 q.1 q.2)) = true := by decide +kernel
theorem ck_185_2 : ((es_185[2]?.getD (0, [])).2.all (fun q => ckE mths in_185 q.1 q.2)) = true := by decide +kernel
theorem ck_185_3 : ((es_185[3]?.getD (0, [])).2.all (fun q => ckE mths in_185 q.1 q.2)) = true := by decide +kernel
theorem ck_185_4 : ((es_185[4]?.getD (0, [])).2.all (fun q => ckE mths in_185 q.1 q.2)) = true := by decide +kernel
theorem ck_185_5 : ((es_185[5]?.getD (0, [])).2.all (fun q => ckE mths in_185 q.1 q.2)) = true := by decide +kernel
theorem ck_185_6 : ((es_185[6]?.getD (0, [])).2.all (fun q => ckE mths in_185 q.1 q.2)) = true := by decide +kernel
theorem ck_185_7 : ((es_185[7]?.getD (0, [])).2.all (fun q => ckE mths in_185 q.1 q.2)) = true := by decide +kernel
theorem ck_185_8 : ((es_185[8]?.getD (0, [])).2.all (fun q => ckE mths in_185 q.1 q.2)) = true := by decide +kernel
theorem ck_185 : ckM mths in_185 = true := List.all_eq_true.mpr (List.forall_mem_cons.mpr ⟨ck_185_0, List.forall_mem_cons.mpr ⟨ck_185_1, List.forall_mem_cons.mpr ⟨ck_185_2, List.forall_mem_cons.mpr ⟨ck_185_3, List.forall_mem_cons.mpr ⟨ck_185_4, List.forall_mem_cons.mpr ⟨ck_185_5, List.forall_mem_cons.mpr ⟨ck_185_6, List.forall_mem_cons.mpr ⟨ck_185_7, List.forall_mem_cons.mpr ⟨ck_185_8, fun _ h => absurd h List.not_mem_nil⟩⟩⟩⟩⟩⟩⟩⟩⟩)
theorem ck_186 : ckM mths in_186 = true := by decide +kernel
theorem ck_187 : ckM mths in_187 = true := by decide +kernel
theorem ck_188_0 : ((es_188[0]?.getD (0, [])).2.all (fun q => ckE mths in_188 q.1 q.2)) = true := by decide +kernel
theorem ck_188_1 : ((es_188[1]?.getD (0, [])).2.all (fun q => ckE mths in_188 q.1 q.2)) = true := by decide +kernel
theorem ck_188_2 : ((es_188[2]?.getD (0, [])).2.all (fun q => ckE mths in_188 q.1 q.2)) = true := by decide +kernel
theorem ck_188_3 : ((es_188[3]?.getD (0, [])).2.all (fun q => ckE mths in_188 q.1 q.2)) = true := by decide +kernel
theorem ck_188_4 : ((es_188[4]?.getD (0, [])).2.all (fun q => ckE mths in_188 q.1 q.2)) = true := by decide +kernel
theorem ck_188_5 : ((es_188[5]?.getD (0, [])).2.all (fun q => ckE mths in_188 q.1 q.2)) = true := by decide +kernel
theorem ck_188_6 : ((es_188[6]?.getD (0, [])).2.all (fun q => ckE mths in_188 q.1 q.2)) = true := by decide +kernel
theorem ck_188_7 : ((es_188[7]?.getD (0, [])).2.all (fun q => ckE mths in_188 q.1 q.2)) = true := by decide +kernel
theorem ck_188 : ckM mths in_188 = true := List.all_eq_true.mpr (List.forall_mem_cons.mpr ⟨ck_188_0, List.forall_mem_cons.mpr ⟨ck_188_1, List.forall_mem_cons.mpr ⟨ck_188_2, List.forall_mem_cons.mpr ⟨ck_188_3, List.forall_mem_cons.mpr ⟨ck_188_4, List.forall_mem_cons.mpr ⟨ck_188_5, List.forall_mem_cons.mpr ⟨ck_188_6, List.forall_mem_cons.mpr ⟨ck_188_7, fun _ h => absurd h List.not_mem_nil⟩⟩⟩⟩⟩⟩⟩⟩)
theorem ck_189 : ckM mths in_189 = true := by decide +kernel
theorem ck_190 : ckM mths in_190 = true := by decide +kernel
theorem ck_191_0 : ((es_191[0]?.getD (0, [])).2.all (fun q => ckE mths in_191 q.1 q.2)) = true := by decide +kernel
theorem ck_191_1 : ((es_191[1]?.getD (0, [])).2.all (fun q => ckE mths in_191 q.1 q.2)) = true := by decide +kernel
theorem ck_191_2 : ((es_191[2]?.getD (0, [])).2.all (fun q => ckE mths in_191 q.1 q.2)) = true := by decide +kernel
theorem ck_191_3 : ((es_191[3]?.getD (0, [])).2.all (fun q => ckE mths in_191 q.1 q.2)) = true := by decide +kernel
theorem ck_191_4 : ((es_191[4]?.getD (0, [])).2.all (fun q => ckE mths in_191 q.1 q.2)) = true := by decide +kernel
theorem ck_191_5 : ((es_191[5]?.getD (0, [])).2.all (fun q => ckE mths in_191 q.1 q.2)) = true := by decide +kernel
theorem ck_191_6 : ((es_191[6]?.getD (0, [])).2.all (fun q => ckE mths in_191 q.1 q.2)) = true := by decide +kernel
theorem ck_191_7 : ((es_191[7]?.getD (0, [])).2.all (fun q => ckE mths in_191 q.1 q.2)) = true := by decide +kernel
theorem ck_191_8 : ((es_191[8]?.getD (0, [])).2.all (fun q => ckE mths in_191 q.1 q.2)) = true := by decide +kernel
theorem ck_191 : ckM mths in_191 = true := List.all_eq_true.mpr (List.forall_mem_cons.mpr ⟨ck_191_0, List.forall_mem_cons.mpr ⟨ck_191_1, List.forall_mem_cons.mpr ⟨ck_191_2, List.forall_mem_cons.mpr ⟨ck_191_3, List.forall_mem_cons.mpr ⟨ck_191_4, List.forall_mem_cons.mpr ⟨ck_191_5, List.forall_mem_cons.mpr ⟨ck_191_6, List.forall_mem_cons.mpr ⟨ck_191_7, List.forall_mem_cons.mpr ⟨ck_191_8, fun _ h => absurd h List.not_mem_nil⟩⟩⟩⟩⟩⟩⟩⟩⟩)
theorem ck_192 : ckM mths in_192 = true := by decide +kernel
theorem ck_193 : ckM mths in_193 = true := by decide +kernel
