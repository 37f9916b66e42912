-- 0: HarbourTugs$Berths <init> ()V
def es_0 : List (Nat × List (Nat × Ent)) := [(12, [(0, e0 (.aload_n 0)), (1, .invokespecial 3, 0, 0, 6, 0, [10026, 10019, 10020]), (4, e0 (.aload_n 0)), (5, e0 (.bipush 6)), (7, .newarray .int, 1000, 0, 0, 0, [10036]), (9, .putfield 9, 0, 0, 1008, 0, [10027])]),
  (22, [(12, e0 (.aload_n 0)), (13, e0 (.bipush 6)), (15, .newarray .int, 1000, 0, 0, 0, [10036]), (17, .putfield 15, 0, 1, 1008, 0, [10029]), (20, e0 (.iconst 0)), (21, e0 (.istore_n 1))]),
  (32, [(22, e0 (.iload_n 1)), (23, e0 (.aload_n 0)), (24, .getfield 9, 0, 0, 1008, 0, [10027]), (27, e0 .arraylength), (28, .if_icmp .ge 19, 47, 0, 0, 0, []), (31, e0 (.aload_n 0))]),
  (41, [(32, .getfield 9, 0, 0, 1008, 0, [10027]), (35, e0 (.iload_n 1)), (36, e0 (.bipush 10)), (38, e0 (.iload_n 1)), (39, e0 .imul), (40, e0 .iastore)]),
  (100000, [(41, e0 (.iinc 1 1)), (44, .goto (-22), 22, 0, 0, 0, []), (47, e0 .return_)])]
def in_0 : MI := (⟨"HarbourTugs$Berths", "<init>", "()V"⟩, prog_2_method_1_code, 2, none, 1, 2, 12, 20, es_0)
-- 1: HarbourTugs$Berths hoursBetween (III)I
def es_1 : List (Nat × List (Nat × Ent)) := [(15, [(0, e0 (.iload_n 1)), (1, .invokestatic 18, 107, 1, 1, 0, [20093, 10001, 20076, 20075]), (4, .ifCond .eq 14, 18, 0, 0, 0, []), (7, e0 (.iload_n 2)), (8, .invokestatic 18, 107, 1, 1, 0, [20093, 10001, 20076, 20075]), (11, .ifCond .eq 7, 18, 0, 0, 0, []), (14, e0 (.iload_n 3))]),
  (26, [(15, .ifCond .gt 5, 20, 0, 0, 0, []), (18, e0 (.iconst 0)), (19, e0 .ireturn), (20, e0 (.aload_n 0)), (21, .getfield 9, 0, 0, 1008, 0, [10027]), (24, e0 (.iload_n 1)), (25, e0 .iaload)]),
  (39, [(26, e0 (.aload_n 0)), (27, .getfield 9, 0, 0, 1008, 0, [10027]), (30, e0 (.iload_n 2)), (31, e0 .iaload), (32, .if_icmp .le 19, 51, 0, 0, 0, []), (35, e0 (.aload_n 0)), (36, .getfield 9, 0, 0, 1008, 0, [10027])]),
  (48, [(39, e0 (.iload_n 1)), (40, e0 .iaload), (41, e0 (.aload_n 0)), (42, .getfield 9, 0, 0, 1008, 0, [10027]), (45, e0 (.iload_n 2)), (46, e0 .iaload), (47, e0 .isub)]),
  (61, [(48, .goto 16, 64, 0, 0, 0, []), (51, e0 (.aload_n 0)), (52, .getfield 9, 0, 0, 1008, 0, [10027]), (55, e0 (.iload_n 2)), (56, e0 .iaload), (57, e0 (.aload_n 0)), (58, .getfield 9, 0, 0, 1008, 0, [10027])]),
  (70, [(61, e0 (.iload_n 1)), (62, e0 .iaload), (63, e0 .isub), (64, e0 (.istore 4)), (66, e0 (.iload 4)), (68, e0 (.iload_n 3)), (69, e0 .iadd)]),
  (100000, [(70, e0 (.iconst 1)), (71, e0 .isub), (72, e0 (.iload_n 3)), (73, e0 .idiv), (74, e0 .ireturn)])]
def in_1 : MI := (⟨"HarbourTugs$Berths", "hoursBetween", "(III)I"⟩, prog_2_method_2_code, 5, some .int, 1, 0, 0, 20, es_1)
-- 2: HarbourTugs$Berths basinsOf (LHarbourTugs$Ship;)I
def es_2 : List (Nat × List (Nat × Ent)) := [(14, [(0, e0 (.aload_n 1)), (1, .getfield 22, 4, 5, 0, 0, [10116]), (4, .invokestatic 18, 107, 1, 1, 0, [20093, 10001, 20076, 20075]), (7, .ifCond .eq 13, 20, 0, 0, 0, []), (10, e0 (.aload_n 1)), (11, .getfield 28, 4, 6, 0, 0, [10119])]),
  (24, [(14, .invokestatic 18, 107, 1, 1, 0, [20093, 10001, 20076, 20075]), (17, .ifCond .ne 5, 22, 0, 0, 0, []), (20, e0 (.iconst 0)), (21, e0 .ireturn), (22, e0 (.iconst 1)), (23, e0 (.aload_n 0))]),
  (34, [(24, .getfield 15, 0, 1, 1008, 0, [10029]), (27, e0 (.aload_n 1)), (28, .getfield 22, 4, 5, 0, 0, [10116]), (31, e0 .iaload), (32, e0 .ishl), (33, e0 (.iconst 1))]),
  (44, [(34, e0 (.aload_n 0)), (35, .getfield 15, 0, 1, 1008, 0, [10029]), (38, e0 (.aload_n 1)), (39, .getfield 28, 4, 6, 0, 0, [10119]), (42, e0 .iaload), (43, e0 .ishl)]),
  (100000, [(44, e0 .ior), (45, e0 .ireturn)])]
def in_2 : MI := (⟨"HarbourTugs$Berths", "basinsOf", "(LHarbourTugs$Ship;)I"⟩, prog_2_method_3_code, 2, some .int, 1, 0, 0, 20, es_2)
-- 3: HarbourTugs$Berths shareBasin (LHarbourTugs$Ship;LHarbourTugs$Ship;)Z
def es_3 : List (Nat × List (Nat × Ent)) := [(6, [(0, e0 (.aload_n 0)), (1, e0 (.aload_n 1)), (2, .invokevirtual 31, 2, 1, 2, 0, [20214, 10002, 20217, 20216, 8]), (5, e0 (.aload_n 0))]),
  (14, [(6, e0 (.aload_n 2)), (7, .invokevirtual 31, 2, 1, 2, 0, [20214, 10002, 20217, 20216, 8]), (10, e0 .iand), (11, .ifCond .eq 7, 18, 0, 0, 0, [])]),
  (100000, [(14, e0 (.iconst 1)), (15, .goto 4, 19, 0, 0, 0, []), (18, e0 (.iconst 0)), (19, e0 .ireturn)])]
def in_3 : MI := (⟨"HarbourTugs$Berths", "shareBasin", "(LHarbourTugs$Ship;LHarbourTugs$Ship;)Z"⟩, prog_2_method_4_code, 3, some .boolean, 2, 0, 0, 41, es_3)
-- 4: HarbourTugs$Harbour <init> (LHarbourTugs$Berths;)V
def es_4 : List (Nat × List (Nat × Ent)) := [(21, [(0, e0 (.aload_n 0)), (1, .invokespecial 3, 0, 0, 6, 0, [10042, 10019, 10020]), (4, e0 (.aload_n 0)), (5, e0 (.bipush 12)), (7, .newarray .int, 1000, 0, 0, 0, [10036]), (9, .putfield 9, 1, 1, 1014, 0, [10149]), (12, e0 (.aload_n 0)), (13, e0 (.bipush 48)), (15, .newarray .int, 1000, 0, 0, 0, [10036]), (17, .putfield 15, 1, 2, 1050, 0, [10151]), (20, e0 (.aload_n 0))]),
  (44, [(21, e0 (.bipush 6)), (23, .anewarray 18, 5000, 0, 0, 0, [10043, 10044]), (26, .putfield 20, 1, 3, 5008, 0, [10154]), (29, e0 (.aload_n 0)), (30, e0 (.bipush 8)), (32, .anewarray 24, 4000, 0, 0, 0, [10045, 10046]), (35, .putfield 26, 1, 4, 4010, 0, [10156]), (38, e0 (.aload_n 0)), (39, e0 (.iconst 2)), (40, .putfield 30, 1, 5, 0, 0, [10159]), (43, e0 (.aload_n 0))]),
  (64, [(44, e0 (.iconst 0)), (45, .putfield 34, 1, 6, 0, 0, [10161]), (48, e0 (.aload_n 0)), (49, e0 (.bipush 10)), (51, .putfield 37, 1, 7, 0, 0, [10163]), (54, e0 (.aload_n 0)), (55, e0 (.lconst 0)), (56, .putfield 40, 1, 8, 1, 0, [10165]), (59, e0 (.aload_n 0)), (60, e0 (.iconst 0)), (61, .putfield 44, 1, 9, 0, 0, [10167])]),
  (81, [(64, e0 (.aload_n 0)), (65, e0 (.iconst 0)), (66, .putfield 47, 1, 10, 0, 0, [10169]), (69, e0 (.aload_n 0)), (70, e0 (.iconst 0)), (71, .putfield 50, 1, 11, 0, 0, [10171]), (74, e0 (.aload_n 0)), (75, e0 (.iconst 0)), (76, .putfield 53, 1, 12, 0, 0, [10173]), (79, e0 (.aload_n 0)), (80, e0 (.iconst 0))]),
  (100, [(81, .putfield 56, 1, 13, 0, 0, [10175]), (84, e0 (.aload_n 0)), (85, e0 (.iconst 0)), (86, .putfield 59, 1, 14, 0, 0, [10177]), (89, e0 (.aload_n 0)), (90, e0 (.iconst 0)), (91, .putfield 62, 1, 15, 0, 0, [10179]), (94, e0 (.aload_n 0)), (95, e0 (.aload_n 1)), (96, .putfield 65, 1, 0, 2, 0, [10148]), (99, e0 (.iconst 0))]),
  (117, [(100, e0 (.istore_n 2)), (101, e0 (.iload_n 2)), (102, e0 (.aload_n 0)), (103, .getfield 9, 1, 1, 1014, 0, [10149]), (106, e0 .arraylength), (107, .if_icmp .ge 16, 123, 0, 0, 0, []), (110, e0 (.aload_n 0)), (111, .getfield 9, 1, 1, 1014, 0, [10149]), (114, e0 (.iload_n 2)), (115, e0 (.iconst 5)), (116, e0 .iastore)]),
  (138, [(117, e0 (.iinc 2 1)), (120, .goto (-19), 101, 0, 0, 0, []), (123, e0 (.iconst 0)), (124, e0 (.istore_n 2)), (125, e0 (.iload_n 2)), (126, e0 (.aload_n 0)), (127, .getfield 20, 1, 3, 5008, 0, [10154]), (130, e0 .arraylength), (131, .if_icmp .ge 22, 153, 0, 0, 0, []), (134, e0 (.aload_n 0)), (135, .getfield 20, 1, 3, 5008, 0, [10154])]),
  (157, [(138, e0 (.iload_n 2)), (139, .new 18, 5, 0, 10, 0, [10043, 10047, 10004]), (142, e0 .dup), (143, .invokespecial 69, 63, 0, 5, 0, [10048, 10004, 10050, 10049]), (146, e0 .aastore), (147, e0 (.iinc 2 1)), (150, .goto (-25), 125, 0, 0, 0, []), (153, e0 (.iconst 0)), (154, e0 (.istore_n 2)), (155, e0 (.iload_n 2)), (156, e0 (.aload_n 0))]),
  (180, [(157, .getfield 26, 1, 4, 4010, 0, [10156]), (160, e0 .arraylength), (161, .if_icmp .ge 22, 183, 0, 0, 0, []), (164, e0 (.aload_n 0)), (165, .getfield 26, 1, 4, 4010, 0, [10156]), (168, e0 (.iload_n 2)), (169, .new 24, 4, 0, 9, 0, [10045, 10099, 10005]), (172, e0 .dup), (173, .invokespecial 70, 52, 0, 5, 0, [10100, 10005, 10102, 10101]), (176, e0 .aastore), (177, e0 (.iinc 2 1))]),
  (100000, [(180, .goto (-25), 155, 0, 0, 0, []), (183, e0 .return_)])]
def in_4 : MI := (⟨"HarbourTugs$Harbour", "<init>", "(LHarbourTugs$Berths;)V"⟩, prog_3_method_1_code, 3, none, 2, 18, 206, 40, es_4)
-- 5: HarbourTugs$Harbour copyFrom (LHarbourTugs$Harbour;)V
def es_5 : List (Nat × List (Nat × Ent)) := [(19, [(0, e0 (.aload_n 1)), (1, .getfield 9, 1, 1, 1014, 0, [10149]), (4, e0 (.iconst 0)), (5, e0 (.aload_n 0)), (6, .getfield 9, 1, 1, 1014, 0, [10149]), (9, e0 (.iconst 0)), (10, e0 (.bipush 12)), (12, .invokestatic 71, 0, 0, 7, 0, [30108, 30110, 30109, 10012]), (15, e0 (.aload_n 1)), (16, .getfield 15, 1, 2, 1050, 0, [10151])]),
  (35, [(19, e0 (.iconst 0)), (20, e0 (.aload_n 0)), (21, .getfield 15, 1, 2, 1050, 0, [10151]), (24, e0 (.iconst 0)), (25, e0 (.bipush 48)), (27, .invokestatic 71, 0, 0, 7, 0, [30108, 30110, 30109, 10012]), (30, e0 (.iconst 0)), (31, e0 (.istore_n 2)), (32, e0 (.iload_n 2)), (33, e0 (.bipush 6))]),
  (53, [(35, .if_icmp .ge 24, 59, 0, 0, 0, []), (38, e0 (.aload_n 0)), (39, .getfield 20, 1, 3, 5008, 0, [10154]), (42, e0 (.iload_n 2)), (43, e0 .aaload), (44, e0 (.aload_n 1)), (45, .getfield 20, 1, 3, 5008, 0, [10154]), (48, e0 (.iload_n 2)), (49, e0 .aaload), (50, .invokevirtual 77, 65, 1, 52, 0, [30111, 10004, 30114, 30112, 30113])]),
  (72, [(53, e0 (.iinc 2 1)), (56, .goto (-24), 32, 0, 0, 0, []), (59, e0 (.iconst 0)), (60, e0 (.istore_n 2)), (61, e0 (.iload_n 2)), (62, e0 (.bipush 8)), (64, .if_icmp .ge 24, 88, 0, 0, 0, []), (67, e0 (.aload_n 0)), (68, .getfield 26, 1, 4, 4010, 0, [10156]), (71, e0 (.iload_n 2))]),
  (90, [(72, e0 .aaload), (73, e0 (.aload_n 1)), (74, .getfield 26, 1, 4, 4010, 0, [10156]), (77, e0 (.iload_n 2)), (78, e0 .aaload), (79, .invokevirtual 81, 54, 1, 42, 0, [30116, 10005, 30119, 30117, 30118]), (82, e0 (.iinc 2 1)), (85, .goto (-24), 61, 0, 0, 0, []), (88, e0 (.aload_n 0)), (89, e0 (.aload_n 1))]),
  (112, [(90, .getfield 30, 1, 5, 0, 0, [10159]), (93, .putfield 30, 1, 5, 0, 0, [10159]), (96, e0 (.aload_n 0)), (97, e0 (.aload_n 1)), (98, .getfield 34, 1, 6, 0, 0, [10161]), (101, .putfield 34, 1, 6, 0, 0, [10161]), (104, e0 (.aload_n 0)), (105, e0 (.aload_n 1)), (106, .getfield 37, 1, 7, 0, 0, [10163]), (109, .putfield 37, 1, 7, 0, 0, [10163])]),
  (130, [(112, e0 (.aload_n 0)), (113, e0 (.aload_n 1)), (114, .getfield 40, 1, 8, 1, 0, [10165]), (117, .putfield 40, 1, 8, 1, 0, [10165]), (120, e0 (.aload_n 0)), (121, e0 (.aload_n 1)), (122, .getfield 44, 1, 9, 0, 0, [10167]), (125, .putfield 44, 1, 9, 0, 0, [10167]), (128, e0 (.aload_n 0)), (129, e0 (.aload_n 1))]),
  (152, [(130, .getfield 47, 1, 10, 0, 0, [10169]), (133, .putfield 47, 1, 10, 0, 0, [10169]), (136, e0 (.aload_n 0)), (137, e0 (.aload_n 1)), (138, .getfield 50, 1, 11, 0, 0, [10171]), (141, .putfield 50, 1, 11, 0, 0, [10171]), (144, e0 (.aload_n 0)), (145, e0 (.aload_n 1)), (146, .getfield 53, 1, 12, 0, 0, [10173]), (149, .putfield 53, 1, 12, 0, 0, [10173])]),
  (100000, [(152, e0 (.aload_n 0)), (153, e0 (.aload_n 1)), (154, .getfield 56, 1, 13, 0, 0, [10175]), (157, .putfield 56, 1, 13, 0, 0, [10175]), (160, e0 (.aload_n 0)), (161, e0 (.aload_n 1)), (162, .getfield 59, 1, 14, 0, 0, [10177]), (165, .putfield 59, 1, 14, 0, 0, [10177]), (168, e0 .return_)])]
def in_5 : MI := (⟨"HarbourTugs$Harbour", "copyFrom", "(LHarbourTugs$Harbour;)V"⟩, prog_3_method_2_code, 3, none, 3, 0, 0, 68, es_5)
-- 6: HarbourTugs$Harbour jobsLaid ()I
def es_6 : List (Nat × List (Nat × Ent)) := [(7, [(0, e0 (.iconst 0)), (1, e0 (.istore_n 1)), (2, e0 (.aload_n 0)), (3, .getfield 26, 1, 4, 4010, 0, [10156]), (6, e0 (.astore_n 2))]),
  (13, [(7, e0 (.aload_n 2)), (8, e0 .arraylength), (9, e0 (.istore_n 3)), (10, e0 (.iconst 0)), (11, e0 (.istore 4))]),
  (22, [(13, e0 (.iload 4)), (15, e0 (.iload_n 3)), (16, .if_icmp .ge 26, 42, 0, 0, 0, []), (19, e0 (.aload_n 2)), (20, e0 (.iload 4))]),
  (33, [(22, e0 .aaload), (23, e0 (.astore 5)), (25, e0 (.aload 5)), (27, .invokevirtual 84, 55, 0, 42, 0, [20081, 10005, 20084, 20082, 20083]), (30, .ifCond .eq 6, 36, 0, 0, 0, [])]),
  (100000, [(33, e0 (.iinc 1 1)), (36, e0 (.iinc 4 1)), (39, .goto (-26), 13, 0, 0, 0, []), (42, e0 (.iload_n 1)), (43, e0 .ireturn)])]
def in_6 : MI := (⟨"HarbourTugs$Harbour", "jobsLaid", "()I"⟩, prog_3_method_3_code, 6, some .int, 1, 0, 0, 20, es_6)
-- 7: HarbourTugs$Harbour isBerthUsed (I)Z
def es_7 : List (Nat × List (Nat × Ent)) := [(8, [(0, e0 (.aload_n 0)), (1, .getfield 26, 1, 4, 4010, 0, [10156]), (4, e0 (.astore_n 2)), (5, e0 (.aload_n 2)), (6, e0 .arraylength), (7, e0 (.istore_n 3))]),
  (18, [(8, e0 (.iconst 0)), (9, e0 (.istore 4)), (11, e0 (.iload 4)), (13, e0 (.iload_n 3)), (14, .if_icmp .ge 43, 57, 0, 0, 0, []), (17, e0 (.aload_n 2))]),
  (31, [(18, e0 (.iload 4)), (20, e0 .aaload), (21, e0 (.astore 5)), (23, e0 (.aload 5)), (25, .invokevirtual 84, 55, 0, 42, 0, [20081, 10005, 20084, 20082, 20083]), (28, .ifCond .eq 23, 51, 0, 0, 0, [])]),
  (45, [(31, e0 (.aload 5)), (33, .getfield 88, 4, 5, 0, 0, [10117]), (36, e0 (.iload_n 1)), (37, .if_icmp .eq 12, 49, 0, 0, 0, []), (40, e0 (.aload 5)), (42, .getfield 91, 4, 6, 0, 0, [10120])]),
  (57, [(45, e0 (.iload_n 1)), (46, .if_icmp .ne 5, 51, 0, 0, 0, []), (49, e0 (.iconst 1)), (50, e0 .ireturn), (51, e0 (.iinc 4 1)), (54, .goto (-43), 11, 0, 0, 0, [])]),
  (100000, [(57, e0 (.iconst 0)), (58, e0 .ireturn)])]
def in_7 : MI := (⟨"HarbourTugs$Harbour", "isBerthUsed", "(I)Z"⟩, prog_3_method_4_code, 6, some .boolean, 1, 0, 0, 20, es_7)
-- 8: HarbourTugs$Harbour pullHours (I)J
def es_8 : List (Nat × List (Nat × Ent)) := [(10, [(0, e0 (.lconst 0)), (1, e0 (.lstore_n 2)), (2, e0 (.aload_n 0)), (3, .getfield 20, 1, 3, 5008, 0, [10154]), (6, e0 (.astore 4)), (8, e0 (.aload 4))]),
  (20, [(10, e0 .arraylength), (11, e0 (.istore 5)), (13, e0 (.iconst 0)), (14, e0 (.istore 6)), (16, e0 (.iload 6)), (18, e0 (.iload 5))]),
  (32, [(20, .if_icmp .ge 44, 64, 0, 0, 0, []), (23, e0 (.aload 4)), (25, e0 (.iload 6)), (27, e0 .aaload), (28, e0 (.astore 7)), (30, e0 (.aload 7))]),
  (45, [(32, .getfield 94, 5, 0, 0, 0, [10053]), (35, e0 (.iload_n 1)), (36, .if_icmp .ne 22, 58, 0, 0, 0, []), (39, e0 (.lload_n 2)), (40, e0 (.aload 7)), (42, .getfield 97, 5, 1, 0, 0, [10056])]),
  (56, [(45, e0 .i2l), (46, e0 (.aload 7)), (48, .getfield 100, 5, 8, 1, 0, [10073]), (51, .invokestatic 103, 192, 1, 0, 0, [30060, 10010, 30008, 30007]), (54, e0 .i2l), (55, e0 .lmul)]),
  (100000, [(56, e0 .ladd), (57, e0 (.lstore_n 2)), (58, e0 (.iinc 6 1)), (61, .goto (-45), 16, 0, 0, 0, []), (64, e0 (.lload_n 2)), (65, e0 .lreturn)])]
def in_8 : MI := (⟨"HarbourTugs$Harbour", "pullHours", "(I)J"⟩, prog_3_method_5_code, 8, some .long, 1, 0, 0, 21, es_8)
-- 9: HarbourTugs$Harbour lastBerth (I)I
def es_9 : List (Nat × List (Nat × Ent)) := [(7, [(0, e0 (.aload_n 0)), (1, e0 (.iload_n 1)), (2, e0 (.bipush 48)), (4, .invokevirtual 109, 18, 2, 12, 0, [30021, 10003, 30024, 30023, 14])]),
  (13, [(7, e0 (.astore_n 2)), (8, e0 (.aload_n 2)), (9, .ifnonnull 15, 24, 0, 0, 0, []), (12, e0 (.aload_n 0))]),
  (21, [(13, .getfield 20, 1, 3, 5008, 0, [10154]), (16, e0 (.iload_n 1)), (17, e0 .aaload), (18, .getfield 113, 5, 6, 0, 0, [10067])]),
  (100000, [(21, .goto 7, 28, 0, 0, 0, []), (24, e0 (.aload_n 2)), (25, .getfield 91, 4, 6, 0, 0, [10120]), (28, e0 .ireturn)])]
def in_9 : MI := (⟨"HarbourTugs$Harbour", "lastBerth", "(I)I"⟩, prog_3_method_6_code, 3, some .int, 2, 0, 0, 48, es_9)
-- 10: HarbourTugs$Harbour neededPull (LHarbourTugs$Ship;I)I
def es_10 : List (Nat × List (Nat × Ent)) := [(10, [(0, e0 (.iload_n 2)), (1, e0 (.iconst 0)), (2, e0 (.bipush 47)), (4, .invokestatic 116, 105, 3, 1, 0, [20126, 10001, 20058, 20057]), (7, .ifCond .eq 24, 31, 0, 0, 0, [])]),
  (19, [(10, e0 (.aload_n 1)), (11, .getfield 120, 4, 0, 0, 0, [10106]), (14, e0 (.aload_n 1)), (15, .getfield 120, 4, 0, 0, 0, [10106]), (18, e0 (.aload_n 0))]),
  (26, [(19, .getfield 15, 1, 2, 1050, 0, [10151]), (22, e0 (.iload_n 2)), (23, e0 .iaload), (24, e0 .imul), (25, e0 (.iconst 5))]),
  (100000, [(26, e0 .idiv), (27, e0 .iadd), (28, .goto 4, 32, 0, 0, 0, []), (31, e0 (.iconst 0)), (32, e0 .ireturn)])]
def in_10 : MI := (⟨"HarbourTugs$Harbour", "neededPull", "(LHarbourTugs$Ship;I)I"⟩, prog_3_method_7_code, 3, some .int, 1, 0, 0, 22, es_10)
-- 11: HarbourTugs$Harbour mostNeeded (LHarbourTugs$Ship;II)I
def es_11 : List (Nat × List (Nat × Ent)) := [(8, [(0, e0 (.iconst 0)), (1, e0 (.istore 4)), (3, e0 (.iload_n 2)), (4, e0 (.istore 5)), (6, e0 (.iload 5))]),
  (19, [(8, e0 (.iload_n 3)), (9, .if_icmp .gt 30, 39, 0, 0, 0, []), (12, e0 (.iload 5)), (14, e0 (.bipush 48)), (16, .if_icmp .ge 23, 39, 0, 0, 0, [])]),
  (28, [(19, e0 (.iload 4)), (21, e0 (.aload_n 0)), (22, e0 (.aload_n 1)), (23, e0 (.iload 5)), (25, .invokevirtual 123, 10, 2, 12, 0, [20198, 10003, 20125, 20123, 20124])]),
  (41, [(28, .invokestatic 127, 0, 0, 8, 0, [20199, 20200, 10009, 20201]), (31, e0 (.istore 4)), (33, e0 (.iinc 5 1)), (36, .goto (-30), 6, 0, 0, 0, []), (39, e0 (.iload 4))]),
  (100000, [(41, e0 .ireturn)])]
def in_11 : MI := (⟨"HarbourTugs$Harbour", "mostNeeded", "(LHarbourTugs$Ship;II)I"⟩, prog_3_method_8_code, 6, some .int, 2, 0, 0, 60, es_11)
-- 12: HarbourTugs$Harbour pullOf (I)I
def es_12 : List (Nat × List (Nat × Ent)) := [(5, [(0, e0 (.iconst 0)), (1, e0 (.istore_n 2)), (2, e0 (.iconst 0)), (3, e0 (.istore_n 3)), (4, e0 (.iload_n 3))]),
  (14, [(5, e0 (.aload_n 0)), (6, .getfield 20, 1, 3, 5008, 0, [10154]), (9, e0 .arraylength), (10, .if_icmp .ge 29, 39, 0, 0, 0, []), (13, e0 (.iload_n 3))]),
  (23, [(14, e0 (.iload_n 1)), (15, .invokestatic 133, 113, 2, 1, 0, [20191, 10001, 20193, 20192]), (18, .ifCond .eq 15, 33, 0, 0, 0, []), (21, e0 (.iload_n 2)), (22, e0 (.aload_n 0))]),
  (32, [(23, .getfield 20, 1, 3, 5008, 0, [10154]), (26, e0 (.iload_n 3)), (27, e0 .aaload), (28, .getfield 97, 5, 1, 0, 0, [10056]), (31, e0 .iadd)]),
  (100000, [(32, e0 (.istore_n 2)), (33, e0 (.iinc 3 1)), (36, .goto (-32), 4, 0, 0, 0, []), (39, e0 (.iload_n 2)), (40, e0 .ireturn)])]
def in_12 : MI := (⟨"HarbourTugs$Harbour", "pullOf", "(I)I"⟩, prog_3_method_9_code, 4, some .int, 1, 0, 0, 21, es_12)
-- 13: HarbourTugs$Harbour canPullAstern (I)Z
def es_13 : List (Nat × List (Nat × Ent)) := [(7, [(0, e0 (.iconst 0)), (1, e0 (.istore_n 2)), (2, e0 (.iload_n 2)), (3, e0 (.aload_n 0)), (4, .getfield 20, 1, 3, 5008, 0, [10154])]),
  (16, [(7, e0 .arraylength), (8, .if_icmp .ge 32, 40, 0, 0, 0, []), (11, e0 (.iload_n 2)), (12, e0 (.iload_n 1)), (13, .invokestatic 133, 113, 2, 1, 0, [20191, 10001, 20193, 20192])]),
  (25, [(16, .ifCond .eq 18, 34, 0, 0, 0, []), (19, e0 (.aload_n 0)), (20, .getfield 20, 1, 3, 5008, 0, [10154]), (23, e0 (.iload_n 2)), (24, e0 .aaload)]),
  (34, [(25, .getfield 137, 5, 2, 0, 0, [10059]), (28, e0 (.iconst 1)), (29, .if_icmp .ne 5, 34, 0, 0, 0, []), (32, e0 (.iconst 1)), (33, e0 .ireturn)]),
  (100000, [(34, e0 (.iinc 2 1)), (37, .goto (-35), 2, 0, 0, 0, []), (40, e0 (.iconst 0)), (41, e0 .ireturn)])]
def in_13 : MI := (⟨"HarbourTugs$Harbour", "canPullAstern", "(I)Z"⟩, prog_3_method_10_code, 3, some .boolean, 1, 0, 0, 21, es_13)
-- 14: HarbourTugs$Harbour lowHours (LHarbourTugs$Ship;)J
def es_14 : List (Nat × List (Nat × Ent)) := [(9, [(0, e0 (.lconst 0)), (1, e0 (.lstore_n 2)), (2, e0 (.iconst 0)), (3, e0 (.istore 4)), (5, e0 (.iload 4)), (7, e0 (.bipush 48))]),
  (21, [(9, .if_icmp .ge 33, 42, 0, 0, 0, []), (12, e0 (.aload_n 0)), (13, .getfield 9, 1, 1, 1014, 0, [10149]), (16, e0 (.iload 4)), (18, e0 (.bipush 12)), (20, e0 .irem)]),
  (31, [(21, e0 .iaload), (22, e0 (.aload_n 1)), (23, .getfield 140, 4, 1, 0, 0, [10108]), (26, .if_icmp .ge 10, 36, 0, 0, 0, []), (29, e0 (.lload_n 2)), (30, e0 (.lconst 1))]),
  (42, [(31, e0 (.iload 4)), (33, e0 .lshl), (34, e0 .lor), (35, e0 (.lstore_n 2)), (36, e0 (.iinc 4 1)), (39, .goto (-34), 5, 0, 0, 0, [])]),
  (100000, [(42, e0 (.lload_n 2)), (43, e0 .lreturn)])]
def in_14 : MI := (⟨"HarbourTugs$Harbour", "lowHours", "(LHarbourTugs$Ship;)J"⟩, prog_3_method_11_code, 5, some .long, 0, 0, 0, 0, es_14)
-- 15: HarbourTugs$Harbour basinHours (LHarbourTugs$Ship;)J
def es_15 : List (Nat × List (Nat × Ent)) := [(10, [(0, e0 (.lconst 0)), (1, e0 (.lstore_n 2)), (2, e0 (.aload_n 0)), (3, .getfield 26, 1, 4, 4010, 0, [10156]), (6, e0 (.astore 4)), (8, e0 (.aload 4))]),
  (20, [(10, e0 .arraylength), (11, e0 (.istore 5)), (13, e0 (.iconst 0)), (14, e0 (.istore 6)), (16, e0 (.iload 6)), (18, e0 (.iload 5))]),
  (32, [(20, .if_icmp .ge 45, 65, 0, 0, 0, []), (23, e0 (.aload 4)), (25, e0 (.iload 6)), (27, e0 .aaload), (28, e0 (.astore 7)), (30, e0 (.aload 7))]),
  (45, [(32, .invokevirtual 84, 55, 0, 42, 0, [20081, 10005, 20084, 20082, 20083]), (35, .ifCond .eq 24, 59, 0, 0, 0, []), (38, e0 (.aload_n 0)), (39, .getfield 65, 1, 0, 2, 0, [10148]), (42, e0 (.aload_n 1)), (43, e0 (.aload 7))]),
  (58, [(45, .invokevirtual 143, 3, 2, 2, 0, [20210, 10002, 20213, 20211, 20212]), (48, .ifCond .eq 11, 59, 0, 0, 0, []), (51, e0 (.lload_n 2)), (52, e0 (.aload 7)), (54, .invokevirtual 149, 61, 0, 42, 0, [20218, 10005, 20221, 20219, 20220]), (57, e0 .lor)]),
  (100000, [(58, e0 (.lstore_n 2)), (59, e0 (.iinc 6 1)), (62, .goto (-46), 16, 0, 0, 0, []), (65, e0 (.lload_n 2)), (66, e0 .lreturn)])]
def in_15 : MI := (⟨"HarbourTugs$Harbour", "basinHours", "(LHarbourTugs$Ship;)J"⟩, prog_3_method_12_code, 8, some .long, 3, 0, 0, 63, es_15)
-- 16: HarbourTugs$Harbour isGuarded (LHarbourTugs$Ship;II)Z
def es_16 : List (Nat × List (Nat × Ent)) := [(7, [(0, e0 (.iload_n 2)), (1, e0 (.istore 4)), (3, e0 (.iload 4)), (5, e0 (.iload_n 2)), (6, e0 (.aload_n 1))]),
  (17, [(7, .getfield 153, 4, 3, 0, 0, [10113]), (10, e0 .iadd), (11, .if_icmp .ge 21, 32, 0, 0, 0, []), (14, e0 (.aload_n 0)), (15, e0 (.iload 4))]),
  (26, [(17, e0 (.iload_n 3)), (18, .invokevirtual 156, 17, 2, 12, 0, [20228, 10003, 20231, 20230, 10]), (21, .ifCond .ne 5, 26, 0, 0, 0, []), (24, e0 (.iconst 0)), (25, e0 .ireturn)]),
  (100000, [(26, e0 (.iinc 4 1)), (29, .goto (-26), 3, 0, 0, 0, []), (32, e0 (.iconst 1)), (33, e0 .ireturn)])]
def in_16 : MI := (⟨"HarbourTugs$Harbour", "isGuarded", "(LHarbourTugs$Ship;II)Z"⟩, prog_3_method_13_code, 5, some .boolean, 2, 0, 0, 44, es_16)
-- 17: HarbourTugs$Harbour hasIdle (II)Z
def es_17 : List (Nat × List (Nat × Ent)) := [(11, [(0, e0 (.iconst 0)), (1, e0 (.istore_n 3)), (2, e0 (.iload_n 3)), (3, e0 (.aload_n 0)), (4, .getfield 44, 1, 9, 0, 0, [10167]), (7, .if_icmp .ge 59, 66, 0, 0, 0, []), (10, e0 (.iload_n 3))]),
  (24, [(11, e0 (.aload_n 0)), (12, .getfield 20, 1, 3, 5008, 0, [10154]), (15, e0 .arraylength), (16, .if_icmp .ge 50, 66, 0, 0, 0, []), (19, e0 (.iload_n 3)), (20, e0 (.iload_n 2)), (21, .invokestatic 133, 113, 2, 1, 0, [20191, 10001, 20193, 20192])]),
  (37, [(24, .ifCond .ne 36, 60, 0, 0, 0, []), (27, e0 (.aload_n 0)), (28, .getfield 20, 1, 3, 5008, 0, [10154]), (31, e0 (.iload_n 3)), (32, e0 .aaload), (33, .getfield 100, 5, 8, 1, 0, [10073]), (36, e0 (.iload_n 1))]),
  (46, [(37, e0 .lushr), (38, e0 (.lconst 1)), (39, e0 .land), (40, e0 (.lconst 0)), (41, e0 .lcmp), (42, .ifCond .ne 18, 60, 0, 0, 0, []), (45, e0 (.aload_n 0))]),
  (59, [(46, .getfield 20, 1, 3, 5008, 0, [10154]), (49, e0 (.iload_n 3)), (50, e0 .aaload), (51, e0 (.iload_n 1)), (52, .invokevirtual 159, 66, 1, 52, 0, [20232, 10004, 20142, 20140, 20141]), (55, .ifCond .ne 5, 60, 0, 0, 0, []), (58, e0 (.iconst 1))]),
  (100000, [(59, e0 .ireturn), (60, e0 (.iinc 3 1)), (63, .goto (-61), 2, 0, 0, 0, []), (66, e0 (.iconst 0)), (67, e0 .ireturn)])]
def in_17 : MI := (⟨"HarbourTugs$Harbour", "hasIdle", "(II)Z"⟩, prog_3_method_14_code, 4, some .boolean, 1, 0, 0, 21, es_17)
-- 18: HarbourTugs$Harbour jobBefore (II)LHarbourTugs$Ship;
def es_18 : List (Nat × List (Nat × Ent)) := [(11, [(0, e0 .aconst_null), (1, e0 (.astore_n 3)), (2, e0 (.aload_n 0)), (3, .getfield 26, 1, 4, 4010, 0, [10156]), (6, e0 (.astore 4)), (8, e0 (.aload 4)), (10, e0 .arraylength)]),
  (25, [(11, e0 (.istore 5)), (13, e0 (.iconst 0)), (14, e0 (.istore 6)), (16, e0 (.iload 6)), (18, e0 (.iload 5)), (20, .if_icmp .ge 53, 73, 0, 0, 0, []), (23, e0 (.aload 4))]),
  (39, [(25, e0 (.iload 6)), (27, e0 .aaload), (28, e0 (.astore 7)), (30, e0 (.aload 7)), (32, e0 (.iload_n 1)), (33, .invokevirtual 163, 56, 1, 42, 0, [30025, 10005, 30028, 30026, 30027]), (36, .ifCond .eq 31, 67, 0, 0, 0, [])]),
  (54, [(39, e0 (.aload 7)), (41, .invokevirtual 166, 58, 0, 42, 0, [30029, 10005, 30032, 30030, 30031]), (44, e0 (.iload_n 2)), (45, .if_icmp .ge 22, 67, 0, 0, 0, []), (48, e0 (.aload_n 3)), (49, .ifnull 15, 64, 0, 0, 0, []), (52, e0 (.aload 7))]),
  (70, [(54, .getfield 170, 4, 7, 0, 0, [10124]), (57, e0 (.aload_n 3)), (58, .getfield 170, 4, 7, 0, 0, [10124]), (61, .if_icmp .le 6, 67, 0, 0, 0, []), (64, e0 (.aload 7)), (66, e0 (.astore_n 3)), (67, e0 (.iinc 6 1))]),
  (100000, [(70, .goto (-54), 16, 0, 0, 0, []), (73, e0 (.aload_n 3)), (74, e0 .areturn)])]
def in_18 : MI := (⟨"HarbourTugs$Harbour", "jobBefore", "(II)LHarbourTugs$Ship;"⟩, prog_3_method_15_code, 8, some (.object "HarbourTugs$Ship"), 1, 0, 0, 21, es_18)
-- 19: HarbourTugs$Harbour jobBehind (II)LHarbourTugs$Ship;
def es_19 : List (Nat × List (Nat × Ent)) := [(11, [(0, e0 .aconst_null), (1, e0 (.astore_n 3)), (2, e0 (.aload_n 0)), (3, .getfield 26, 1, 4, 4010, 0, [10156]), (6, e0 (.astore 4)), (8, e0 (.aload 4)), (10, e0 .arraylength)]),
  (25, [(11, e0 (.istore 5)), (13, e0 (.iconst 0)), (14, e0 (.istore 6)), (16, e0 (.iload 6)), (18, e0 (.iload 5)), (20, .if_icmp .ge 53, 73, 0, 0, 0, []), (23, e0 (.aload 4))]),
  (39, [(25, e0 (.iload 6)), (27, e0 .aaload), (28, e0 (.astore 7)), (30, e0 (.aload 7)), (32, e0 (.iload_n 1)), (33, .invokevirtual 163, 56, 1, 42, 0, [30025, 10005, 30028, 30026, 30027]), (36, .ifCond .eq 31, 67, 0, 0, 0, [])]),
  (54, [(39, e0 (.aload 7)), (41, .getfield 170, 4, 7, 0, 0, [10124]), (44, e0 (.iload_n 2)), (45, .if_icmp .lt 22, 67, 0, 0, 0, []), (48, e0 (.aload_n 3)), (49, .ifnull 15, 64, 0, 0, 0, []), (52, e0 (.aload 7))]),
  (70, [(54, .getfield 170, 4, 7, 0, 0, [10124]), (57, e0 (.aload_n 3)), (58, .getfield 170, 4, 7, 0, 0, [10124]), (61, .if_icmp .ge 6, 67, 0, 0, 0, []), (64, e0 (.aload 7)), (66, e0 (.astore_n 3)), (67, e0 (.iinc 6 1))]),
  (100000, [(70, .goto (-54), 16, 0, 0, 0, []), (73, e0 (.aload_n 3)), (74, e0 .areturn)])]
def in_19 : MI := (⟨"HarbourTugs$Harbour", "jobBehind", "(II)LHarbourTugs$Ship;"⟩, prog_3_method_16_code, 8, some (.object "HarbourTugs$Ship"), 1, 0, 0, 21, es_19)
-- 20: HarbourTugs$Harbour canBeThere (ILHarbourTugs$Ship;I)Z
def es_20 : List (Nat × List (Nat × Ent)) := [(17, [(0, e0 (.aload_n 0)), (1, e0 (.iload_n 1)), (2, e0 (.iload_n 3)), (3, .invokevirtual 109, 18, 2, 12, 0, [30021, 10003, 30024, 30023, 14]), (6, e0 (.astore 4)), (8, e0 (.aload 4)), (10, .ifnonnull 15, 25, 0, 0, 0, []), (13, e0 (.aload_n 0)), (14, .getfield 20, 1, 3, 5008, 0, [10154])]),
  (37, [(17, e0 (.iload_n 1)), (18, e0 .aaload), (19, .getfield 113, 5, 6, 0, 0, [10067]), (22, .goto 8, 30, 0, 0, 0, []), (25, e0 (.aload 4)), (27, .getfield 91, 4, 6, 0, 0, [10120]), (30, e0 (.istore 5)), (32, e0 (.aload 4)), (34, .ifnonnull 7, 41, 0, 0, 0, [])]),
  (53, [(37, e0 (.iconst 0)), (38, .goto 10, 48, 0, 0, 0, []), (41, e0 (.aload 4)), (43, .invokevirtual 166, 58, 0, 42, 0, [30029, 10005, 30032, 30030, 30031]), (46, e0 (.iconst 1)), (47, e0 .iadd), (48, e0 (.istore 6)), (50, e0 (.iload 6)), (52, e0 (.aload_n 0))]),
  (71, [(53, .getfield 65, 1, 0, 2, 0, [10148]), (56, e0 (.iload 5)), (58, e0 (.aload_n 2)), (59, .getfield 88, 4, 5, 0, 0, [10117]), (62, e0 (.aload_n 0)), (63, .getfield 37, 1, 7, 0, 0, [10163]), (66, .invokevirtual 173, 1, 3, 2, 0, [30033, 10002, 20092, 20090, 20091]), (69, e0 .iadd), (70, e0 (.iload_n 3))]),
  (85, [(71, .if_icmp .le 5, 76, 0, 0, 0, []), (74, e0 (.iconst 0)), (75, e0 .ireturn), (76, e0 (.iload_n 3)), (77, e0 (.aload_n 2)), (78, .getfield 153, 4, 3, 0, 0, [10113]), (81, e0 .iadd), (82, e0 (.istore 7)), (84, e0 (.aload_n 0))]),
  (104, [(85, e0 (.iload_n 1)), (86, e0 (.iload 7)), (88, .invokevirtual 177, 19, 2, 12, 0, [30034, 10003, 30037, 30036, 15]), (91, e0 (.astore 8)), (93, e0 (.aload 8)), (95, .ifnull 34, 129, 0, 0, 0, []), (98, e0 (.iload 7)), (100, e0 (.aload_n 0)), (101, .getfield 65, 1, 0, 2, 0, [10148])]),
  (123, [(104, e0 (.aload_n 2)), (105, .getfield 91, 4, 6, 0, 0, [10120]), (108, e0 (.aload 8)), (110, .getfield 88, 4, 5, 0, 0, [10117]), (113, e0 (.aload_n 0)), (114, .getfield 37, 1, 7, 0, 0, [10163]), (117, .invokevirtual 173, 1, 3, 2, 0, [30033, 10002, 20092, 20090, 20091]), (120, e0 .iadd), (121, e0 (.aload 8))]),
  (100000, [(123, .getfield 170, 4, 7, 0, 0, [10124]), (126, .if_icmp .gt 7, 133, 0, 0, 0, []), (129, e0 (.iconst 1)), (130, .goto 4, 134, 0, 0, 0, []), (133, e0 (.iconst 0)), (134, e0 .ireturn)])]
def in_20 : MI := (⟨"HarbourTugs$Harbour", "canBeThere", "(ILHarbourTugs$Ship;I)Z"⟩, prog_3_method_17_code, 9, some .boolean, 2, 0, 0, 48, es_20)
-- 21: HarbourTugs$Harbour failsBy (LHarbourTugs$Ship;II)I
def es_21 : List (Nat × List (Nat × Ent)) := [(10, [(0, e0 (.iconst 1)), (1, e0 (.istore 4)), (3, e0 (.iload 4)), (5, e0 (.bipush 12)), (7, .if_icmp .gt 24, 31, 0, 0, 0, [])]),
  (16, [(10, e0 (.aload_n 0)), (11, e0 (.iload 4)), (13, e0 (.aload_n 1)), (14, e0 (.iload_n 2)), (15, e0 (.iload_n 3))]),
  (28, [(16, .invokevirtual 180, 22, 4, 12, 0, [20168, 10003, 20171, 20170, 4]), (19, .ifCond .ne 6, 25, 0, 0, 0, []), (22, e0 (.iload 4)), (24, e0 .ireturn), (25, e0 (.iinc 4 1))]),
  (100000, [(28, .goto (-25), 3, 0, 0, 0, []), (31, e0 (.iconst 0)), (32, e0 .ireturn)])]
def in_21 : MI := (⟨"HarbourTugs$Harbour", "failsBy", "(LHarbourTugs$Ship;II)I"⟩, prog_3_method_18_code, 5, some .int, 6, 0, 0, 152, es_21)
-- 22: HarbourTugs$Harbour holds (ILHarbourTugs$Ship;II)Z
def es_22 : List (Nat × List (Nat × Ent)) := [(76, [(0, e0 (.iload_n 1)), (1, .tableswitch 194 1 12 #[63, 69, 91, 120, 194, 194, 194, 194, 127, 149, 194, 173], 195, 0, 63, 0, [64, 70, 92, 121, 195, 195, 195, 195, 128, 150, 195, 174]), (64, e0 (.aload_n 2)), (65, e0 (.iload_n 3)), (66, .invokevirtual 184, 59, 1, 42, 0, [20172, 10005, 20175, 20173, 20174]), (69, e0 .ireturn), (70, e0 (.aload_n 0)), (71, e0 (.aload_n 2)), (72, .invokevirtual 187, 14, 1, 12, 0, [20176, 10003, 20179, 20178, 5]), (75, e0 (.aload_n 2))]),
  (92, [(76, e0 (.iload_n 3)), (77, .invokevirtual 191, 60, 1, 42, 0, [20180, 10005, 20183, 20181, 20182]), (80, e0 .land), (81, e0 (.lconst 0)), (82, e0 .lcmp), (83, .ifCond .ne 7, 90, 0, 0, 0, []), (86, e0 (.iconst 1)), (87, .goto 4, 91, 0, 0, 0, []), (90, e0 (.iconst 0)), (91, e0 .ireturn)]),
  (107, [(92, e0 (.aload_n 0)), (93, e0 (.iload 4)), (95, .invokevirtual 195, 12, 1, 12, 0, [20187, 10003, 20190, 20188, 20189]), (98, e0 (.aload_n 0)), (99, e0 (.aload_n 2)), (100, e0 (.iload_n 3)), (101, e0 (.iload_n 3)), (102, e0 (.aload_n 2)), (103, .getfield 153, 4, 3, 0, 0, [10113]), (106, e0 .iadd)]),
  (124, [(107, e0 (.iconst 1)), (108, e0 .isub), (109, .invokevirtual 199, 11, 3, 12, 0, [20194, 10003, 20197, 20195, 20196]), (112, .if_icmp .lt 7, 119, 0, 0, 0, []), (115, e0 (.iconst 1)), (116, .goto 4, 120, 0, 0, 0, []), (119, e0 (.iconst 0)), (120, e0 .ireturn), (121, e0 (.aload_n 0)), (122, e0 (.iload 4))]),
  (140, [(124, .invokevirtual 203, 13, 1, 12, 0, [20202, 10003, 20205, 20204, 6]), (127, e0 .ireturn), (128, e0 (.aload_n 0)), (129, e0 (.aload_n 2)), (130, .invokevirtual 206, 15, 1, 12, 0, [20206, 10003, 20209, 20208, 7]), (133, e0 (.aload_n 2)), (134, e0 (.iload_n 3)), (135, .invokevirtual 191, 60, 1, 42, 0, [20180, 10005, 20183, 20181, 20182]), (138, e0 .land), (139, e0 (.lconst 0))]),
  (158, [(140, e0 .lcmp), (141, .ifCond .ne 7, 148, 0, 0, 0, []), (144, e0 (.iconst 1)), (145, .goto 4, 149, 0, 0, 0, []), (148, e0 (.iconst 0)), (149, e0 .ireturn), (150, e0 (.aload_n 0)), (151, .getfield 34, 1, 6, 0, 0, [10161]), (154, .ifCond .eq 14, 168, 0, 0, 0, []), (157, e0 (.aload_n 0))]),
  (175, [(158, e0 (.aload_n 2)), (159, e0 (.iload_n 3)), (160, e0 (.iload 4)), (162, .invokevirtual 209, 16, 3, 12, 0, [20224, 10003, 20227, 20226, 9]), (165, .ifCond .eq 7, 172, 0, 0, 0, []), (168, e0 (.iconst 1)), (169, .goto 4, 173, 0, 0, 0, []), (172, e0 (.iconst 0)), (173, e0 .ireturn), (174, e0 (.aload_n 0))]),
  (193, [(175, .getfield 40, 1, 8, 1, 0, [10165]), (178, e0 (.aload_n 2)), (179, e0 (.iload_n 3)), (180, .invokevirtual 191, 60, 1, 42, 0, [20180, 10005, 20183, 20181, 20182]), (183, e0 .land), (184, e0 (.lconst 0)), (185, e0 .lcmp), (186, .ifCond .ne 7, 193, 0, 0, 0, []), (189, e0 (.iconst 1)), (190, .goto 4, 194, 0, 0, 0, [])]),
  (100000, [(193, e0 (.iconst 0)), (194, e0 .ireturn), (195, e0 (.aload_n 0)), (196, e0 (.iload_n 1)), (197, e0 (.aload_n 2)), (198, e0 (.iload_n 3)), (199, e0 (.iload 4)), (201, .invokevirtual 213, 23, 4, 12, 0, [20233, 10003, 20236, 20235, 11]), (204, e0 .ireturn)])]
def in_22 : MI := (⟨"HarbourTugs$Harbour", "holds", "(ILHarbourTugs$Ship;II)Z"⟩, prog_3_method_19_code, 5, some .boolean, 5, 0, 0, 128, es_22)
-- 23: HarbourTugs$Harbour holdsForEach (ILHarbourTugs$Ship;II)Z
def es_23 : List (Nat × List (Nat × Ent)) := [(9, [(0, e0 (.iconst 0)), (1, e0 (.istore 5)), (3, e0 (.iload 5)), (5, e0 (.aload_n 0)), (6, .getfield 20, 1, 3, 5008, 0, [10154])]),
  (20, [(9, e0 .arraylength), (10, .if_icmp .ge 33, 43, 0, 0, 0, []), (13, e0 (.iload 5)), (15, e0 (.iload 4)), (17, .invokestatic 133, 113, 2, 1, 0, [20191, 10001, 20193, 20192])]),
  (28, [(20, .ifCond .eq 17, 37, 0, 0, 0, []), (23, e0 (.aload_n 0)), (24, e0 (.iload_n 1)), (25, e0 (.iload 5)), (27, e0 (.aload_n 2))]),
  (37, [(28, e0 (.iload_n 3)), (29, .invokevirtual 216, 24, 4, 12, 0, [20237, 10003, 30000, 20239, 12]), (32, .ifCond .ne 5, 37, 0, 0, 0, []), (35, e0 (.iconst 0)), (36, e0 .ireturn)]),
  (100000, [(37, e0 (.iinc 5 1)), (40, .goto (-37), 3, 0, 0, 0, []), (43, e0 (.iconst 1)), (44, e0 .ireturn)])]
def in_23 : MI := (⟨"HarbourTugs$Harbour", "holdsForEach", "(ILHarbourTugs$Ship;II)Z"⟩, prog_3_method_20_code, 6, some .boolean, 4, 0, 0, 103, es_23)
-- 24: HarbourTugs$Harbour holdsFor (IILHarbourTugs$Ship;I)Z
def es_24 : List (Nat × List (Nat × Ent)) := [(14, [(0, e0 (.aload_n 0)), (1, .getfield 20, 1, 3, 5008, 0, [10154]), (4, e0 (.iload_n 2)), (5, e0 .aaload), (6, e0 (.astore 5)), (8, e0 (.aload_n 3)), (9, e0 (.iload 4)), (11, .invokevirtual 191, 60, 1, 42, 0, [20180, 10005, 20183, 20181, 20182])]),
  (58, [(14, e0 (.lstore 6)), (16, e0 (.iload_n 1)), (17, .tableswitch 94 5 8 #[31, 39, 53, 71], 111, 0, 31, 0, [48, 56, 70, 88]), (48, e0 (.aload 5)), (50, e0 (.lload 6)), (52, .invokevirtual 220, 68, 1, 52, 0, [30001, 10004, 20138, 20136, 20137]), (55, e0 .ireturn), (56, e0 (.aload 5))]),
  (74, [(58, e0 (.aload 5)), (60, .getfield 100, 5, 8, 1, 0, [10073]), (63, e0 (.lload 6)), (65, e0 .lor), (66, .invokevirtual 224, 70, 1, 52, 0, [30002, 10004, 30005, 30003, 30004]), (69, e0 .ireturn), (70, e0 (.aload 5)), (72, e0 (.aload 5))]),
  (90, [(74, .getfield 100, 5, 8, 1, 0, [10073]), (77, e0 (.lload 6)), (79, e0 .lor), (80, e0 (.aload_n 0)), (81, .getfield 30, 1, 5, 0, 0, [10159]), (84, .invokevirtual 227, 72, 2, 52, 0, [30012, 10004, 30015, 30013, 30014]), (87, e0 .ireturn), (88, e0 (.aload 5))]),
  (105, [(90, e0 (.iload 4)), (92, e0 (.aload_n 3)), (93, .getfield 153, 4, 3, 0, 0, [10113]), (96, e0 .iadd), (97, e0 (.iconst 1)), (98, e0 .isub), (99, .invokevirtual 159, 66, 1, 52, 0, [20232, 10004, 20142, 20140, 20141]), (102, .ifCond .ne 7, 109, 0, 0, 0, [])]),
  (116, [(105, e0 (.iconst 1)), (106, .goto 4, 110, 0, 0, 0, []), (109, e0 (.iconst 0)), (110, e0 .ireturn), (111, e0 (.aload_n 0)), (112, e0 (.iload_n 2)), (113, e0 (.aload_n 3)), (114, e0 (.iload 4))]),
  (100000, [(116, .invokevirtual 231, 20, 3, 12, 0, [30017, 10003, 30020, 30019, 13]), (119, e0 .ireturn)])]
def in_24 : MI := (⟨"HarbourTugs$Harbour", "holdsFor", "(IILHarbourTugs$Ship;I)Z"⟩, prog_3_method_21_code, 8, some .boolean, 3, 0, 0, 76, es_24)
-- 25: HarbourTugs$Harbour seekBest (LHarbourTugs$Ship;)I
def es_25 : List (Nat × List (Nat × Ent)) := [(12, [(0, e0 (.aload_n 0)), (1, .getfield 40, 1, 8, 1, 0, [10165]), (4, e0 (.aload_n 0)), (5, e0 (.aload_n 1)), (6, .invokevirtual 187, 14, 1, 12, 0, [20176, 10003, 20179, 20178, 5]), (9, e0 .lor), (10, e0 (.aload_n 0)), (11, e0 (.aload_n 1))]),
  (26, [(12, .invokevirtual 206, 15, 1, 12, 0, [20206, 10003, 20209, 20208, 7]), (15, e0 .lor), (16, e0 (.lstore_n 2)), (17, e0 (.aload_n 1)), (18, .getfield 235, 4, 2, 0, 0, [10111]), (21, e0 (.istore 4)), (23, e0 (.iload 4)), (25, e0 (.aload_n 1))]),
  (42, [(26, .getfield 153, 4, 3, 0, 0, [10113]), (29, e0 .iadd), (30, e0 (.bipush 48)), (32, .if_icmp .gt 50, 82, 0, 0, 0, []), (35, e0 (.lload_n 2)), (36, e0 (.aload_n 1)), (37, e0 (.iload 4)), (39, .invokevirtual 191, 60, 1, 42, 0, [20180, 10005, 20183, 20181, 20182])]),
  (53, [(42, e0 .land), (43, e0 (.lconst 0)), (44, e0 .lcmp), (45, .ifCond .ne 31, 76, 0, 0, 0, []), (48, e0 (.aload_n 0)), (49, e0 (.aload_n 0)), (50, e0 (.aload_n 1)), (51, e0 (.iload 4))]),
  (70, [(53, e0 (.aload_n 0)), (54, e0 (.aload_n 1)), (55, e0 (.iload 4)), (57, .invokevirtual 238, 26, 2, 12, 0, [30070, 10003, 30073, 30072, 17]), (60, .invokevirtual 241, 27, 3, 12, 0, [30074, 10003, 30077, 30076, 18]), (63, .putfield 62, 1, 15, 0, 0, [10179]), (66, e0 (.aload_n 0)), (67, .getfield 62, 1, 15, 0, 0, [10179])]),
  (87, [(70, .ifCond .eq 6, 76, 0, 0, 0, []), (73, e0 (.iload 4)), (75, e0 .ireturn), (76, e0 (.iinc 4 1)), (79, .goto (-56), 23, 0, 0, 0, []), (82, e0 (.aload_n 0)), (83, e0 (.iconst 0)), (84, .putfield 62, 1, 15, 0, 0, [10179])]),
  (100000, [(87, e0 (.bipush (-4))), (89, e0 .ireturn)])]
def in_25 : MI := (⟨"HarbourTugs$Harbour", "seekBest", "(LHarbourTugs$Ship;)I"⟩, prog_3_method_22_code, 5, some .int, 4, 0, 0, 111, es_25)
-- 26: HarbourTugs$Harbour tugsFor (LHarbourTugs$Ship;I)I
def es_26 : List (Nat × List (Nat × Ent)) := [(14, [(0, e0 (.iconst 0)), (1, e0 (.istore_n 3)), (2, e0 (.aload_n 1)), (3, e0 (.iload_n 2)), (4, .invokevirtual 191, 60, 1, 42, 0, [20180, 10005, 20183, 20181, 20182]), (7, e0 (.lstore 4)), (9, e0 (.iconst 0)), (10, e0 (.istore 6)), (12, e0 (.iload 6))]),
  (32, [(14, e0 (.aload_n 0)), (15, .getfield 44, 1, 9, 0, 0, [10167]), (18, .if_icmp .ge 106, 124, 0, 0, 0, []), (21, e0 (.iload 6)), (23, e0 (.aload_n 0)), (24, .getfield 20, 1, 3, 5008, 0, [10154]), (27, e0 .arraylength), (28, .if_icmp .ge 96, 124, 0, 0, 0, []), (31, e0 (.aload_n 0))]),
  (50, [(32, .getfield 20, 1, 3, 5008, 0, [10154]), (35, e0 (.iload 6)), (37, e0 .aaload), (38, e0 (.astore 7)), (40, e0 (.aload 7)), (42, .getfield 100, 5, 8, 1, 0, [10073]), (45, e0 (.lload 4)), (47, e0 .lor), (48, e0 (.lstore 8))]),
  (68, [(50, e0 (.aload 7)), (52, e0 (.lload 4)), (54, .invokevirtual 220, 68, 1, 52, 0, [30001, 10004, 20138, 20136, 20137]), (57, .ifCond .eq 61, 118, 0, 0, 0, []), (60, e0 (.aload 7)), (62, e0 (.iload_n 2)), (63, e0 (.aload_n 1)), (64, .getfield 153, 4, 3, 0, 0, [10113]), (67, e0 .iadd)]),
  (84, [(68, e0 (.iconst 1)), (69, e0 .isub), (70, .invokevirtual 159, 66, 1, 52, 0, [20232, 10004, 20142, 20140, 20141]), (73, .ifCond .ne 45, 118, 0, 0, 0, []), (76, e0 (.aload_n 0)), (77, e0 (.iload 6)), (79, e0 (.aload_n 1)), (80, e0 (.iload_n 2)), (81, .invokevirtual 231, 20, 3, 12, 0, [30017, 10003, 30020, 30019, 13])]),
  (105, [(84, .ifCond .eq 34, 118, 0, 0, 0, []), (87, e0 (.aload 7)), (89, e0 (.lload 8)), (91, e0 (.aload_n 0)), (92, .getfield 30, 1, 5, 0, 0, [10159]), (95, .invokevirtual 227, 72, 2, 52, 0, [30012, 10004, 30015, 30013, 30014]), (98, .ifCond .eq 20, 118, 0, 0, 0, []), (101, e0 (.aload 7)), (103, e0 (.lload 8))]),
  (121, [(105, .invokevirtual 224, 70, 1, 52, 0, [30002, 10004, 30005, 30003, 30004]), (108, .ifCond .eq 10, 118, 0, 0, 0, []), (111, e0 (.iload_n 3)), (112, e0 (.iconst 1)), (113, e0 (.iload 6)), (115, e0 .ishl), (116, e0 .ior), (117, e0 (.istore_n 3)), (118, e0 (.iinc 6 1))]),
  (100000, [(121, .goto (-109), 12, 0, 0, 0, []), (124, e0 (.iload_n 3)), (125, e0 .ireturn)])]
def in_26 : MI := (⟨"HarbourTugs$Harbour", "tugsFor", "(LHarbourTugs$Ship;I)I"⟩, prog_3_method_23_code, 10, some .int, 3, 0, 0, 76, es_26)
-- 27: HarbourTugs$Harbour leastSet (LHarbourTugs$Ship;II)I
def es_27 : List (Nat × List (Nat × Ent)) := [(11, [(0, e0 (.aload_n 0)), (1, e0 (.aload_n 1)), (2, e0 (.iload_n 2)), (3, e0 (.iload_n 2)), (4, e0 (.aload_n 1)), (5, .getfield 153, 4, 3, 0, 0, [10113]), (8, e0 .iadd), (9, e0 (.iconst 1)), (10, e0 .isub)]),
  (28, [(11, .invokevirtual 199, 11, 3, 12, 0, [20194, 10003, 20197, 20195, 20196]), (14, e0 (.istore 4)), (16, e0 (.aload_n 0)), (17, e0 (.iload_n 3)), (18, .invokevirtual 195, 12, 1, 12, 0, [20187, 10003, 20190, 20188, 20189]), (21, e0 (.iload 4)), (23, .if_icmp .lt 11, 34, 0, 0, 0, []), (26, e0 (.aload_n 0)), (27, e0 (.iload_n 3))]),
  (44, [(28, .invokevirtual 203, 13, 1, 12, 0, [20202, 10003, 20205, 20204, 6]), (31, .ifCond .ne 5, 36, 0, 0, 0, []), (34, e0 (.iconst 0)), (35, e0 .ireturn), (36, e0 (.iconst 0)), (37, e0 (.istore 5)), (39, e0 (.iconst 1)), (40, e0 (.istore 6)), (42, e0 (.iload 6))]),
  (58, [(44, e0 (.iload_n 3)), (45, .if_icmp .gt 76, 121, 0, 0, 0, []), (48, e0 (.iload 6)), (50, e0 (.iload_n 3)), (51, e0 (.iconst (-1))), (52, e0 .ixor), (53, e0 .iand), (54, .ifCond .ne 61, 115, 0, 0, 0, []), (57, e0 (.aload_n 0))]),
  (79, [(58, e0 (.iload 6)), (60, .invokevirtual 195, 12, 1, 12, 0, [20187, 10003, 20190, 20188, 20189]), (63, e0 (.iload 4)), (65, .if_icmp .lt 50, 115, 0, 0, 0, []), (68, e0 (.aload_n 0)), (69, e0 (.iload 6)), (71, .invokevirtual 203, 13, 1, 12, 0, [20202, 10003, 20205, 20204, 6]), (74, .ifCond .eq 41, 115, 0, 0, 0, []), (77, e0 (.iload 5))]),
  (100, [(79, .ifCond .eq 14, 93, 0, 0, 0, []), (82, e0 (.aload_n 0)), (83, e0 (.iload 6)), (85, e0 (.iload 5)), (87, .invokevirtual 244, 28, 2, 12, 0, [30078, 10003, 30081, 30080, 19]), (90, .ifCond .eq 25, 115, 0, 0, 0, []), (93, e0 (.aload_n 0)), (94, .getfield 34, 1, 6, 0, 0, [10161]), (97, .ifCond .eq 14, 111, 0, 0, 0, [])]),
  (118, [(100, e0 (.aload_n 0)), (101, e0 (.aload_n 1)), (102, e0 (.iload_n 2)), (103, e0 (.iload 6)), (105, .invokevirtual 209, 16, 3, 12, 0, [20224, 10003, 20227, 20226, 9]), (108, .ifCond .eq 7, 115, 0, 0, 0, []), (111, e0 (.iload 6)), (113, e0 (.istore 5)), (115, e0 (.iinc 6 1))]),
  (100000, [(118, .goto (-76), 42, 0, 0, 0, []), (121, e0 (.iload 5)), (123, e0 .ireturn)])]
def in_27 : MI := (⟨"HarbourTugs$Harbour", "leastSet", "(LHarbourTugs$Ship;II)I"⟩, prog_3_method_24_code, 7, some .int, 3, 0, 0, 85, es_27)
-- 28: HarbourTugs$Harbour isLess (II)Z
def es_28 : List (Nat × List (Nat × Ent)) := [(11, [(0, e0 (.iload_n 1)), (1, .invokestatic 247, 193, 1, 0, 0, [30082, 10011, 30084, 30083]), (4, e0 (.istore_n 3)), (5, e0 (.iload_n 2)), (6, .invokestatic 247, 193, 1, 0, 0, [30082, 10011, 30084, 30083]), (9, e0 (.istore 4))]),
  (23, [(11, e0 (.iload_n 3)), (12, e0 (.iload 4)), (14, .if_icmp .eq 17, 31, 0, 0, 0, []), (17, e0 (.iload_n 3)), (18, e0 (.iload 4)), (20, .if_icmp .ge 7, 27, 0, 0, 0, [])]),
  (33, [(23, e0 (.iconst 1)), (24, .goto 25, 49, 0, 0, 0, []), (27, e0 (.iconst 0)), (28, .goto 21, 49, 0, 0, 0, []), (31, e0 (.aload_n 0)), (32, e0 (.iload_n 1))]),
  (45, [(33, .invokevirtual 195, 12, 1, 12, 0, [20187, 10003, 20190, 20188, 20189]), (36, e0 (.aload_n 0)), (37, e0 (.iload_n 2)), (38, .invokevirtual 195, 12, 1, 12, 0, [20187, 10003, 20190, 20188, 20189]), (41, .if_icmp .ge 7, 48, 0, 0, 0, []), (44, e0 (.iconst 1))]),
  (100000, [(45, .goto 4, 49, 0, 0, 0, []), (48, e0 (.iconst 0)), (49, e0 .ireturn)])]
def in_28 : MI := (⟨"HarbourTugs$Harbour", "isLess", "(II)Z"⟩, prog_3_method_25_code, 5, some .boolean, 2, 0, 0, 44, es_28)
-- 29: HarbourTugs$Harbour put (LHarbourTugs$Ship;II)V
def es_29 : List (Nat × List (Nat × Ent)) := [(12, [(0, e0 (.aload_n 1)), (1, e0 (.iload_n 2)), (2, .invokevirtual 191, 60, 1, 42, 0, [20180, 10005, 20183, 20181, 20182]), (5, e0 (.lstore 4)), (7, e0 (.iconst 0)), (8, e0 (.istore 6)), (10, e0 (.iload 6))]),
  (26, [(12, e0 (.aload_n 0)), (13, .getfield 20, 1, 3, 5008, 0, [10154]), (16, e0 .arraylength), (17, .if_icmp .ge 35, 52, 0, 0, 0, []), (20, e0 (.iload 6)), (22, e0 (.iload_n 3)), (23, .invokestatic 133, 113, 2, 1, 0, [20191, 10001, 20193, 20192])]),
  (40, [(26, .ifCond .eq 20, 46, 0, 0, 0, []), (29, e0 (.aload_n 0)), (30, .getfield 20, 1, 3, 5008, 0, [10154]), (33, e0 (.iload 6)), (35, e0 .aaload), (36, e0 .dup), (37, .getfield 100, 5, 8, 1, 0, [10073])]),
  (54, [(40, e0 (.lload 4)), (42, e0 .lor), (43, .putfield 100, 5, 8, 1, 0, [10073]), (46, e0 (.iinc 6 1)), (49, .goto (-39), 10, 0, 0, 0, []), (52, e0 (.aload_n 1)), (53, e0 (.iload_n 2))]),
  (67, [(54, .putfield 170, 4, 7, 0, 0, [10124]), (57, e0 (.aload_n 1)), (58, e0 (.iload_n 3)), (59, .putfield 251, 4, 8, 0, 0, [10128]), (62, e0 (.aload_n 0)), (63, e0 .dup), (64, .getfield 50, 1, 11, 0, 0, [10171])]),
  (100000, [(67, e0 (.iconst 1)), (68, e0 .iadd), (69, .putfield 50, 1, 11, 0, 0, [10171]), (72, e0 .return_)])]
def in_29 : MI := (⟨"HarbourTugs$Harbour", "put", "(LHarbourTugs$Ship;II)V"⟩, prog_3_method_26_code, 7, none, 2, 0, 0, 41, es_29)
-- 30: HarbourTugs$Harbour release (LHarbourTugs$Ship;II)I
def es_30 : List (Nat × List (Nat × Ent)) := [(13, [(0, e0 (.aload_n 1)), (1, .invokevirtual 149, 61, 0, 42, 0, [20218, 10005, 20221, 20219, 20220]), (4, e0 (.iload_n 3)), (5, .invokestatic 254, 112, 1, 1, 0, [30058, 10001, 20186, 20185]), (8, .ldc2_w 257, 0, 0, 0, (-1), [30059]), (11, e0 .lxor), (12, e0 .land)]),
  (24, [(13, e0 (.lstore 4)), (15, e0 (.iconst 0)), (16, e0 (.istore 6)), (18, e0 (.iconst 0)), (19, e0 (.istore 7)), (21, e0 (.iload 7)), (23, e0 (.aload_n 0))]),
  (40, [(24, .getfield 20, 1, 3, 5008, 0, [10154]), (27, e0 .arraylength), (28, .if_icmp .ge 60, 88, 0, 0, 0, []), (31, e0 (.iload 7)), (33, e0 (.iload_n 2)), (34, .invokestatic 133, 113, 2, 1, 0, [20191, 10001, 20193, 20192]), (37, .ifCond .eq 45, 82, 0, 0, 0, [])]),
  (54, [(40, e0 (.iload 6)), (42, e0 (.aload_n 0)), (43, .getfield 20, 1, 3, 5008, 0, [10154]), (46, e0 (.iload 7)), (48, e0 .aaload), (49, .getfield 100, 5, 8, 1, 0, [10073]), (52, e0 (.lload 4))]),
  (67, [(54, e0 .land), (55, .invokestatic 103, 192, 1, 0, 0, [30060, 10010, 30008, 30007]), (58, e0 .iadd), (59, e0 (.istore 6)), (61, e0 (.aload_n 0)), (62, .getfield 20, 1, 3, 5008, 0, [10154]), (65, e0 (.iload 7))]),
  (79, [(67, e0 .aaload), (68, e0 .dup), (69, .getfield 100, 5, 8, 1, 0, [10073]), (72, e0 (.lload 4)), (74, .ldc2_w 257, 0, 0, 0, (-1), [30059]), (77, e0 .lxor), (78, e0 .land)]),
  (100000, [(79, .putfield 100, 5, 8, 1, 0, [10073]), (82, e0 (.iinc 7 1)), (85, .goto (-64), 21, 0, 0, 0, []), (88, e0 (.iload 6)), (90, e0 .ireturn)])]
def in_30 : MI := (⟨"HarbourTugs$Harbour", "release", "(LHarbourTugs$Ship;II)I"⟩, prog_3_method_27_code, 8, some .int, 3, 0, 0, 61, es_30)
-- 31: HarbourTugs$Harbour lift (LHarbourTugs$Ship;)V
def es_31 : List (Nat × List (Nat × Ent)) := [(6, [(0, e0 (.aload_n 0)), (1, e0 (.aload_n 1)), (2, e0 (.aload_n 1)), (3, .getfield 251, 4, 8, 0, 0, [10128])]),
  (12, [(6, e0 (.iconst 0)), (7, .invokevirtual 259, 30, 3, 12, 0, [30054, 10003, 30057, 30056, 16]), (10, e0 .pop), (11, e0 (.aload_n 1))]),
  (100000, [(12, .invokevirtual 262, 57, 0, 42, 0, [30061, 10005, 20113, 20111, 20112]), (15, e0 .return_)])]
def in_31 : MI := (⟨"HarbourTugs$Harbour", "lift", "(LHarbourTugs$Ship;)V"⟩, prog_3_method_28_code, 2, none, 4, 0, 0, 88, es_31)
-- 32: HarbourTugs$Harbour liftAll (I)V
def es_32 : List (Nat × List (Nat × Ent)) := [(7, [(0, e0 (.iconst 0)), (1, e0 (.istore_n 2)), (2, e0 (.iload_n 2)), (3, e0 (.aload_n 0)), (4, .getfield 26, 1, 4, 4010, 0, [10156])]),
  (14, [(7, e0 .arraylength), (8, .if_icmp .ge 27, 35, 0, 0, 0, []), (11, e0 (.iload_n 1)), (12, e0 (.iload_n 2)), (13, e0 .iushr)]),
  (21, [(14, e0 (.iconst 1)), (15, e0 .iand), (16, .ifCond .eq 13, 29, 0, 0, 0, []), (19, e0 (.aload_n 0)), (20, e0 (.aload_n 0))]),
  (32, [(21, .getfield 26, 1, 4, 4010, 0, [10156]), (24, e0 (.iload_n 2)), (25, e0 .aaload), (26, .invokevirtual 265, 31, 1, 12, 0, [30172, 10003, 30053, 30051, 30052]), (29, e0 (.iinc 2 1))]),
  (100000, [(32, .goto (-30), 2, 0, 0, 0, []), (35, e0 .return_)])]
def in_32 : MI := (⟨"HarbourTugs$Harbour", "liftAll", "(I)V"⟩, prog_3_method_29_code, 3, none, 5, 0, 0, 109, es_32)
-- 33: HarbourTugs$Harbour takeOff (LHarbourTugs$Ship;I)I
def es_33 : List (Nat × List (Nat × Ent)) := [(7, [(0, e0 (.aload_n 0)), (1, e0 (.aload_n 1)), (2, e0 (.aload_n 1)), (3, .getfield 251, 4, 8, 0, 0, [10128]), (6, e0 (.iload_n 2))]),
  (16, [(7, .invokevirtual 259, 30, 3, 12, 0, [30054, 10003, 30057, 30056, 16]), (10, e0 (.istore_n 3)), (11, e0 (.aload_n 1)), (12, .invokevirtual 262, 57, 0, 42, 0, [30061, 10005, 20113, 20111, 20112]), (15, e0 (.aload_n 0))]),
  (25, [(16, e0 .dup), (17, .getfield 53, 1, 12, 0, 0, [10173]), (20, e0 (.iconst 1)), (21, e0 .iadd), (22, .putfield 53, 1, 12, 0, 0, [10173])]),
  (100000, [(25, e0 (.iload_n 3)), (26, e0 .ireturn)])]
def in_33 : MI := (⟨"HarbourTugs$Harbour", "takeOff", "(LHarbourTugs$Ship;I)I"⟩, prog_3_method_30_code, 4, some .int, 4, 0, 0, 88, es_33)
-- 34: HarbourTugs$Harbour clearPlan ()V
def es_34 : List (Nat × List (Nat × Ent)) := [(9, [(0, e0 (.aload_n 0)), (1, .getfield 20, 1, 3, 5008, 0, [10154]), (4, e0 (.astore_n 1)), (5, e0 (.aload_n 1)), (6, e0 .arraylength), (7, e0 (.istore_n 2)), (8, e0 (.iconst 0))]),
  (18, [(9, e0 (.istore_n 3)), (10, e0 (.iload_n 3)), (11, e0 (.iload_n 2)), (12, .if_icmp .ge 20, 32, 0, 0, 0, []), (15, e0 (.aload_n 1)), (16, e0 (.iload_n 3)), (17, e0 .aaload)]),
  (33, [(18, e0 (.astore 4)), (20, e0 (.aload 4)), (22, e0 (.lconst 0)), (23, .putfield 100, 5, 8, 1, 0, [10073]), (26, e0 (.iinc 3 1)), (29, .goto (-19), 10, 0, 0, 0, []), (32, e0 (.aload_n 0))]),
  (42, [(33, .getfield 26, 1, 4, 4010, 0, [10156]), (36, e0 (.astore_n 1)), (37, e0 (.aload_n 1)), (38, e0 .arraylength), (39, e0 (.istore_n 2)), (40, e0 (.iconst 0)), (41, e0 (.istore_n 3))]),
  (52, [(42, e0 (.iload_n 3)), (43, e0 (.iload_n 2)), (44, .if_icmp .ge 19, 63, 0, 0, 0, []), (47, e0 (.aload_n 1)), (48, e0 (.iload_n 3)), (49, e0 .aaload), (50, e0 (.astore 4))]),
  (100000, [(52, e0 (.aload 4)), (54, .invokevirtual 262, 57, 0, 42, 0, [30061, 10005, 20113, 20111, 20112]), (57, e0 (.iinc 3 1)), (60, .goto (-18), 42, 0, 0, 0, []), (63, e0 .return_)])]
def in_34 : MI := (⟨"HarbourTugs$Harbour", "clearPlan", "()V"⟩, prog_3_method_31_code, 5, none, 1, 0, 0, 20, es_34)
-- 35: HarbourTugs$Harbour layEach ([II)I
def es_35 : List (Nat × List (Nat × Ent)) := [(13, [(0, e0 (.iconst 0)), (1, e0 (.istore_n 3)), (2, e0 (.iconst 0)), (3, e0 (.istore 4)), (5, e0 (.iload 4)), (7, e0 (.iload_n 2)), (8, .if_icmp .ge 96, 104, 0, 0, 0, []), (11, e0 (.iload 4))]),
  (25, [(13, e0 (.aload_n 1)), (14, e0 .arraylength), (15, .if_icmp .ge 89, 104, 0, 0, 0, []), (18, e0 (.aload_n 1)), (19, e0 (.iload 4)), (21, e0 .iaload), (22, e0 (.iconst 0)), (23, e0 (.bipush 7))]),
  (40, [(25, .invokestatic 116, 105, 3, 1, 0, [20126, 10001, 20058, 20057]), (28, .ifCond .eq 70, 98, 0, 0, 0, []), (31, e0 (.aload_n 0)), (32, .getfield 26, 1, 4, 4010, 0, [10156]), (35, e0 (.aload_n 1)), (36, e0 (.iload 4)), (38, e0 .iaload), (39, e0 .aaload)]),
  (58, [(40, e0 (.astore 5)), (42, e0 (.aload 5)), (44, .invokevirtual 84, 55, 0, 42, 0, [20081, 10005, 20084, 20082, 20083]), (47, .ifCond .eq 8, 55, 0, 0, 0, []), (50, e0 (.bipush (-4))), (52, .goto 9, 61, 0, 0, 0, []), (55, e0 (.aload_n 0)), (56, e0 (.aload 5))]),
  (75, [(58, .invokevirtual 268, 25, 1, 12, 0, [30132, 10003, 30069, 30067, 30068]), (61, e0 (.istore 6)), (63, e0 (.iload 6)), (65, e0 (.bipush (-4))), (67, .if_icmp .eq 15, 82, 0, 0, 0, []), (70, e0 (.aload_n 0)), (71, e0 (.aload 5)), (73, e0 (.iload 6))]),
  (92, [(75, e0 (.aload_n 0)), (76, .getfield 62, 1, 15, 0, 0, [10179]), (79, .invokevirtual 272, 29, 3, 12, 0, [30133, 10003, 30045, 30043, 30044]), (82, e0 (.iload_n 3)), (83, e0 (.aload 5)), (85, .invokevirtual 84, 55, 0, 42, 0, [20081, 10005, 20084, 20082, 20083]), (88, .ifCond .eq 7, 95, 0, 0, 0, []), (91, e0 (.iconst 1))]),
  (100000, [(92, .goto 4, 96, 0, 0, 0, []), (95, e0 (.iconst 0)), (96, e0 .iadd), (97, e0 (.istore_n 3)), (98, e0 (.iinc 4 1)), (101, .goto (-96), 5, 0, 0, 0, []), (104, e0 (.iload_n 3)), (105, e0 .ireturn)])]
def in_35 : MI := (⟨"HarbourTugs$Harbour", "layEach", "([II)I"⟩, prog_3_method_32_code, 7, some .int, 5, 0, 0, 135, es_35)
-- 36: HarbourTugs$Harbour waitedOf (I)I
def es_36 : List (Nat × List (Nat × Ent)) := [(5, [(0, e0 (.iconst 0)), (1, e0 (.istore_n 2)), (2, e0 (.iconst 0)), (3, e0 (.istore_n 3)), (4, e0 (.iload_n 3))]),
  (14, [(5, e0 (.iload_n 1)), (6, .if_icmp .ge 30, 36, 0, 0, 0, []), (9, e0 (.iload_n 3)), (10, e0 (.aload_n 0)), (11, .getfield 26, 1, 4, 4010, 0, [10156])]),
  (23, [(14, e0 .arraylength), (15, .if_icmp .ge 21, 36, 0, 0, 0, []), (18, e0 (.iload_n 2)), (19, e0 (.aload_n 0)), (20, .getfield 26, 1, 4, 4010, 0, [10156])]),
  (30, [(23, e0 (.iload_n 3)), (24, e0 .aaload), (25, .invokevirtual 276, 62, 0, 42, 0, [30138, 10005, 30141, 30139, 30140]), (28, e0 .iadd), (29, e0 (.istore_n 2))]),
  (100000, [(30, e0 (.iinc 3 1)), (33, .goto (-29), 4, 0, 0, 0, []), (36, e0 (.iload_n 2)), (37, e0 .ireturn)])]
def in_36 : MI := (⟨"HarbourTugs$Harbour", "waitedOf", "(I)I"⟩, prog_3_method_33_code, 4, some .int, 2, 0, 0, 40, es_36)
-- 37: HarbourTugs$Harbour breakDown (II)I
def es_37 : List (Nat × List (Nat × Ent)) := [(16, [(0, e0 (.iconst 0)), (1, e0 (.istore_n 3)), (2, e0 (.aload_n 0)), (3, .getfield 26, 1, 4, 4010, 0, [10156]), (6, e0 (.astore 4)), (8, e0 (.aload 4)), (10, e0 .arraylength), (11, e0 (.istore 5)), (13, e0 (.iconst 0)), (14, e0 (.istore 6))]),
  (36, [(16, e0 (.iload 6)), (18, e0 (.iload 5)), (20, .if_icmp .ge 101, 121, 0, 0, 0, []), (23, e0 (.aload 4)), (25, e0 (.iload 6)), (27, e0 .aaload), (28, e0 (.astore 7)), (30, e0 (.aload 7)), (32, e0 (.iload_n 1)), (33, .invokevirtual 163, 56, 1, 42, 0, [30025, 10005, 30028, 30026, 30027])]),
  (56, [(36, .ifCond .eq 79, 115, 0, 0, 0, []), (39, e0 (.aload 7)), (41, .invokevirtual 166, 58, 0, 42, 0, [30029, 10005, 30032, 30030, 30031]), (44, e0 (.iload_n 2)), (45, .if_icmp .lt 70, 115, 0, 0, 0, []), (48, e0 (.aload_n 0)), (49, e0 (.aload 7)), (51, e0 (.iload_n 1)), (52, e0 (.iload_n 2)), (53, .invokevirtual 279, 38, 3, 12, 0, [30192, 10003, 30195, 30194, 24])]),
  (71, [(56, .ifCond .eq 40, 96, 0, 0, 0, []), (59, e0 (.aload_n 0)), (60, e0 .dup), (61, .getfield 56, 1, 13, 0, 0, [10175]), (64, e0 (.aload_n 0)), (65, e0 (.aload 7)), (67, e0 (.iconst 1)), (68, e0 (.iload_n 1)), (69, e0 .ishl), (70, e0 (.iload_n 2))]),
  (88, [(71, .invokevirtual 259, 30, 3, 12, 0, [30054, 10003, 30057, 30056, 16]), (74, e0 .iadd), (75, .putfield 56, 1, 13, 0, 0, [10175]), (78, e0 (.aload 7)), (80, e0 .dup), (81, .getfield 251, 4, 8, 0, 0, [10128]), (84, e0 (.iconst 1)), (85, e0 (.iload_n 1)), (86, e0 .ishl), (87, e0 (.iconst (-1)))]),
  (105, [(88, e0 .ixor), (89, e0 .iand), (90, .putfield 251, 4, 8, 0, 0, [10128]), (93, .goto 22, 115, 0, 0, 0, []), (96, e0 (.aload_n 0)), (97, e0 .dup), (98, .getfield 56, 1, 13, 0, 0, [10175]), (101, e0 (.aload_n 0)), (102, e0 (.aload 7)), (104, e0 (.iload_n 2))]),
  (127, [(105, .invokevirtual 282, 33, 2, 12, 0, [30196, 10003, 30199, 30198, 25]), (108, e0 .iadd), (109, .putfield 56, 1, 13, 0, 0, [10175]), (112, e0 (.iinc 3 1)), (115, e0 (.iinc 6 1)), (118, .goto (-102), 16, 0, 0, 0, []), (121, e0 (.aload_n 0)), (122, .getfield 20, 1, 3, 5008, 0, [10154]), (125, e0 (.iload_n 1)), (126, e0 .aaload)]),
  (145, [(127, e0 (.iload_n 2)), (128, .putfield 285, 5, 7, 0, 0, [10071]), (131, e0 (.aload_n 0)), (132, .getfield 20, 1, 3, 5008, 0, [10154]), (135, e0 (.iload_n 1)), (136, e0 .aaload), (137, e0 .dup), (138, .getfield 288, 5, 9, 1, 0, [10077]), (141, e0 (.iload_n 2)), (142, .invokestatic 254, 112, 1, 1, 0, [30058, 10001, 20186, 20185])]),
  (100000, [(145, e0 .land), (146, .putfield 288, 5, 9, 1, 0, [10077]), (149, e0 (.iload_n 3)), (150, e0 .ireturn)])]
def in_37 : MI := (⟨"HarbourTugs$Harbour", "breakDown", "(II)I"⟩, prog_3_method_34_code, 8, some .int, 5, 0, 0, 111, es_37)
-- 38: HarbourTugs$Harbour goesOn (LHarbourTugs$Ship;II)Z
def es_38 : List (Nat × List (Nat × Ent)) := [(8, [(0, e0 (.aload_n 1)), (1, .getfield 251, 4, 8, 0, 0, [10128]), (4, e0 (.iconst 1)), (5, e0 (.iload_n 2)), (6, e0 .ishl), (7, e0 (.iconst (-1)))]),
  (17, [(8, e0 .ixor), (9, e0 .iand), (10, e0 (.istore 4)), (12, e0 (.aload_n 1)), (13, .getfield 170, 4, 7, 0, 0, [10124]), (16, e0 (.iload_n 3))]),
  (29, [(17, .if_icmp .ge 33, 50, 0, 0, 0, []), (20, e0 (.iload 4)), (22, .ifCond .eq 28, 50, 0, 0, 0, []), (25, e0 (.iconst 2)), (26, e0 (.aload_n 0)), (27, e0 (.iload 4))]),
  (37, [(29, .invokevirtual 195, 12, 1, 12, 0, [20187, 10003, 20190, 20188, 20189]), (32, e0 .imul), (33, e0 (.aload_n 0)), (34, e0 (.aload_n 1)), (35, e0 (.iload_n 3)), (36, e0 (.aload_n 1))]),
  (51, [(37, .invokevirtual 166, 58, 0, 42, 0, [30029, 10005, 30032, 30030, 30031]), (40, .invokevirtual 199, 11, 3, 12, 0, [20194, 10003, 20197, 20195, 20196]), (43, .if_icmp .lt 7, 50, 0, 0, 0, []), (46, e0 (.iconst 1)), (47, .goto 4, 51, 0, 0, 0, []), (50, e0 (.iconst 0))]),
  (100000, [(51, e0 .ireturn)])]
def in_38 : MI := (⟨"HarbourTugs$Harbour", "goesOn", "(LHarbourTugs$Ship;II)Z"⟩, prog_3_method_35_code, 5, some .boolean, 3, 0, 0, 85, es_38)
-- 39: HarbourTugs$Harbour blow (II)I
def es_39 : List (Nat × List (Nat × Ent)) := [(14, [(0, e0 (.iload_n 2)), (1, e0 (.iconst 1)), (2, e0 .iadd), (3, .invokestatic 254, 112, 1, 1, 0, [30058, 10001, 20186, 20185]), (6, e0 (.iload_n 1)), (7, .invokestatic 254, 112, 1, 1, 0, [30058, 10001, 20186, 20185]), (10, .ldc2_w 257, 0, 0, 0, (-1), [30059]), (13, e0 .lxor)]),
  (26, [(14, e0 .land), (15, e0 (.lstore_n 3)), (16, e0 (.aload_n 0)), (17, e0 .dup), (18, .getfield 40, 1, 8, 1, 0, [10165]), (21, e0 (.lload_n 3)), (22, e0 .lor), (23, .putfield 40, 1, 8, 1, 0, [10165])]),
  (40, [(26, e0 (.iconst 0)), (27, e0 (.istore 5)), (29, e0 (.aload_n 0)), (30, .getfield 26, 1, 4, 4010, 0, [10156]), (33, e0 (.astore 6)), (35, e0 (.aload 6)), (37, e0 .arraylength), (38, e0 (.istore 7))]),
  (55, [(40, e0 (.iconst 0)), (41, e0 (.istore 8)), (43, e0 (.iload 8)), (45, e0 (.iload 7)), (47, .if_icmp .ge 55, 102, 0, 0, 0, []), (50, e0 (.aload 6)), (52, e0 (.iload 8)), (54, e0 .aaload)]),
  (69, [(55, e0 (.astore 9)), (57, e0 (.aload 9)), (59, .invokevirtual 149, 61, 0, 42, 0, [20218, 10005, 20221, 20219, 20220]), (62, e0 (.lload_n 3)), (63, e0 .land), (64, e0 (.lconst 0)), (65, e0 .lcmp), (66, .ifCond .eq 30, 96, 0, 0, 0, [])]),
  (83, [(69, e0 (.aload_n 0)), (70, e0 .dup), (71, .getfield 59, 1, 14, 0, 0, [10177]), (74, e0 (.aload_n 0)), (75, e0 (.aload 9)), (77, e0 (.iload_n 1)), (78, e0 (.aload 9)), (80, .getfield 170, 4, 7, 0, 0, [10124])]),
  (104, [(83, .invokestatic 127, 0, 0, 8, 0, [20199, 20200, 10009, 20201]), (86, .invokevirtual 282, 33, 2, 12, 0, [30196, 10003, 30199, 30198, 25]), (89, e0 .iadd), (90, .putfield 59, 1, 14, 0, 0, [10177]), (93, e0 (.iinc 5 1)), (96, e0 (.iinc 8 1)), (99, .goto (-56), 43, 0, 0, 0, []), (102, e0 (.iload 5))]),
  (100000, [(104, e0 .ireturn)])]
def in_39 : MI := (⟨"HarbourTugs$Harbour", "blow", "(II)I"⟩, prog_3_method_36_code, 10, some .int, 5, 0, 0, 111, es_39)
-- 40: HarbourTugs$Planner <init> (LHarbourTugs$Berths;)V
def es_40 : List (Nat × List (Nat × Ent)) := [(12, [(0, e0 (.aload_n 0)), (1, .invokespecial 3, 0, 0, 6, 0, [10219, 10019, 10020]), (4, e0 (.aload_n 0)), (5, e0 (.iconst 4)), (6, .newarray .int, 1000, 0, 0, 0, [10036]), (8, .putfield 9, 2, 1, 1006, 0, [10223]), (11, e0 (.aload_n 0))]),
  (25, [(12, e0 (.iconst 4)), (13, .newarray .int, 1000, 0, 0, 0, [10036]), (15, .putfield 15, 2, 2, 1006, 0, [10225]), (18, e0 (.aload_n 0)), (19, e0 (.iconst 4)), (20, .newarray .int, 1000, 0, 0, 0, [10036]), (22, .putfield 18, 2, 3, 1006, 0, [10226])]),
  (36, [(25, e0 (.aload_n 0)), (26, e0 (.iconst 0)), (27, .putfield 21, 2, 4, 0, 0, [10228]), (30, e0 (.aload_n 0)), (31, e0 (.iconst 0)), (32, .putfield 25, 2, 5, 0, 0, [10230]), (35, e0 (.aload_n 0))]),
  (49, [(36, e0 (.iconst 0)), (37, .putfield 28, 2, 6, 0, 0, [10232]), (40, e0 (.aload_n 0)), (41, .new 31, 1, 0, 16, 0, [10220, 10038, 10003]), (44, e0 .dup), (45, e0 (.aload_n 1)), (46, .invokespecial 33, 4, 1, 4, 0, [10221, 10003, 10041, 10040])]),
  (60, [(49, .putfield 36, 2, 0, 3, 0, [10222]), (52, e0 (.iconst 0)), (53, e0 (.istore_n 2)), (54, e0 (.iload_n 2)), (55, e0 (.aload_n 0)), (56, .getfield 9, 2, 1, 1006, 0, [10223]), (59, e0 .arraylength)]),
  (73, [(60, .if_icmp .ge 16, 76, 0, 0, 0, []), (63, e0 (.aload_n 0)), (64, .getfield 9, 2, 1, 1006, 0, [10223]), (67, e0 (.iload_n 2)), (68, e0 (.iload_n 2)), (69, e0 .iastore), (70, e0 (.iinc 2 1))]),
  (100000, [(73, .goto (-19), 54, 0, 0, 0, []), (76, e0 .return_)])]
def in_40 : MI := (⟨"HarbourTugs$Planner", "<init>", "(LHarbourTugs$Berths;)V"⟩, prog_4_method_1_code, 3, none, 3, 22, 234, 62, es_40)
-- 41: HarbourTugs$Planner findOrder (LHarbourTugs$Harbour;I)V
def es_41 : List (Nat × List (Nat × Ent)) := [(16, [(0, e0 (.aload_n 0)), (1, .getfield 36, 2, 0, 3, 0, [10222]), (4, e0 (.aload_n 1)), (5, .invokevirtual 40, 5, 1, 12, 0, [30104, 10003, 30107, 30105, 30106]), (8, e0 (.aload_n 0)), (9, .getfield 9, 2, 1, 1006, 0, [10223]), (12, e0 (.aload_n 0)), (13, .getfield 15, 2, 2, 1006, 0, [10225])]),
  (30, [(16, .invokestatic 44, 42, 2, 0, 0, [30121, 10006, 30123, 30122]), (19, e0 (.iconst 1)), (20, e0 (.istore_n 3)), (21, e0 (.iconst 0)), (22, e0 (.istore 4)), (24, e0 (.iload_n 3)), (25, .ifCond .eq 83, 108, 0, 0, 0, []), (28, e0 (.iload 4))]),
  (47, [(30, e0 (.bipush 24)), (32, .if_icmp .ge 76, 108, 0, 0, 0, []), (35, e0 (.aload_n 0)), (36, .getfield 36, 2, 0, 3, 0, [10222]), (39, .invokevirtual 48, 34, 0, 12, 0, [30124, 10003, 30127, 30125, 30126]), (42, e0 (.aload_n 0)), (43, .getfield 36, 2, 0, 3, 0, [10222]), (46, e0 (.aload_n 0))]),
  (63, [(47, .getfield 15, 2, 2, 1006, 0, [10225]), (50, e0 (.iload_n 2)), (51, .invokevirtual 51, 35, 2, 12, 0, [30128, 10003, 30131, 30129, 30130]), (54, e0 .pop), (55, e0 (.aload_n 0)), (56, .getfield 36, 2, 0, 3, 0, [10222]), (59, e0 (.iload_n 2)), (60, .invokevirtual 55, 36, 1, 12, 0, [30134, 10003, 30137, 30135, 30136])]),
  (80, [(63, e0 (.istore 5)), (65, e0 (.iload 4)), (67, .ifCond .eq 12, 79, 0, 0, 0, []), (70, e0 (.iload 5)), (72, e0 (.aload_n 0)), (73, .getfield 25, 2, 5, 0, 0, [10230]), (76, .if_icmp .ge 20, 96, 0, 0, 0, []), (79, e0 (.aload_n 0))]),
  (97, [(80, e0 (.iload 5)), (82, .putfield 25, 2, 5, 0, 0, [10230]), (85, e0 (.aload_n 0)), (86, .getfield 15, 2, 2, 1006, 0, [10225]), (89, e0 (.aload_n 0)), (90, .getfield 18, 2, 3, 1006, 0, [10226]), (93, .invokestatic 44, 42, 2, 0, 0, [30121, 10006, 30123, 30122]), (96, e0 (.aload_n 0))]),
  (100000, [(97, e0 (.iload_n 2)), (98, .invokevirtual 59, 43, 1, 22, 0, [30142, 10006, 30145, 30144, 21]), (101, e0 (.istore_n 3)), (102, e0 (.iinc 4 1)), (105, .goto (-81), 24, 0, 0, 0, []), (108, e0 .return_)])]
def in_41 : MI := (⟨"HarbourTugs$Planner", "findOrder", "(LHarbourTugs$Harbour;I)V"⟩, prog_4_method_2_code, 6, none, 6, 0, 0, 161, es_41)
-- 42: HarbourTugs$Planner takeOver ([I[I)V
def es_42 : List (Nat × List (Nat × Ent)) := [(5, [(0, e0 (.iconst 0)), (1, e0 (.istore_n 2)), (2, e0 (.iload_n 2)), (3, e0 (.aload_n 0)), (4, e0 .arraylength)]),
  (14, [(5, .if_icmp .ge 21, 26, 0, 0, 0, []), (8, e0 (.iload_n 2)), (9, e0 (.aload_n 1)), (10, e0 .arraylength), (11, .if_icmp .ge 15, 26, 0, 0, 0, [])]),
  (19, [(14, e0 (.aload_n 1)), (15, e0 (.iload_n 2)), (16, e0 (.aload_n 0)), (17, e0 (.iload_n 2)), (18, e0 .iaload)]),
  (100000, [(19, e0 .iastore), (20, e0 (.iinc 2 1)), (23, .goto (-21), 2, 0, 0, 0, []), (26, e0 .return_)])]
def in_42 : MI := (⟨"HarbourTugs$Planner", "takeOver", "([I[I)V"⟩, prog_4_method_3_code, 3, none, 0, 0, 0, 0, es_42)
-- 43: HarbourTugs$Planner nextOrder (I)Z
def es_43 : List (Nat × List (Nat × Ent)) := [(17, [(0, e0 (.iload_n 1)), (1, e0 (.aload_n 0)), (2, .getfield 15, 2, 2, 1006, 0, [10225]), (5, e0 .arraylength), (6, .if_icmp .ge 7, 13, 0, 0, 0, []), (9, e0 (.iload_n 1)), (10, .goto 8, 18, 0, 0, 0, []), (13, e0 (.aload_n 0)), (14, .getfield 15, 2, 2, 1006, 0, [10225])]),
  (26, [(17, e0 .arraylength), (18, e0 (.iconst 1)), (19, e0 .isub), (20, e0 (.istore_n 2)), (21, e0 (.iload_n 2)), (22, e0 (.iconst 1)), (23, e0 .isub), (24, e0 (.istore_n 3)), (25, e0 (.iload_n 3))]),
  (41, [(26, .ifCond .lt 26, 52, 0, 0, 0, []), (29, e0 (.aload_n 0)), (30, .getfield 15, 2, 2, 1006, 0, [10225]), (33, e0 (.iload_n 3)), (34, e0 .iaload), (35, e0 (.aload_n 0)), (36, .getfield 15, 2, 2, 1006, 0, [10225]), (39, e0 (.iload_n 3)), (40, e0 (.iconst 1))]),
  (58, [(41, e0 .iadd), (42, e0 .iaload), (43, .if_icmp .le 9, 52, 0, 0, 0, []), (46, e0 (.iinc 3 (-1))), (49, .goto (-24), 25, 0, 0, 0, []), (52, e0 (.iload_n 3)), (53, .ifCond .ge 5, 58, 0, 0, 0, []), (56, e0 (.iconst 0)), (57, e0 .ireturn)]),
  (73, [(58, e0 (.iload_n 2)), (59, e0 (.istore 4)), (61, e0 (.iload 4)), (63, e0 (.iload_n 3)), (64, e0 (.iconst 1)), (65, e0 .iadd), (66, .if_icmp .le 25, 91, 0, 0, 0, []), (69, e0 (.aload_n 0)), (70, .getfield 15, 2, 2, 1006, 0, [10225])]),
  (91, [(73, e0 (.iload 4)), (75, e0 .iaload), (76, e0 (.aload_n 0)), (77, .getfield 15, 2, 2, 1006, 0, [10225]), (80, e0 (.iload_n 3)), (81, e0 .iaload), (82, .if_icmp .ge 9, 91, 0, 0, 0, []), (85, e0 (.iinc 4 (-1))), (88, .goto (-27), 61, 0, 0, 0, [])]),
  (104, [(91, e0 (.aload_n 0)), (92, e0 (.iload_n 3)), (93, e0 (.iload 4)), (95, .invokevirtual 63, 44, 2, 22, 0, [30146, 10006, 30149, 30148, 22]), (98, e0 (.iload_n 3)), (99, e0 (.iconst 1)), (100, e0 .iadd), (101, e0 (.istore 5)), (103, e0 (.iload_n 2))]),
  (124, [(104, e0 (.istore 6)), (106, e0 (.iload 5)), (108, e0 (.iload 6)), (110, .if_icmp .ge 20, 130, 0, 0, 0, []), (113, e0 (.aload_n 0)), (114, e0 (.iload 5)), (116, e0 (.iload 6)), (118, .invokevirtual 63, 44, 2, 22, 0, [30146, 10006, 30149, 30148, 22]), (121, e0 (.iinc 5 1))]),
  (100000, [(124, e0 (.iinc 6 (-1))), (127, .goto (-21), 106, 0, 0, 0, []), (130, e0 (.iconst 1)), (131, e0 .ireturn)])]
def in_43 : MI := (⟨"HarbourTugs$Planner", "nextOrder", "(I)Z"⟩, prog_4_method_4_code, 7, some .boolean, 1, 0, 0, 23, es_43)
-- 44: HarbourTugs$Planner exchange (II)V
def es_44 : List (Nat × List (Nat × Ent)) := [(7, [(0, e0 (.aload_n 0)), (1, .getfield 15, 2, 2, 1006, 0, [10225]), (4, e0 (.iload_n 1)), (5, e0 .iaload), (6, e0 (.istore_n 3))]),
  (16, [(7, e0 (.aload_n 0)), (8, .getfield 15, 2, 2, 1006, 0, [10225]), (11, e0 (.iload_n 1)), (12, e0 (.aload_n 0)), (13, .getfield 15, 2, 2, 1006, 0, [10225])]),
  (23, [(16, e0 (.iload_n 2)), (17, e0 .iaload), (18, e0 .iastore), (19, e0 (.aload_n 0)), (20, .getfield 15, 2, 2, 1006, 0, [10225])]),
  (100000, [(23, e0 (.iload_n 2)), (24, e0 (.iload_n 3)), (25, e0 .iastore), (26, e0 .return_)])]
def in_44 : MI := (⟨"HarbourTugs$Planner", "exchange", "(II)V"⟩, prog_4_method_5_code, 4, none, 0, 0, 0, 0, es_44)
-- 45: HarbourTugs$Planner findMended (LHarbourTugs$Harbour;I)V
def es_45 : List (Nat × List (Nat × Ent)) := [(10, [(0, e0 (.aload_n 0)), (1, e0 (.iconst (-1))), (2, .putfield 21, 2, 4, 0, 0, [10228]), (5, e0 (.iconst 0)), (6, e0 (.istore_n 3)), (7, e0 (.iload_n 3)), (8, e0 (.iconst 1)), (9, e0 (.iload_n 2))]),
  (26, [(10, e0 .ishl), (11, .if_icmp .ge 86, 97, 0, 0, 0, []), (14, e0 (.aload_n 1)), (15, e0 (.iload_n 3)), (16, .invokestatic 67, 46, 2, 0, 0, [30164, 10006, 30166, 30165]), (19, .ifCond .eq 72, 91, 0, 0, 0, []), (22, e0 (.aload_n 0)), (23, .getfield 36, 2, 0, 3, 0, [10222])]),
  (42, [(26, e0 (.aload_n 1)), (27, .invokevirtual 40, 5, 1, 12, 0, [30104, 10003, 30107, 30105, 30106]), (30, e0 (.aload_n 0)), (31, .getfield 36, 2, 0, 3, 0, [10222]), (34, e0 (.iload_n 3)), (35, .invokevirtual 71, 32, 1, 12, 0, [30168, 10003, 30171, 30169, 30170]), (38, e0 (.aload_n 0)), (39, .getfield 36, 2, 0, 3, 0, [10222])]),
  (57, [(42, e0 (.aload_n 0)), (43, .getfield 9, 2, 1, 1006, 0, [10223]), (46, e0 (.iload_n 2)), (47, .invokevirtual 51, 35, 2, 12, 0, [30128, 10003, 30131, 30129, 30130]), (50, e0 (.istore 4)), (52, e0 (.aload_n 0)), (53, .getfield 36, 2, 0, 3, 0, [10222]), (56, e0 (.iload_n 2))]),
  (74, [(57, .invokevirtual 55, 36, 1, 12, 0, [30134, 10003, 30137, 30135, 30136]), (60, e0 (.istore 5)), (62, e0 (.aload_n 0)), (63, e0 (.iload 4)), (65, e0 (.iload_n 3)), (66, e0 (.iload 5)), (68, .invokevirtual 75, 47, 3, 22, 0, [30173, 10006, 30176, 30175, 23]), (71, .ifCond .eq 20, 91, 0, 0, 0, [])]),
  (88, [(74, e0 (.aload_n 0)), (75, e0 (.iload 4)), (77, .putfield 21, 2, 4, 0, 0, [10228]), (80, e0 (.aload_n 0)), (81, e0 (.iload_n 3)), (82, .putfield 28, 2, 6, 0, 0, [10232]), (85, e0 (.aload_n 0)), (86, e0 (.iload 5))]),
  (100000, [(88, .putfield 25, 2, 5, 0, 0, [10230]), (91, e0 (.iinc 3 1)), (94, .goto (-87), 7, 0, 0, 0, []), (97, e0 .return_)])]
def in_45 : MI := (⟨"HarbourTugs$Planner", "findMended", "(LHarbourTugs$Harbour;I)V"⟩, prog_4_method_6_code, 6, none, 6, 0, 0, 161, es_45)
-- 46: HarbourTugs$Planner allHaveJobs (LHarbourTugs$Harbour;I)Z
def es_46 : List (Nat × List (Nat × Ent)) := [(7, [(0, e0 (.iconst 0)), (1, e0 (.istore_n 2)), (2, e0 (.iload_n 2)), (3, e0 (.aload_n 0)), (4, .getfield 79, 1, 4, 4010, 0, [10157])]),
  (14, [(7, e0 .arraylength), (8, .if_icmp .ge 31, 39, 0, 0, 0, []), (11, e0 (.iload_n 1)), (12, e0 (.iload_n 2)), (13, e0 .iushr)]),
  (23, [(14, e0 (.iconst 1)), (15, e0 .iand), (16, .ifCond .eq 17, 33, 0, 0, 0, []), (19, e0 (.aload_n 0)), (20, .getfield 79, 1, 4, 4010, 0, [10157])]),
  (32, [(23, e0 (.iload_n 2)), (24, e0 .aaload), (25, .invokevirtual 83, 55, 0, 42, 0, [30167, 10005, 20084, 20082, 20083]), (28, .ifCond .ne 5, 33, 0, 0, 0, []), (31, e0 (.iconst 0))]),
  (100000, [(32, e0 .ireturn), (33, e0 (.iinc 2 1)), (36, .goto (-34), 2, 0, 0, 0, []), (39, e0 (.iconst 1)), (40, e0 .ireturn)])]
def in_46 : MI := (⟨"HarbourTugs$Planner", "allHaveJobs", "(LHarbourTugs$Harbour;I)Z"⟩, prog_4_method_7_code, 3, some .boolean, 1, 0, 0, 20, es_46)
-- 47: HarbourTugs$Planner isBetter (III)Z
def es_47 : List (Nat × List (Nat × Ent)) := [(13, [(0, e0 (.iload_n 1)), (1, e0 (.aload_n 0)), (2, .getfield 21, 2, 4, 0, 0, [10228]), (5, .if_icmp .eq 17, 22, 0, 0, 0, []), (8, e0 (.iload_n 1)), (9, e0 (.aload_n 0)), (10, .getfield 21, 2, 4, 0, 0, [10228])]),
  (26, [(13, .if_icmp .le 7, 20, 0, 0, 0, []), (16, e0 (.iconst 1)), (17, .goto 4, 21, 0, 0, 0, []), (20, e0 (.iconst 0)), (21, e0 .ireturn), (22, e0 (.iload_n 2)), (23, .invokestatic 89, 193, 1, 0, 0, [30177, 10011, 30084, 30083])]),
  (41, [(26, e0 (.istore 4)), (28, e0 (.aload_n 0)), (29, .getfield 28, 2, 6, 0, 0, [10232]), (32, .invokestatic 89, 193, 1, 0, 0, [30177, 10011, 30084, 30083]), (35, e0 (.istore 5)), (37, e0 (.iload 4)), (39, e0 (.iload 5))]),
  (56, [(41, .if_icmp .eq 18, 59, 0, 0, 0, []), (44, e0 (.iload 4)), (46, e0 (.iload 5)), (48, .if_icmp .ge 7, 55, 0, 0, 0, []), (51, e0 (.iconst 1)), (52, .goto 20, 72, 0, 0, 0, []), (55, e0 (.iconst 0))]),
  (71, [(56, .goto 16, 72, 0, 0, 0, []), (59, e0 (.iload_n 3)), (60, e0 (.aload_n 0)), (61, .getfield 25, 2, 5, 0, 0, [10230]), (64, .if_icmp .ge 7, 71, 0, 0, 0, []), (67, e0 (.iconst 1)), (68, .goto 4, 72, 0, 0, 0, [])]),
  (100000, [(71, e0 (.iconst 0)), (72, e0 .ireturn)])]
def in_47 : MI := (⟨"HarbourTugs$Planner", "isBetter", "(III)Z"⟩, prog_4_method_8_code, 6, some .boolean, 1, 0, 0, 20, es_47)
-- 48: HarbourTugs$Prices <init> ()V
def es_48 : List (Nat × List (Nat × Ent)) := [(9, [(0, e0 (.aload_n 0)), (1, .invokespecial 3, 0, 0, 6, 0, [20014, 10019, 10020]), (4, e0 (.aload_n 0)), (5, e0 (.bipush 12)), (7, .newarray .int, 1000, 0, 0, 0, [10036])]),
  (20, [(9, .putfield 9, 3, 0, 1014, 0, [20015]), (12, e0 (.aload_n 0)), (13, e0 (.bipush 12)), (15, .newarray .int, 1000, 0, 0, 0, [10036]), (17, .putfield 15, 3, 1, 1014, 0, [20016])]),
  (29, [(20, e0 (.aload_n 0)), (21, e0 (.bipush 12)), (23, .newarray .int, 1000, 0, 0, 0, [10036]), (25, .putfield 18, 3, 2, 1014, 0, [20017]), (28, e0 (.aload_n 0))]),
  (38, [(29, e0 (.bipush 12)), (31, .newarray .int, 1000, 0, 0, 0, [10036]), (33, .putfield 21, 3, 3, 1014, 0, [20018]), (36, e0 (.aload_n 0)), (37, e0 (.iconst 0))]),
  (100000, [(38, .putfield 24, 3, 4, 0, 0, [20019]), (41, e0 .return_)])]
def in_48 : MI := (⟨"HarbourTugs$Prices", "<init>", "()V"⟩, prog_5_method_1_code, 1, none, 1, 4, 48, 20, es_48)
-- 49: HarbourTugs$Prices tell (IIII)Z
def es_49 : List (Nat × List (Nat × Ent)) := [(14, [(0, e0 (.aload_n 0)), (1, .getfield 24, 3, 4, 0, 0, [20019]), (4, e0 (.iconst 0)), (5, e0 (.bipush 11)), (7, .invokestatic 28, 105, 3, 1, 0, [30230, 10001, 20058, 20057]), (10, .ifCond .ne 5, 15, 0, 0, 0, []), (13, e0 (.iconst 0))]),
  (25, [(14, e0 .ireturn), (15, e0 (.aload_n 0)), (16, .getfield 9, 3, 0, 1014, 0, [20015]), (19, e0 (.aload_n 0)), (20, .getfield 24, 3, 4, 0, 0, [20019]), (23, e0 (.iload_n 1)), (24, e0 .iastore)]),
  (36, [(25, e0 (.aload_n 0)), (26, .getfield 15, 3, 1, 1014, 0, [20016]), (29, e0 (.aload_n 0)), (30, .getfield 24, 3, 4, 0, 0, [20019]), (33, e0 (.iload_n 2)), (34, e0 .iastore), (35, e0 (.aload_n 0))]),
  (49, [(36, .getfield 18, 3, 2, 1014, 0, [20017]), (39, e0 (.aload_n 0)), (40, .getfield 24, 3, 4, 0, 0, [20019]), (43, e0 (.iload_n 3)), (44, e0 .iastore), (45, e0 (.aload_n 0)), (46, .getfield 21, 3, 3, 1014, 0, [20018])]),
  (61, [(49, e0 (.aload_n 0)), (50, .getfield 24, 3, 4, 0, 0, [20019]), (53, e0 (.iload 4)), (55, e0 .iastore), (56, e0 (.aload_n 0)), (57, e0 .dup), (58, .getfield 24, 3, 4, 0, 0, [20019])]),
  (100000, [(61, e0 (.iconst 1)), (62, e0 .iadd), (63, .putfield 24, 3, 4, 0, 0, [20019]), (66, e0 (.iconst 1)), (67, e0 .ireturn)])]
def in_49 : MI := (⟨"HarbourTugs$Prices", "tell", "(IIII)Z"⟩, prog_5_method_2_code, 5, some .boolean, 1, 0, 0, 22, es_49)
-- 50: HarbourTugs$Prices priceOf (LHarbourTugs$Harbour;LHarbourTugs$Ship;)J
def es_50 : List (Nat × List (Nat × Ent)) := [(14, [(0, e0 (.lconst 0)), (1, e0 (.lstore_n 3)), (2, e0 (.iconst 0)), (3, e0 (.istore 5)), (5, e0 (.iload 5)), (7, e0 (.aload_n 0)), (8, .getfield 24, 3, 4, 0, 0, [20019]), (11, .if_icmp .ge 76, 87, 0, 0, 0, [])]),
  (29, [(14, e0 (.iload 5)), (16, e0 (.bipush 12)), (18, .if_icmp .ge 69, 87, 0, 0, 0, []), (21, e0 (.aload_n 0)), (22, .getfield 9, 3, 0, 1014, 0, [20015]), (25, e0 (.iload 5)), (27, e0 .iaload), (28, e0 (.aload_n 0))]),
  (44, [(29, .getfield 15, 3, 1, 1014, 0, [20016]), (32, e0 (.iload 5)), (34, e0 .iaload), (35, e0 (.aload_n 1)), (36, e0 (.aload_n 2)), (37, .invokestatic 32, 51, 4, 0, 0, [40000, 10007, 40002, 40001]), (40, .ifCond .eq 41, 81, 0, 0, 0, []), (43, e0 (.lload_n 3))]),
  (60, [(44, e0 (.aload_n 0)), (45, .getfield 18, 3, 2, 1014, 0, [20017]), (48, e0 (.iload 5)), (50, e0 .iaload), (51, .ifCond .ne 14, 65, 0, 0, 0, []), (54, e0 (.aload_n 0)), (55, .getfield 21, 3, 3, 1014, 0, [20018]), (58, e0 (.iload 5))]),
  (73, [(60, e0 .iaload), (61, e0 .i2l), (62, .goto 17, 79, 0, 0, 0, []), (65, e0 (.lload_n 3)), (66, e0 (.aload_n 0)), (67, .getfield 21, 3, 3, 1014, 0, [20018]), (70, e0 (.iload 5)), (72, e0 .iaload)]),
  (87, [(73, e0 .i2l), (74, e0 .lmul), (75, .ldc2_w 36, 0, 0, 0, 100, [40006]), (78, e0 .ldiv), (79, e0 .ladd), (80, e0 (.lstore_n 3)), (81, e0 (.iinc 5 1)), (84, .goto (-79), 5, 0, 0, 0, [])]),
  (100000, [(87, e0 (.lload_n 3)), (88, e0 .lreturn)])]
def in_50 : MI := (⟨"HarbourTugs$Prices", "priceOf", "(LHarbourTugs$Harbour;LHarbourTugs$Ship;)J"⟩, prog_5_method_3_code, 6, some .long, 3, 0, 0, 67, es_50)
-- 51: HarbourTugs$Prices isSo (IILHarbourTugs$Harbour;LHarbourTugs$Ship;)Z
def es_51 : List (Nat × List (Nat × Ent)) := [(51, [(0, e0 (.iload_n 0)), (1, .tableswitch 149 0 5 #[39, 41, 55, 84, 114, 131], 150, 0, 39, 0, [40, 42, 56, 85, 115, 132]), (40, e0 (.iconst 1)), (41, e0 .ireturn), (42, e0 (.aload_n 3)), (43, .getfield 38, 4, 0, 0, 0, [10105]), (46, e0 (.iload_n 1)), (47, .if_icmp .lt 7, 54, 0, 0, 0, []), (50, e0 (.iconst 1))]),
  (70, [(51, .goto 4, 55, 0, 0, 0, []), (54, e0 (.iconst 0)), (55, e0 .ireturn), (56, e0 (.aload_n 3)), (57, .getfield 43, 4, 7, 0, 0, [10122]), (60, .invokestatic 46, 106, 1, 1, 0, [40003, 10001, 20065, 20064]), (63, .ifCond .eq 20, 83, 0, 0, 0, []), (66, e0 (.aload_n 2)), (67, .getfield 50, 1, 2, 1050, 0, [10153])]),
  (85, [(70, e0 (.aload_n 3)), (71, .getfield 43, 4, 7, 0, 0, [10122]), (74, e0 .iaload), (75, e0 (.iload_n 1)), (76, .if_icmp .lt 7, 83, 0, 0, 0, []), (79, e0 (.iconst 1)), (80, .goto 4, 84, 0, 0, 0, []), (83, e0 (.iconst 0)), (84, e0 .ireturn)]),
  (103, [(85, e0 (.aload_n 3)), (86, .getfield 43, 4, 7, 0, 0, [10122]), (89, e0 (.bipush 24)), (91, e0 .irem), (92, e0 (.bipush 6)), (94, .if_icmp .lt 15, 109, 0, 0, 0, []), (97, e0 (.aload_n 3)), (98, .getfield 43, 4, 7, 0, 0, [10122]), (101, e0 (.bipush 24))]),
  (119, [(103, e0 .irem), (104, e0 (.bipush 20)), (106, .if_icmp .lt 7, 113, 0, 0, 0, []), (109, e0 (.iconst 1)), (110, .goto 4, 114, 0, 0, 0, []), (113, e0 (.iconst 0)), (114, e0 .ireturn), (115, e0 (.aload_n 3)), (116, .getfield 55, 4, 8, 0, 0, [10126])]),
  (134, [(119, .invokestatic 58, 193, 1, 0, 0, [40004, 10011, 30084, 30083]), (122, e0 (.iload_n 1)), (123, .if_icmp .lt 7, 130, 0, 0, 0, []), (126, e0 (.iconst 1)), (127, .goto 4, 131, 0, 0, 0, []), (130, e0 (.iconst 0)), (131, e0 .ireturn), (132, e0 (.aload_n 2)), (133, e0 (.aload_n 3))]),
  (151, [(134, .getfield 55, 4, 8, 0, 0, [10126]), (137, .invokevirtual 64, 12, 1, 12, 0, [40005, 10003, 20190, 20188, 20189]), (140, e0 (.iload_n 1)), (141, .if_icmp .lt 7, 148, 0, 0, 0, []), (144, e0 (.iconst 1)), (145, .goto 4, 149, 0, 0, 0, []), (148, e0 (.iconst 0)), (149, e0 .ireturn), (150, e0 (.aload_n 3))]),
  (168, [(151, .getfield 43, 4, 7, 0, 0, [10122]), (154, e0 (.aload_n 3)), (155, .getfield 67, 4, 2, 0, 0, [10110]), (158, e0 .isub), (159, e0 (.iload_n 1)), (160, .if_icmp .lt 7, 167, 0, 0, 0, []), (163, e0 (.iconst 1)), (164, .goto 4, 168, 0, 0, 0, []), (167, e0 (.iconst 0))]),
  (100000, [(168, e0 .ireturn)])]
def in_51 : MI := (⟨"HarbourTugs$Prices", "isSo", "(IILHarbourTugs$Harbour;LHarbourTugs$Ship;)Z"⟩, prog_5_method_4_code, 4, some .boolean, 2, 0, 0, 44, es_51)
-- 52: HarbourTugs$Ship <init> ()V
def es_52 : List (Nat × List (Nat × Ent)) := [(7, [(0, e0 (.aload_n 0)), (1, .invokespecial 3, 0, 0, 6, 0, [10103, 10019, 10020]), (4, e0 (.aload_n 0)), (5, e0 (.bipush (-4)))]),
  (100000, [(7, .putfield 9, 4, 7, 0, 0, [10121]), (10, e0 .return_)])]
def in_52 : MI := (⟨"HarbourTugs$Ship", "<init>", "()V"⟩, prog_6_method_1_code, 1, none, 1, 0, 0, 20, es_52)
-- 53: HarbourTugs$Ship come (IIIIIII)V
def es_53 : List (Nat × List (Nat × Ent)) := [(7, [(0, e0 (.aload_n 0)), (1, e0 (.iload_n 1)), (2, .putfield 15, 4, 0, 0, 0, [10104]), (5, e0 (.aload_n 0)), (6, e0 (.iload_n 2))]),
  (16, [(7, .putfield 18, 4, 1, 0, 0, [10107]), (10, e0 (.aload_n 0)), (11, e0 (.iload_n 3)), (12, .putfield 21, 4, 2, 0, 0, [10109]), (15, e0 (.aload_n 0))]),
  (27, [(16, e0 (.iload 4)), (18, .putfield 24, 4, 3, 0, 0, [10112]), (21, e0 (.aload_n 0)), (22, e0 (.iload 5)), (24, .putfield 27, 4, 4, 0, 0, [10114])]),
  (36, [(27, e0 (.aload_n 0)), (28, e0 (.iload 6)), (30, .putfield 30, 4, 5, 0, 0, [10115]), (33, e0 (.aload_n 0)), (34, e0 (.iload 7))]),
  (100000, [(36, .putfield 33, 4, 6, 0, 0, [10118]), (39, e0 (.aload_n 0)), (40, .invokevirtual 36, 57, 0, 42, 0, [20110, 10005, 20113, 20111, 20112]), (43, e0 .return_)])]
def in_53 : MI := (⟨"HarbourTugs$Ship", "come", "(IIIIIII)V"⟩, prog_6_method_2_code, 8, none, 1, 0, 0, 20, es_53)
-- 54: HarbourTugs$Ship copyFrom (LHarbourTugs$Ship;)V
def es_54 : List (Nat × List (Nat × Ent)) := [(9, [(0, e0 (.aload_n 0)), (1, e0 (.aload_n 1)), (2, .getfield 15, 4, 0, 0, 0, [10104]), (5, e0 (.aload_n 1)), (6, .getfield 18, 4, 1, 0, 0, [10107])]),
  (18, [(9, e0 (.aload_n 1)), (10, .getfield 21, 4, 2, 0, 0, [10109]), (13, e0 (.aload_n 1)), (14, .getfield 24, 4, 3, 0, 0, [10112]), (17, e0 (.aload_n 1))]),
  (29, [(18, .getfield 27, 4, 4, 0, 0, [10114]), (21, e0 (.aload_n 1)), (22, .getfield 30, 4, 5, 0, 0, [10115]), (25, e0 (.aload_n 1)), (26, .getfield 33, 4, 6, 0, 0, [10118])]),
  (40, [(29, .invokevirtual 39, 53, 7, 42, 0, [30120, 10005, 20109, 20107, 20108]), (32, e0 (.aload_n 0)), (33, e0 (.aload_n 1)), (34, .getfield 9, 4, 7, 0, 0, [10121]), (37, .putfield 9, 4, 7, 0, 0, [10121])]),
  (100000, [(40, e0 (.aload_n 0)), (41, e0 (.aload_n 1)), (42, .getfield 43, 4, 8, 0, 0, [10125]), (45, .putfield 43, 4, 8, 0, 0, [10125]), (48, e0 .return_)])]
def in_54 : MI := (⟨"HarbourTugs$Ship", "copyFrom", "(LHarbourTugs$Ship;)V"⟩, prog_6_method_3_code, 2, none, 2, 0, 0, 47, es_54)
-- 55: HarbourTugs$Ship hasJob ()Z
def es_55 : List (Nat × List (Nat × Ent)) := [(9, [(0, e0 (.aload_n 0)), (1, .getfield 9, 4, 7, 0, 0, [10121]), (4, e0 (.bipush (-4))), (6, .if_icmp .eq 7, 13, 0, 0, 0, [])]),
  (100000, [(9, e0 (.iconst 1)), (10, .goto 4, 14, 0, 0, 0, []), (13, e0 (.iconst 0)), (14, e0 .ireturn)])]
def in_55 : MI := (⟨"HarbourTugs$Ship", "hasJob", "()Z"⟩, prog_6_method_4_code, 1, some .boolean, 0, 0, 0, 0, es_55)
-- 56: HarbourTugs$Ship hasJobWith (I)Z
def es_56 : List (Nat × List (Nat × Ent)) := [(9, [(0, e0 (.aload_n 0)), (1, .getfield 9, 4, 7, 0, 0, [10121]), (4, e0 (.bipush (-4))), (6, .if_icmp .eq 18, 24, 0, 0, 0, [])]),
  (15, [(9, e0 (.aload_n 0)), (10, .getfield 43, 4, 8, 0, 0, [10125]), (13, e0 (.iload_n 1)), (14, e0 .iushr)]),
  (21, [(15, e0 (.iconst 1)), (16, e0 .iand), (17, .ifCond .eq 7, 24, 0, 0, 0, []), (20, e0 (.iconst 1))]),
  (100000, [(21, .goto 4, 25, 0, 0, 0, []), (24, e0 (.iconst 0)), (25, e0 .ireturn)])]
def in_56 : MI := (⟨"HarbourTugs$Ship", "hasJobWith", "(I)Z"⟩, prog_6_method_5_code, 2, some .boolean, 0, 0, 0, 0, es_56)
-- 57: HarbourTugs$Ship dropJob ()V
def es_57 : List (Nat × List (Nat × Ent)) := [(7, [(0, e0 (.aload_n 0)), (1, e0 (.bipush (-4))), (3, .putfield 9, 4, 7, 0, 0, [10121]), (6, e0 (.aload_n 0))]),
  (100000, [(7, e0 (.iconst 0)), (8, .putfield 43, 4, 8, 0, 0, [10125]), (11, e0 .return_)])]
def in_57 : MI := (⟨"HarbourTugs$Ship", "dropJob", "()V"⟩, prog_6_method_6_code, 1, none, 0, 0, 0, 0, es_57)
-- 58: HarbourTugs$Ship lastHour ()I
def es_58 : List (Nat × List (Nat × Ent)) := [(8, [(0, e0 (.aload_n 0)), (1, .getfield 9, 4, 7, 0, 0, [10121]), (4, e0 (.aload_n 0)), (5, .getfield 24, 4, 3, 0, 0, [10112])]),
  (100000, [(8, e0 .iadd), (9, e0 (.iconst 1)), (10, e0 .isub), (11, e0 .ireturn)])]
def in_58 : MI := (⟨"HarbourTugs$Ship", "lastHour", "()I"⟩, prog_6_method_7_code, 1, some .int, 0, 0, 0, 0, es_58)
-- 59: HarbourTugs$Ship isInTime (I)Z
def es_59 : List (Nat × List (Nat × Ent)) := [(8, [(0, e0 (.iload_n 1)), (1, e0 (.aload_n 0)), (2, .getfield 21, 4, 2, 0, 0, [10109]), (5, .if_icmp .lt 18, 23, 0, 0, 0, [])]),
  (14, [(8, e0 (.iload_n 1)), (9, e0 (.aload_n 0)), (10, .getfield 24, 4, 3, 0, 0, [10112]), (13, e0 .iadd)]),
  (23, [(14, e0 (.bipush 48)), (16, .if_icmp .gt 7, 23, 0, 0, 0, []), (19, e0 (.iconst 1)), (20, .goto 4, 24, 0, 0, 0, [])]),
  (100000, [(23, e0 (.iconst 0)), (24, e0 .ireturn)])]
def in_59 : MI := (⟨"HarbourTugs$Ship", "isInTime", "(I)Z"⟩, prog_6_method_8_code, 2, some .boolean, 0, 0, 0, 0, es_59)
-- 60: HarbourTugs$Ship hoursFrom (I)J
def es_60 : List (Nat × List (Nat × Ent)) := [(8, [(0, e0 (.aload_n 0)), (1, .getfield 24, 4, 3, 0, 0, [10112]), (4, .invokestatic 46, 112, 1, 1, 0, [20184, 10001, 20186, 20185]), (7, e0 (.iload_n 1))]),
  (100000, [(8, e0 .lshl), (9, e0 .lreturn)])]
def in_60 : MI := (⟨"HarbourTugs$Ship", "hoursFrom", "(I)J"⟩, prog_6_method_9_code, 2, some .long, 1, 0, 0, 20, es_60)
-- 61: HarbourTugs$Ship jobHours ()J
def es_61 : List (Nat × List (Nat × Ent)) := [(8, [(0, e0 (.aload_n 0)), (1, .invokevirtual 50, 55, 0, 42, 0, [20222, 10005, 20084, 20082, 20083]), (4, .ifCond .eq 14, 18, 0, 0, 0, []), (7, e0 (.aload_n 0))]),
  (18, [(8, e0 (.aload_n 0)), (9, .getfield 9, 4, 7, 0, 0, [10121]), (12, .invokevirtual 54, 60, 1, 42, 0, [20223, 10005, 20183, 20181, 20182]), (15, .goto 4, 19, 0, 0, 0, [])]),
  (100000, [(18, e0 (.lconst 0)), (19, e0 .lreturn)])]
def in_61 : MI := (⟨"HarbourTugs$Ship", "jobHours", "()J"⟩, prog_6_method_10_code, 1, some .long, 2, 0, 0, 41, es_61)
-- 62: HarbourTugs$Ship waited ()I
def es_62 : List (Nat × List (Nat × Ent)) := [(8, [(0, e0 (.aload_n 0)), (1, .getfield 27, 4, 4, 0, 0, [10114]), (4, e0 (.aload_n 0)), (5, .invokevirtual 50, 55, 0, 42, 0, [20222, 10005, 20084, 20082, 20083])]),
  (18, [(8, .ifCond .eq 10, 18, 0, 0, 0, []), (11, e0 (.aload_n 0)), (12, .getfield 9, 4, 7, 0, 0, [10121]), (15, .goto 5, 20, 0, 0, 0, [])]),
  (25, [(18, e0 (.bipush 60)), (20, e0 (.aload_n 0)), (21, .getfield 21, 4, 2, 0, 0, [10109]), (24, e0 .isub)]),
  (100000, [(25, e0 .imul), (26, e0 .ireturn)])]
def in_62 : MI := (⟨"HarbourTugs$Ship", "waited", "()I"⟩, prog_6_method_11_code, 1, some .int, 1, 0, 0, 20, es_62)
-- 63: HarbourTugs$Tug <init> ()V
def es_63 : List (Nat × List (Nat × Ent)) := [(7, [(0, e0 (.aload_n 0)), (1, .invokespecial 3, 0, 0, 6, 0, [10051, 10019, 10020]), (4, e0 (.aload_n 0)), (5, e0 (.bipush 48))]),
  (100000, [(7, .putfield 9, 5, 7, 0, 0, [10069]), (10, e0 .return_)])]
def in_63 : MI := (⟨"HarbourTugs$Tug", "<init>", "()V"⟩, prog_7_method_1_code, 1, none, 1, 0, 0, 20, es_63)
-- 64: HarbourTugs$Tug come (IIIIIII)V
def es_64 : List (Nat × List (Nat × Ent)) := [(10, [(0, e0 (.aload_n 0)), (1, e0 (.iload_n 1)), (2, .putfield 15, 5, 0, 0, 0, [10052]), (5, e0 (.aload_n 0)), (6, e0 (.iload_n 2)), (7, .putfield 18, 5, 1, 0, 0, [10055])]),
  (21, [(10, e0 (.aload_n 0)), (11, e0 (.iload_n 3)), (12, .putfield 21, 5, 2, 0, 0, [10058]), (15, e0 (.aload_n 0)), (16, e0 (.iload 4)), (18, .putfield 24, 5, 3, 0, 0, [10061])]),
  (33, [(21, e0 (.aload_n 0)), (22, e0 (.iload 5)), (24, .putfield 27, 5, 4, 0, 0, [10062]), (27, e0 (.aload_n 0)), (28, e0 (.iload 6)), (30, .putfield 30, 5, 5, 0, 0, [10064])]),
  (45, [(33, e0 (.aload_n 0)), (34, e0 (.iload 7)), (36, .putfield 33, 5, 6, 0, 0, [10066]), (39, e0 (.aload_n 0)), (40, e0 (.bipush 48)), (42, .putfield 9, 5, 7, 0, 0, [10069])]),
  (55, [(45, e0 (.aload_n 0)), (46, e0 (.lconst 0)), (47, .putfield 36, 5, 8, 1, 0, [10072]), (50, e0 (.aload_n 0)), (51, e0 (.lconst 0)), (52, .putfield 40, 5, 9, 1, 0, [10075])]),
  (100000, [(55, e0 .return_)])]
def in_64 : MI := (⟨"HarbourTugs$Tug", "come", "(IIIIIII)V"⟩, prog_7_method_2_code, 8, none, 0, 0, 0, 0, es_64)
-- 65: HarbourTugs$Tug copyFrom (LHarbourTugs$Tug;)V
def es_65 : List (Nat × List (Nat × Ent)) := [(10, [(0, e0 (.aload_n 0)), (1, e0 (.aload_n 1)), (2, .getfield 15, 5, 0, 0, 0, [10052]), (5, e0 (.aload_n 1)), (6, .getfield 18, 5, 1, 0, 0, [10055]), (9, e0 (.aload_n 1))]),
  (22, [(10, .getfield 21, 5, 2, 0, 0, [10058]), (13, e0 (.aload_n 1)), (14, .getfield 24, 5, 3, 0, 0, [10061]), (17, e0 (.aload_n 1)), (18, .getfield 27, 5, 4, 0, 0, [10062]), (21, e0 (.aload_n 1))]),
  (34, [(22, .getfield 30, 5, 5, 0, 0, [10064]), (25, e0 (.aload_n 1)), (26, .getfield 33, 5, 6, 0, 0, [10066]), (29, .invokevirtual 43, 64, 7, 52, 0, [30115, 10004, 20101, 20099, 20100]), (32, e0 (.aload_n 0)), (33, e0 (.aload_n 1))]),
  (48, [(34, .getfield 9, 5, 7, 0, 0, [10069]), (37, .putfield 9, 5, 7, 0, 0, [10069]), (40, e0 (.aload_n 0)), (41, e0 (.aload_n 1)), (42, .getfield 36, 5, 8, 1, 0, [10072]), (45, .putfield 36, 5, 8, 1, 0, [10072])]),
  (100000, [(48, e0 (.aload_n 0)), (49, e0 (.aload_n 1)), (50, .getfield 40, 5, 9, 1, 0, [10075]), (53, .putfield 40, 5, 9, 1, 0, [10075]), (56, e0 .return_)])]
def in_65 : MI := (⟨"HarbourTugs$Tug", "copyFrom", "(LHarbourTugs$Tug;)V"⟩, prog_7_method_3_code, 2, none, 1, 0, 0, 27, es_65)
-- 66: HarbourTugs$Tug isBroken (I)Z
def es_66 : List (Nat × List (Nat × Ent)) := [(8, [(0, e0 (.aload_n 0)), (1, .getfield 9, 5, 7, 0, 0, [10069]), (4, e0 (.iload_n 1)), (5, .if_icmp .gt 7, 12, 0, 0, 0, [])]),
  (100000, [(8, e0 (.iconst 1)), (9, .goto 4, 13, 0, 0, 0, []), (12, e0 (.iconst 0)), (13, e0 .ireturn)])]
def in_66 : MI := (⟨"HarbourTugs$Tug", "isBroken", "(I)Z"⟩, prog_7_method_4_code, 2, some .boolean, 0, 0, 0, 0, es_66)
-- 67: HarbourTugs$Tug makeWhole ()Z
def es_67 : List (Nat × List (Nat × Ent)) := [(9, [(0, e0 (.aload_n 0)), (1, .getfield 9, 5, 7, 0, 0, [10069]), (4, e0 (.bipush 48)), (6, .if_icmp .eq 7, 13, 0, 0, 0, [])]),
  (15, [(9, e0 (.iconst 1)), (10, .goto 4, 14, 0, 0, 0, []), (13, e0 (.iconst 0)), (14, e0 (.istore_n 1))]),
  (22, [(15, e0 (.aload_n 0)), (16, e0 (.bipush 48)), (18, .putfield 9, 5, 7, 0, 0, [10069]), (21, e0 (.iload_n 1))]),
  (100000, [(22, e0 .ireturn)])]
def in_67 : MI := (⟨"HarbourTugs$Tug", "makeWhole", "()Z"⟩, prog_7_method_5_code, 2, some .boolean, 0, 0, 0, 0, es_67)
-- 68: HarbourTugs$Tug isFree (J)Z
def es_68 : List (Nat × List (Nat × Ent)) := [(8, [(0, e0 (.aload_n 0)), (1, .getfield 36, 5, 8, 1, 0, [10072]), (4, e0 (.aload_n 0)), (5, .getfield 40, 5, 9, 1, 0, [10075])]),
  (12, [(8, e0 .lor), (9, e0 (.lload_n 1)), (10, e0 .land), (11, e0 (.lconst 0))]),
  (20, [(12, e0 .lcmp), (13, .ifCond .ne 7, 20, 0, 0, 0, []), (16, e0 (.iconst 1)), (17, .goto 4, 21, 0, 0, 0, [])]),
  (100000, [(20, e0 (.iconst 0)), (21, e0 .ireturn)])]
def in_68 : MI := (⟨"HarbourTugs$Tug", "isFree", "(J)Z"⟩, prog_7_method_6_code, 3, some .boolean, 0, 0, 0, 0, es_68)
-- 69: HarbourTugs$Tug fuelBehind (I)I
def es_69 : List (Nat × List (Nat × Ent)) := [(7, [(0, e0 (.aload_n 0)), (1, .getfield 24, 5, 3, 0, 0, [10061]), (4, e0 (.istore_n 2)), (5, e0 (.iconst 0)), (6, e0 (.istore_n 3))]),
  (15, [(7, e0 (.iload_n 3)), (8, e0 (.iload_n 1)), (9, .if_icmp .gt 26, 35, 0, 0, 0, []), (12, e0 (.iload_n 3)), (13, e0 (.bipush 48))]),
  (22, [(15, .if_icmp .ge 20, 35, 0, 0, 0, []), (18, e0 (.aload_n 0)), (19, e0 (.iload_n 2)), (20, e0 (.iload_n 3)), (21, e0 (.aload_n 0))]),
  (35, [(22, .getfield 36, 5, 8, 1, 0, [10072]), (25, .invokevirtual 47, 71, 3, 52, 0, [20147, 10004, 20150, 20149, 2]), (28, e0 (.istore_n 2)), (29, e0 (.iinc 3 1)), (32, .goto (-25), 7, 0, 0, 0, [])]),
  (100000, [(35, e0 (.iload_n 2)), (36, e0 .ireturn)])]
def in_69 : MI := (⟨"HarbourTugs$Tug", "fuelBehind", "(I)I"⟩, prog_7_method_7_code, 4, some .int, 1, 0, 0, 25, es_69)
-- 70: HarbourTugs$Tug fuelLasts (J)Z
def es_70 : List (Nat × List (Nat × Ent)) := [(12, [(0, e0 (.lload_n 1)), (1, .invokestatic 51, 192, 1, 0, 0, [30006, 10010, 30008, 30007]), (4, e0 (.aload_n 0)), (5, .getfield 24, 5, 3, 0, 0, [10061]), (8, .if_icmp .gt 5, 13, 0, 0, 0, []), (11, e0 (.iconst 1))]),
  (21, [(12, e0 .ireturn), (13, e0 (.aload_n 0)), (14, .getfield 24, 5, 3, 0, 0, [10061]), (17, e0 (.istore_n 3)), (18, e0 (.iconst 0)), (19, e0 (.istore 4))]),
  (32, [(21, e0 (.iload 4)), (23, e0 (.bipush 48)), (25, .if_icmp .ge 24, 49, 0, 0, 0, []), (28, e0 (.aload_n 0)), (29, e0 (.iload_n 3)), (30, e0 (.iload 4))]),
  (42, [(32, e0 (.lload_n 1)), (33, .invokevirtual 47, 71, 3, 52, 0, [20147, 10004, 20150, 20149, 2]), (36, e0 (.istore_n 3)), (37, e0 (.iload_n 3)), (38, .ifCond .ge 5, 43, 0, 0, 0, []), (41, e0 (.iconst 0))]),
  (100000, [(42, e0 .ireturn), (43, e0 (.iinc 4 1)), (46, .goto (-25), 21, 0, 0, 0, []), (49, e0 (.iconst 1)), (50, e0 .ireturn)])]
def in_70 : MI := (⟨"HarbourTugs$Tug", "fuelLasts", "(J)Z"⟩, prog_7_method_8_code, 5, some .boolean, 1, 0, 0, 25, es_70)
-- 71: HarbourTugs$Tug fuelAfter (IIJ)I
def es_71 : List (Nat × List (Nat × Ent)) := [(6, [(0, e0 (.iload_n 1)), (1, e0 (.lload_n 3)), (2, e0 (.iload_n 2)), (3, e0 .lushr), (4, e0 (.lconst 1)), (5, e0 .land)]),
  (15, [(6, e0 .l2i), (7, e0 .isub), (8, e0 (.istore 5)), (10, e0 (.aload_n 0)), (11, .getfield 40, 5, 9, 1, 0, [10075]), (14, e0 (.iload_n 2))]),
  (23, [(15, e0 .lushr), (16, e0 (.lconst 1)), (17, e0 .land), (18, e0 (.lconst 0)), (19, e0 .lcmp), (20, .ifCond .ne 6, 26, 0, 0, 0, [])]),
  (32, [(23, e0 (.iload 5)), (25, e0 .ireturn), (26, e0 (.iload 5)), (28, e0 (.bipush 12)), (30, e0 .iadd), (31, e0 (.aload_n 0))]),
  (47, [(32, .getfield 27, 5, 4, 0, 0, [10062]), (35, .if_icmp .le 10, 45, 0, 0, 0, []), (38, e0 (.aload_n 0)), (39, .getfield 27, 5, 4, 0, 0, [10062]), (42, .goto 8, 50, 0, 0, 0, []), (45, e0 (.iload 5))]),
  (100000, [(47, e0 (.bipush 12)), (49, e0 .iadd), (50, e0 .ireturn)])]
def in_71 : MI := (⟨"HarbourTugs$Tug", "fuelAfter", "(IIJ)I"⟩, prog_7_method_9_code, 6, some .int, 0, 0, 0, 0, es_71)
-- 72: HarbourTugs$Tug crewRests (JI)Z
def es_72 : List (Nat × List (Nat × Ent)) := [(12, [(0, e0 (.lload_n 1)), (1, .invokestatic 51, 192, 1, 0, 0, [30006, 10010, 30008, 30007]), (4, e0 (.aload_n 0)), (5, .getfield 30, 5, 5, 0, 0, [10064]), (8, .if_icmp .gt 5, 13, 0, 0, 0, []), (11, e0 (.iconst 1))]),
  (21, [(12, e0 .ireturn), (13, e0 (.aload_n 0)), (14, .getfield 30, 5, 5, 0, 0, [10064]), (17, e0 (.iload_n 3)), (18, e0 .iadd), (19, e0 (.istore 4))]),
  (31, [(21, e0 (.iconst 0)), (22, e0 (.istore 5)), (24, e0 (.iload 5)), (26, e0 (.iload 4)), (28, e0 .iadd), (29, e0 (.bipush 48))]),
  (43, [(31, .if_icmp .gt 31, 62, 0, 0, 0, []), (34, e0 (.lload_n 1)), (35, e0 (.iload 5)), (37, e0 .lushr), (38, e0 (.iload 4)), (40, .invokestatic 57, 112, 1, 1, 0, [30016, 10001, 20186, 20185])]),
  (55, [(43, e0 .land), (44, .invokestatic 51, 192, 1, 0, 0, [30006, 10010, 30008, 30007]), (47, e0 (.aload_n 0)), (48, .getfield 30, 5, 5, 0, 0, [10064]), (51, .if_icmp .le 5, 56, 0, 0, 0, []), (54, e0 (.iconst 0))]),
  (100000, [(55, e0 .ireturn), (56, e0 (.iinc 5 1)), (59, .goto (-35), 24, 0, 0, 0, []), (62, e0 (.iconst 1)), (63, e0 .ireturn)])]
def in_72 : MI := (⟨"HarbourTugs$Tug", "crewRests", "(JI)Z"⟩, prog_7_method_10_code, 6, some .boolean, 1, 0, 0, 21, es_72)
-- 73: HarbourTugs <init> ()V
def es_73 : List (Nat × List (Nat × Ent)) := [(16, [(0, e0 (.aload_n 0)), (1, .invokespecial 1, 0, 0, 6, 0, [10018, 10019, 10020]), (4, e0 (.aload_n 0)), (5, .new 7, 0, 0, 2, 0, [10021, 10022, 10002]), (8, e0 .dup), (9, .invokespecial 9, 0, 0, 4, 0, [10023, 10002, 10025, 10024]), (12, .putfield 10, 6, 0, 2, 0, [20033]), (15, e0 (.aload_n 0))]),
  (34, [(16, .new 16, 1, 0, 16, 0, [10037, 10038, 10003]), (19, e0 .dup), (20, e0 (.aload_n 0)), (21, .getfield 10, 6, 0, 2, 0, [20033]), (24, .invokespecial 18, 4, 1, 4, 0, [10039, 10003, 10041, 10040]), (27, .putfield 21, 6, 1, 3, 0, [20034]), (30, e0 (.aload_n 0)), (31, .new 25, 2, 0, 7, 0, [10214, 10215, 10006])]),
  (50, [(34, e0 .dup), (35, e0 (.aload_n 0)), (36, .getfield 10, 6, 0, 2, 0, [20033]), (39, .invokespecial 27, 40, 1, 4, 0, [10216, 10006, 10218, 10217]), (42, .putfield 28, 6, 2, 4, 0, [20035]), (45, e0 (.aload_n 0)), (46, .new 32, 3, 0, 5, 0, [20009, 20010, 10007]), (49, e0 .dup)]),
  (66, [(50, .invokespecial 34, 48, 0, 5, 0, [20011, 10007, 20013, 20012]), (53, .putfield 35, 6, 3, 5, 0, [20036]), (56, e0 (.aload_n 0)), (57, e0 (.iconst 3)), (58, .anewarray 16, 3000, 0, 0, 0, [10037, 20032]), (61, .putfield 39, 6, 4, 3005, 0, [20037]), (64, e0 (.aload_n 0)), (65, e0 (.iconst 0))]),
  (80, [(66, .putfield 43, 6, 5, 0, 0, [20038]), (69, e0 (.iconst 0)), (70, e0 (.istore_n 1)), (71, e0 (.iload_n 1)), (72, e0 (.aload_n 0)), (73, .getfield 39, 6, 4, 3005, 0, [20037]), (76, e0 .arraylength), (77, .if_icmp .ge 26, 103, 0, 0, 0, [])]),
  (96, [(80, e0 (.aload_n 0)), (81, .getfield 39, 6, 4, 3005, 0, [20037]), (84, e0 (.iload_n 1)), (85, .new 16, 1, 0, 16, 0, [10037, 10038, 10003]), (88, e0 .dup), (89, e0 (.aload_n 0)), (90, .getfield 10, 6, 0, 2, 0, [20033]), (93, .invokespecial 18, 4, 1, 4, 0, [10039, 10003, 10041, 10040])]),
  (100000, [(96, e0 .aastore), (97, e0 (.iinc 1 1)), (100, .goto (-29), 71, 0, 0, 0, []), (103, e0 .return_)])]
def in_73 : MI := (⟨"HarbourTugs", "<init>", "()V"⟩, prog_1_method_1_code, 2, none, 4, 108, 1199, 84, es_73)
-- 74: HarbourTugs tide (II)I
def es_74 : List (Nat × List (Nat × Ent)) := [(11, [(0, e0 (.iload_n 1)), (1, e0 (.iconst 0)), (2, e0 (.bipush 11)), (4, .invokestatic 47, 105, 3, 0, 0, [20056, 10001, 20058, 20057]), (7, .ifCond .eq 13, 20, 0, 0, 0, []), (10, e0 (.iload_n 2))]),
  (22, [(11, e0 (.iconst 0)), (12, e0 (.bipush 9)), (14, .invokestatic 47, 105, 3, 0, 0, [20056, 10001, 20058, 20057]), (17, .ifCond .ne 5, 22, 0, 0, 0, []), (20, e0 (.iconst (-1))), (21, e0 .ireturn)]),
  (32, [(22, e0 (.aload_n 0)), (23, .getfield 21, 6, 1, 3, 0, [20034]), (26, .getfield 51, 1, 1, 1014, 0, [10150]), (29, e0 (.iload_n 1)), (30, e0 .iaload), (31, e0 (.istore_n 3))]),
  (42, [(32, e0 (.aload_n 0)), (33, .getfield 21, 6, 1, 3, 0, [20034]), (36, .getfield 51, 1, 1, 1014, 0, [10150]), (39, e0 (.iload_n 1)), (40, e0 (.iload_n 2)), (41, e0 .iastore)]),
  (100000, [(42, e0 (.iload_n 3)), (43, e0 .ireturn)])]
def in_74 : MI := (⟨"HarbourTugs", "tide", "(II)I"⟩, prog_1_method_2_code, 4, some .int, 1, 0, 0, 22, es_74)
-- 75: HarbourTugs wind (II)I
def es_75 : List (Nat × List (Nat × Ent)) := [(9, [(0, e0 (.iload_n 1)), (1, .invokestatic 55, 106, 1, 0, 0, [20063, 10001, 20065, 20064]), (4, .ifCond .eq 13, 17, 0, 0, 0, []), (7, e0 (.iload_n 2)), (8, e0 (.iconst 0))]),
  (19, [(9, e0 (.bipush 9)), (11, .invokestatic 47, 105, 3, 0, 0, [20056, 10001, 20058, 20057]), (14, .ifCond .ne 5, 19, 0, 0, 0, []), (17, e0 (.iconst (-1))), (18, e0 .ireturn)]),
  (28, [(19, e0 (.aload_n 0)), (20, .getfield 21, 6, 1, 3, 0, [20034]), (23, .getfield 59, 1, 2, 1050, 0, [10152]), (26, e0 (.iload_n 1)), (27, e0 .iaload)]),
  (37, [(28, e0 (.istore_n 3)), (29, e0 (.aload_n 0)), (30, .getfield 21, 6, 1, 3, 0, [20034]), (33, .getfield 59, 1, 2, 1050, 0, [10152]), (36, e0 (.iload_n 1))]),
  (100000, [(37, e0 (.iload_n 2)), (38, e0 .iastore), (39, e0 (.iload_n 3)), (40, e0 .ireturn)])]
def in_75 : MI := (⟨"HarbourTugs", "wind", "(II)I"⟩, prog_1_method_3_code, 4, some .int, 2, 0, 0, 42, es_75)
-- 76: HarbourTugs rule (II)I
def es_76 : List (Nat × List (Nat × Ent)) := [(13, [(0, e0 (.iconst (-1))), (1, e0 (.istore_n 3)), (2, e0 (.iload_n 1)), (3, .ifCond .ne 32, 35, 0, 0, 0, []), (6, e0 (.iload_n 2)), (7, e0 (.iconst 0)), (8, e0 (.bipush 6)), (10, .invokestatic 47, 105, 3, 0, 0, [20056, 10001, 20058, 20057])]),
  (29, [(13, .ifCond .eq 22, 35, 0, 0, 0, []), (16, e0 (.aload_n 0)), (17, .getfield 21, 6, 1, 3, 0, [20034]), (20, .getfield 62, 1, 5, 0, 0, [10160]), (23, e0 (.istore_n 3)), (24, e0 (.aload_n 0)), (25, .getfield 21, 6, 1, 3, 0, [20034]), (28, e0 (.iload_n 2))]),
  (43, [(29, .putfield 62, 1, 5, 0, 0, [10160]), (32, .goto 67, 99, 0, 0, 0, []), (35, e0 (.iload_n 1)), (36, e0 (.iconst 1)), (37, .if_icmp .ne 31, 68, 0, 0, 0, []), (40, e0 (.iload_n 2)), (41, e0 (.iconst 0)), (42, e0 (.iconst 1))]),
  (61, [(43, .invokestatic 47, 105, 3, 0, 0, [20056, 10001, 20058, 20057]), (46, .ifCond .eq 22, 68, 0, 0, 0, []), (49, e0 (.aload_n 0)), (50, .getfield 21, 6, 1, 3, 0, [20034]), (53, .getfield 65, 1, 6, 0, 0, [10162]), (56, e0 (.istore_n 3)), (57, e0 (.aload_n 0)), (58, .getfield 21, 6, 1, 3, 0, [20034])]),
  (75, [(61, e0 (.iload_n 2)), (62, .putfield 65, 1, 6, 0, 0, [10162]), (65, .goto 34, 99, 0, 0, 0, []), (68, e0 (.iload_n 1)), (69, e0 (.iconst 2)), (70, .if_icmp .ne 29, 99, 0, 0, 0, []), (73, e0 (.iload_n 2)), (74, e0 (.iconst 1))]),
  (92, [(75, e0 (.bipush 30)), (77, .invokestatic 47, 105, 3, 0, 0, [20056, 10001, 20058, 20057]), (80, .ifCond .eq 19, 99, 0, 0, 0, []), (83, e0 (.aload_n 0)), (84, .getfield 21, 6, 1, 3, 0, [20034]), (87, .getfield 68, 1, 7, 0, 0, [10164]), (90, e0 (.istore_n 3)), (91, e0 (.aload_n 0))]),
  (100000, [(92, .getfield 21, 6, 1, 3, 0, [20034]), (95, e0 (.iload_n 2)), (96, .putfield 68, 1, 7, 0, 0, [10164]), (99, e0 (.iload_n 3)), (100, e0 .ireturn)])]
def in_76 : MI := (⟨"HarbourTugs", "rule", "(II)I"⟩, prog_1_method_4_code, 4, some .int, 1, 0, 0, 22, es_76)
-- 77: HarbourTugs berth (III)I
def es_77 : List (Nat × List (Nat × Ent)) := [(13, [(0, e0 (.iload_n 1)), (1, .invokestatic 71, 107, 1, 0, 0, [20074, 10001, 20076, 20075]), (4, .ifCond .eq 30, 34, 0, 0, 0, []), (7, e0 (.iload_n 2)), (8, e0 (.iconst 0)), (9, e0 (.iconst 1)), (10, .invokestatic 47, 105, 3, 0, 0, [20056, 10001, 20058, 20057])]),
  (27, [(13, .ifCond .eq 21, 34, 0, 0, 0, []), (16, e0 (.iload_n 3)), (17, e0 (.iconst 0)), (18, e0 (.iload_n 2)), (19, .ifCond .ne 8, 27, 0, 0, 0, []), (22, e0 (.bipush 60)), (24, .goto 4, 28, 0, 0, 0, [])]),
  (40, [(27, e0 (.iconst 1)), (28, .invokestatic 47, 105, 3, 0, 0, [20056, 10001, 20058, 20057]), (31, .ifCond .ne 5, 36, 0, 0, 0, []), (34, e0 (.iconst (-1))), (35, e0 .ireturn), (36, e0 (.aload_n 0)), (37, .getfield 21, 6, 1, 3, 0, [20034])]),
  (54, [(40, e0 (.iload_n 1)), (41, .invokevirtual 74, 7, 1, 12, 0, [20077, 10003, 20080, 20078, 20079]), (44, .ifCond .eq 6, 50, 0, 0, 0, []), (47, e0 (.bipush (-2))), (49, e0 .ireturn), (50, e0 (.iload_n 2)), (51, .ifCond .ne 13, 64, 0, 0, 0, [])]),
  (71, [(54, e0 (.aload_n 0)), (55, .getfield 10, 6, 0, 2, 0, [20033]), (58, .getfield 77, 0, 0, 1008, 0, [10028]), (61, .goto 10, 71, 0, 0, 0, []), (64, e0 (.aload_n 0)), (65, .getfield 10, 6, 0, 2, 0, [20033]), (68, .getfield 80, 0, 1, 1008, 0, [10030])]),
  (82, [(71, e0 (.astore 4)), (73, e0 (.aload 4)), (75, e0 (.iload_n 1)), (76, e0 .iaload), (77, e0 (.istore 5)), (79, e0 (.aload 4)), (81, e0 (.iload_n 1))]),
  (100000, [(82, e0 (.iload_n 3)), (83, e0 .iastore), (84, e0 (.iload 5)), (86, e0 .ireturn)])]
def in_77 : MI := (⟨"HarbourTugs", "berth", "(III)I"⟩, prog_1_method_5_code, 6, some .int, 2, 0, 0, 45, es_77)
-- 78: HarbourTugs way (II)I
def es_78 : List (Nat × List (Nat × Ent)) := [(11, [(0, e0 (.iload_n 1)), (1, .invokestatic 71, 107, 1, 0, 0, [20074, 10001, 20076, 20075]), (4, .ifCond .eq 10, 14, 0, 0, 0, []), (7, e0 (.iload_n 2)), (8, .invokestatic 71, 107, 1, 0, 0, [20074, 10001, 20076, 20075])]),
  (20, [(11, .ifCond .ne 5, 16, 0, 0, 0, []), (14, e0 (.iconst (-1))), (15, e0 .ireturn), (16, e0 (.aload_n 0)), (17, .getfield 10, 6, 0, 2, 0, [20033])]),
  (29, [(20, e0 (.iload_n 1)), (21, e0 (.iload_n 2)), (22, e0 (.aload_n 0)), (23, .getfield 21, 6, 1, 3, 0, [20034]), (26, .getfield 68, 1, 7, 0, 0, [10164])]),
  (100000, [(29, .invokevirtual 83, 1, 3, 2, 0, [20089, 10002, 20092, 20090, 20091]), (32, e0 .ireturn)])]
def in_78 : MI := (⟨"HarbourTugs", "way", "(II)I"⟩, prog_1_method_6_code, 3, some .int, 2, 0, 0, 44, es_78)
-- 79: HarbourTugs tug (IIIIIII)I
def es_79 : List (Nat × List (Nat × Ent)) := [(16, [(0, e0 (.iload_n 1)), (1, e0 (.iconst 0)), (2, e0 (.iconst 1)), (3, .invokestatic 47, 105, 3, 0, 0, [20056, 10001, 20058, 20057]), (6, .ifCond .eq 63, 69, 0, 0, 0, []), (9, e0 (.iload_n 2)), (10, e0 (.iconst 1)), (11, e0 (.bipush 60)), (13, .invokestatic 47, 105, 3, 0, 0, [20056, 10001, 20058, 20057])]),
  (33, [(16, .ifCond .eq 53, 69, 0, 0, 0, []), (19, e0 (.iload_n 3)), (20, e0 (.iconst 0)), (21, e0 (.iconst 1)), (22, .invokestatic 47, 105, 3, 0, 0, [20056, 10001, 20058, 20057]), (25, .ifCond .eq 44, 69, 0, 0, 0, []), (28, e0 (.iload 5)), (30, e0 (.iconst 1)), (31, e0 (.bipush 48))]),
  (53, [(33, .invokestatic 47, 105, 3, 0, 0, [20056, 10001, 20058, 20057]), (36, .ifCond .eq 33, 69, 0, 0, 0, []), (39, e0 (.iload 4)), (41, e0 (.iconst 0)), (42, e0 (.iload 5)), (44, .invokestatic 47, 105, 3, 0, 0, [20056, 10001, 20058, 20057]), (47, .ifCond .eq 22, 69, 0, 0, 0, []), (50, e0 (.iload 6)), (52, e0 (.iconst 1))]),
  (72, [(53, e0 (.bipush 12)), (55, .invokestatic 47, 105, 3, 0, 0, [20056, 10001, 20058, 20057]), (58, .ifCond .eq 11, 69, 0, 0, 0, []), (61, e0 (.iload 7)), (63, .invokestatic 71, 107, 1, 0, 0, [20074, 10001, 20076, 20075]), (66, .ifCond .ne 5, 71, 0, 0, 0, []), (69, e0 (.iconst (-1))), (70, e0 .ireturn), (71, e0 (.aload_n 0))]),
  (92, [(72, .getfield 21, 6, 1, 3, 0, [20034]), (75, .getfield 87, 1, 9, 0, 0, [10168]), (78, e0 (.istore 8)), (80, e0 (.iload 8)), (82, e0 (.iconst 0)), (83, e0 (.iconst 5)), (84, .invokestatic 47, 105, 3, 0, 0, [20056, 10001, 20058, 20057]), (87, .ifCond .ne 6, 93, 0, 0, 0, []), (90, e0 (.bipush (-3)))]),
  (106, [(92, e0 .ireturn), (93, e0 (.aload_n 0)), (94, .getfield 21, 6, 1, 3, 0, [20034]), (97, .getfield 90, 1, 3, 5008, 0, [10155]), (100, e0 (.iload 8)), (102, e0 .aaload), (103, e0 (.iload_n 1)), (104, e0 (.iload_n 2)), (105, e0 (.iload_n 3))]),
  (124, [(106, e0 (.iload 4)), (108, e0 (.iload 5)), (110, e0 (.iload 6)), (112, e0 (.iload 7)), (114, .invokevirtual 94, 64, 7, 52, 0, [20098, 10004, 20101, 20099, 20100]), (117, e0 (.aload_n 0)), (118, .getfield 21, 6, 1, 3, 0, [20034]), (121, e0 (.iload 8)), (123, e0 (.iconst 1))]),
  (100000, [(124, e0 .iadd), (125, .putfield 87, 1, 9, 0, 0, [10168]), (128, e0 (.iload 8)), (130, e0 .ireturn)])]
def in_79 : MI := (⟨"HarbourTugs", "tug", "(IIIIIII)I"⟩, prog_1_method_7_code, 9, some .int, 1, 0, 0, 27, es_79)
-- 80: HarbourTugs ship (IIIIIII)I
def es_80 : List (Nat × List (Nat × Ent)) := [(14, [(0, e0 (.iload_n 1)), (1, e0 (.iconst 1)), (2, e0 (.bipush 50)), (4, .invokestatic 47, 105, 3, 0, 0, [20056, 10001, 20058, 20057]), (7, .ifCond .eq 57, 64, 0, 0, 0, []), (10, e0 (.iload_n 2)), (11, e0 (.iconst 0)), (12, e0 (.bipush 9))]),
  (31, [(14, .invokestatic 47, 105, 3, 0, 0, [20056, 10001, 20058, 20057]), (17, .ifCond .eq 47, 64, 0, 0, 0, []), (20, e0 (.iload_n 3)), (21, .invokestatic 55, 106, 1, 0, 0, [20063, 10001, 20065, 20064]), (24, .ifCond .eq 40, 64, 0, 0, 0, []), (27, e0 (.iload 4)), (29, e0 (.iconst 1)), (30, e0 (.iconst 4))]),
  (50, [(31, .invokestatic 47, 105, 3, 0, 0, [20056, 10001, 20058, 20057]), (34, .ifCond .eq 30, 64, 0, 0, 0, []), (37, e0 (.iload 5)), (39, e0 (.iconst 1)), (40, e0 (.bipush 20)), (42, .invokestatic 47, 105, 3, 0, 0, [20056, 10001, 20058, 20057]), (45, .ifCond .eq 19, 64, 0, 0, 0, []), (48, e0 (.iload 6))]),
  (67, [(50, .invokestatic 71, 107, 1, 0, 0, [20074, 10001, 20076, 20075]), (53, .ifCond .eq 11, 64, 0, 0, 0, []), (56, e0 (.iload 7)), (58, .invokestatic 71, 107, 1, 0, 0, [20074, 10001, 20076, 20075]), (61, .ifCond .ne 5, 66, 0, 0, 0, []), (64, e0 (.iconst (-1))), (65, e0 .ireturn), (66, e0 (.aload_n 0))]),
  (86, [(67, .getfield 21, 6, 1, 3, 0, [20034]), (70, .getfield 100, 1, 10, 0, 0, [10170]), (73, e0 (.istore 8)), (75, e0 (.iload 8)), (77, e0 (.iconst 0)), (78, e0 (.bipush 7)), (80, .invokestatic 47, 105, 3, 0, 0, [20056, 10001, 20058, 20057]), (83, .ifCond .ne 6, 89, 0, 0, 0, [])]),
  (100, [(86, e0 (.bipush (-3))), (88, e0 .ireturn), (89, e0 (.aload_n 0)), (90, .getfield 21, 6, 1, 3, 0, [20034]), (93, .getfield 103, 1, 4, 4010, 0, [10158]), (96, e0 (.iload 8)), (98, e0 .aaload), (99, e0 (.iload_n 1))]),
  (114, [(100, e0 (.iload_n 2)), (101, e0 (.iload_n 3)), (102, e0 (.iload 4)), (104, e0 (.iload 5)), (106, e0 (.iload 6)), (108, e0 (.iload 7)), (110, .invokevirtual 107, 53, 7, 42, 0, [20106, 10005, 20109, 20107, 20108]), (113, e0 (.aload_n 0))]),
  (100000, [(114, .getfield 21, 6, 1, 3, 0, [20034]), (117, e0 (.iload 8)), (119, e0 (.iconst 1)), (120, e0 .iadd), (121, .putfield 100, 1, 10, 0, 0, [10170]), (124, e0 (.iload 8)), (126, e0 .ireturn)])]
def in_80 : MI := (⟨"HarbourTugs", "ship", "(IIIIIII)I"⟩, prog_1_method_8_code, 9, some .int, 2, 0, 0, 47, es_80)
-- 81: HarbourTugs needs (II)I
def es_81 : List (Nat × List (Nat × Ent)) := [(9, [(0, e0 (.aload_n 0)), (1, e0 (.iload_n 1)), (2, .invokevirtual 110, 109, 1, 62, 0, [20118, 10001, 20121, 20120, 0]), (5, .ifCond .eq 10, 15, 0, 0, 0, []), (8, e0 (.iload_n 2))]),
  (18, [(9, .invokestatic 55, 106, 1, 0, 0, [20063, 10001, 20065, 20064]), (12, .ifCond .ne 5, 17, 0, 0, 0, []), (15, e0 (.iconst (-1))), (16, e0 .ireturn), (17, e0 (.aload_n 0))]),
  (29, [(18, .getfield 21, 6, 1, 3, 0, [20034]), (21, e0 (.aload_n 0)), (22, .getfield 21, 6, 1, 3, 0, [20034]), (25, .getfield 103, 1, 4, 4010, 0, [10158]), (28, e0 (.iload_n 1))]),
  (100000, [(29, e0 .aaload), (30, e0 (.iload_n 2)), (31, .invokevirtual 113, 10, 2, 12, 0, [20122, 10003, 20125, 20123, 20124]), (34, e0 .ireturn)])]
def in_81 : MI := (⟨"HarbourTugs", "needs", "(II)I"⟩, prog_1_method_9_code, 3, some .int, 2, 0, 0, 44, es_81)
-- 82: HarbourTugs bunker (II)I
def es_82 : List (Nat × List (Nat × Ent)) := [(15, [(0, e0 (.aload_n 0)), (1, e0 (.iload_n 1)), (2, .invokevirtual 117, 108, 1, 62, 0, [20131, 10001, 20134, 20133, 1]), (5, .ifCond .eq 10, 15, 0, 0, 0, []), (8, e0 (.iload_n 2)), (9, .invokestatic 55, 106, 1, 0, 0, [20063, 10001, 20065, 20064]), (12, .ifCond .ne 5, 17, 0, 0, 0, [])]),
  (26, [(15, e0 (.iconst (-1))), (16, e0 .ireturn), (17, e0 (.aload_n 0)), (18, .getfield 21, 6, 1, 3, 0, [20034]), (21, .getfield 90, 1, 3, 5008, 0, [10155]), (24, e0 (.iload_n 1)), (25, e0 .aaload)]),
  (35, [(26, e0 (.astore_n 3)), (27, e0 (.lconst 1)), (28, e0 (.iload_n 2)), (29, e0 .lshl), (30, e0 (.lstore 4)), (32, e0 (.aload_n 3)), (33, e0 (.lload 4))]),
  (50, [(35, .invokevirtual 120, 68, 1, 52, 0, [20135, 10004, 20138, 20136, 20137]), (38, .ifCond .eq 26, 64, 0, 0, 0, []), (41, e0 (.aload_n 3)), (42, e0 (.iload_n 2)), (43, .invokevirtual 124, 66, 1, 52, 0, [20139, 10004, 20142, 20140, 20141]), (46, .ifCond .ne 18, 64, 0, 0, 0, []), (49, e0 (.aload_n 0))]),
  (64, [(50, .getfield 21, 6, 1, 3, 0, [20034]), (53, .getfield 127, 1, 8, 1, 0, [10166]), (56, e0 (.lload 4)), (58, e0 .land), (59, e0 (.lconst 0)), (60, e0 .lcmp), (61, .ifCond .eq 6, 67, 0, 0, 0, [])]),
  (75, [(64, e0 (.bipush (-2))), (66, e0 .ireturn), (67, e0 (.aload_n 3)), (68, e0 .dup), (69, .getfield 131, 5, 9, 1, 0, [10076]), (72, e0 (.lload 4)), (74, e0 .lor)]),
  (100000, [(75, .putfield 131, 5, 9, 1, 0, [10076]), (78, e0 (.aload_n 3)), (79, e0 (.bipush 47)), (81, .invokevirtual 134, 69, 1, 52, 0, [20143, 10004, 20146, 20144, 20145]), (84, e0 .ireturn)])]
def in_82 : MI := (⟨"HarbourTugs", "bunker", "(II)I"⟩, prog_1_method_10_code, 6, some .int, 2, 0, 0, 48, es_82)
-- 83: HarbourTugs fuel (II)I
def es_83 : List (Nat × List (Nat × Ent)) := [(9, [(0, e0 (.aload_n 0)), (1, e0 (.iload_n 1)), (2, .invokevirtual 117, 108, 1, 62, 0, [20131, 10001, 20134, 20133, 1]), (5, .ifCond .eq 13, 18, 0, 0, 0, []), (8, e0 (.iload_n 2))]),
  (19, [(9, e0 (.iconst (-1))), (10, e0 (.bipush 47)), (12, .invokestatic 47, 105, 3, 0, 0, [20056, 10001, 20058, 20057]), (15, .ifCond .ne 5, 20, 0, 0, 0, []), (18, e0 (.iconst (-1)))]),
  (28, [(19, e0 .ireturn), (20, e0 (.aload_n 0)), (21, .getfield 21, 6, 1, 3, 0, [20034]), (24, .getfield 90, 1, 3, 5008, 0, [10155]), (27, e0 (.iload_n 1))]),
  (100000, [(28, e0 .aaload), (29, e0 (.iload_n 2)), (30, .invokevirtual 134, 69, 1, 52, 0, [20143, 10004, 20146, 20144, 20145]), (33, e0 .ireturn)])]
def in_83 : MI := (⟨"HarbourTugs", "fuel", "(II)I"⟩, prog_1_method_11_code, 3, some .int, 2, 0, 0, 48, es_83)
-- 84: HarbourTugs may (III)I
def es_84 : List (Nat × List (Nat × Ent)) := [(12, [(0, e0 (.aload_n 0)), (1, e0 (.iload_n 1)), (2, .invokevirtual 110, 109, 1, 62, 0, [20118, 10001, 20121, 20120, 0]), (5, .ifCond .eq 18, 23, 0, 0, 0, []), (8, e0 (.iload_n 2)), (9, .invokestatic 55, 106, 1, 0, 0, [20063, 10001, 20065, 20064])]),
  (24, [(12, .ifCond .eq 11, 23, 0, 0, 0, []), (15, e0 (.aload_n 0)), (16, e0 (.iload_n 3)), (17, .invokevirtual 138, 110, 1, 62, 0, [20159, 10001, 20162, 20161, 3]), (20, .ifCond .ne 5, 25, 0, 0, 0, []), (23, e0 (.iconst (-1)))]),
  (34, [(24, e0 .ireturn), (25, e0 (.aload_n 0)), (26, .getfield 21, 6, 1, 3, 0, [20034]), (29, .getfield 103, 1, 4, 4010, 0, [10158]), (32, e0 (.iload_n 1)), (33, e0 .aaload)]),
  (49, [(34, e0 (.astore 4)), (36, e0 (.aload 4)), (38, .invokevirtual 141, 55, 0, 42, 0, [20163, 10005, 20084, 20082, 20083]), (41, .ifCond .eq 8, 49, 0, 0, 0, []), (44, e0 (.bipush (-2))), (46, .goto 14, 60, 0, 0, 0, [])]),
  (60, [(49, e0 (.aload_n 0)), (50, .getfield 21, 6, 1, 3, 0, [20034]), (53, e0 (.aload 4)), (55, e0 (.iload_n 2)), (56, e0 (.iload_n 3)), (57, .invokevirtual 145, 21, 3, 12, 0, [20164, 10003, 20167, 20165, 20166])]),
  (100000, [(60, e0 .ireturn)])]
def in_84 : MI := (⟨"HarbourTugs", "may", "(III)I"⟩, prog_1_method_12_code, 5, some .int, 7, 0, 0, 176, es_84)
-- 85: HarbourTugs lay (III)I
def es_85 : List (Nat × List (Nat × Ent)) := [(15, [(0, e0 (.aload_n 0)), (1, e0 (.iload_n 1)), (2, .invokevirtual 110, 109, 1, 62, 0, [20118, 10001, 20121, 20120, 0]), (5, .ifCond .eq 18, 23, 0, 0, 0, []), (8, e0 (.iload_n 2)), (9, .invokestatic 55, 106, 1, 0, 0, [20063, 10001, 20065, 20064]), (12, .ifCond .eq 11, 23, 0, 0, 0, [])]),
  (26, [(15, e0 (.aload_n 0)), (16, e0 (.iload_n 3)), (17, .invokevirtual 138, 110, 1, 62, 0, [20159, 10001, 20162, 20161, 3]), (20, .ifCond .ne 5, 25, 0, 0, 0, []), (23, e0 (.iconst (-1))), (24, e0 .ireturn), (25, e0 (.aload_n 0))]),
  (41, [(26, .getfield 21, 6, 1, 3, 0, [20034]), (29, .getfield 103, 1, 4, 4010, 0, [10158]), (32, e0 (.iload_n 1)), (33, e0 .aaload), (34, e0 (.astore 4)), (36, e0 (.aload 4)), (38, .invokevirtual 141, 55, 0, 42, 0, [20163, 10005, 20084, 20082, 20083])]),
  (55, [(41, .ifCond .ne 17, 58, 0, 0, 0, []), (44, e0 (.aload_n 0)), (45, .getfield 21, 6, 1, 3, 0, [20034]), (48, e0 (.aload 4)), (50, e0 (.iload_n 2)), (51, e0 (.iload_n 3)), (52, .invokevirtual 145, 21, 3, 12, 0, [20164, 10003, 20167, 20165, 20166])]),
  (68, [(55, .ifCond .eq 6, 61, 0, 0, 0, []), (58, e0 (.bipush (-2))), (60, e0 .ireturn), (61, e0 (.aload_n 0)), (62, .getfield 21, 6, 1, 3, 0, [20034]), (65, e0 (.aload 4)), (67, e0 (.iload_n 2))]),
  (100000, [(68, e0 (.iload_n 3)), (69, .invokevirtual 149, 29, 3, 12, 0, [30042, 10003, 30045, 30043, 30044]), (72, e0 (.iconst 0)), (73, e0 .ireturn)])]
def in_85 : MI := (⟨"HarbourTugs", "lay", "(III)I"⟩, prog_1_method_13_code, 5, some .int, 7, 0, 0, 176, es_85)
-- 86: HarbourTugs off (I)I
def es_86 : List (Nat × List (Nat × Ent)) := [(10, [(0, e0 (.aload_n 0)), (1, e0 (.iload_n 1)), (2, .invokevirtual 110, 109, 1, 62, 0, [20118, 10001, 20121, 20120, 0]), (5, .ifCond .ne 5, 10, 0, 0, 0, []), (8, e0 (.iconst (-1))), (9, e0 .ireturn)]),
  (20, [(10, e0 (.aload_n 0)), (11, .getfield 21, 6, 1, 3, 0, [20034]), (14, .getfield 103, 1, 4, 4010, 0, [10158]), (17, e0 (.iload_n 1)), (18, e0 .aaload), (19, e0 (.astore_n 2))]),
  (31, [(20, e0 (.aload_n 2)), (21, .invokevirtual 141, 55, 0, 42, 0, [20163, 10005, 20084, 20082, 20083]), (24, .ifCond .ne 6, 30, 0, 0, 0, []), (27, e0 (.bipush (-2))), (29, e0 .ireturn), (30, e0 (.aload_n 2))]),
  (43, [(31, .getfield 153, 4, 7, 0, 0, [10123]), (34, e0 (.istore_n 3)), (35, e0 (.aload_n 0)), (36, .getfield 21, 6, 1, 3, 0, [20034]), (39, e0 (.aload_n 2)), (40, .invokevirtual 156, 31, 1, 12, 0, [30050, 10003, 30053, 30051, 30052])]),
  (100000, [(43, e0 (.iload_n 3)), (44, e0 .ireturn)])]
def in_86 : MI := (⟨"HarbourTugs", "off", "(I)I"⟩, prog_1_method_14_code, 4, some .int, 5, 0, 0, 109, es_86)
-- 87: HarbourTugs best (II)I
def es_87 : List (Nat × List (Nat × Ent)) := [(11, [(0, e0 (.aload_n 0)), (1, e0 (.iload_n 1)), (2, .invokevirtual 110, 109, 1, 62, 0, [20118, 10001, 20121, 20120, 0]), (5, .ifCond .eq 12, 17, 0, 0, 0, []), (8, e0 (.iload_n 2)), (9, e0 (.iconst 0)), (10, e0 (.iconst 1))]),
  (26, [(11, .invokestatic 47, 105, 3, 0, 0, [20056, 10001, 20058, 20057]), (14, .ifCond .ne 5, 19, 0, 0, 0, []), (17, e0 (.iconst (-1))), (18, e0 .ireturn), (19, e0 (.aload_n 0)), (20, .getfield 21, 6, 1, 3, 0, [20034]), (23, .getfield 103, 1, 4, 4010, 0, [10158])]),
  (38, [(26, e0 (.iload_n 1)), (27, e0 .aaload), (28, e0 (.astore_n 3)), (29, e0 (.aload_n 3)), (30, .invokevirtual 141, 55, 0, 42, 0, [20163, 10005, 20084, 20082, 20083]), (33, .ifCond .eq 6, 39, 0, 0, 0, []), (36, e0 (.bipush (-2)))]),
  (51, [(38, e0 .ireturn), (39, e0 (.aload_n 0)), (40, .getfield 21, 6, 1, 3, 0, [20034]), (43, e0 (.aload_n 3)), (44, .invokevirtual 160, 25, 1, 12, 0, [30066, 10003, 30069, 30067, 30068]), (47, e0 (.istore 4)), (49, e0 (.iload 4))]),
  (66, [(51, e0 (.bipush (-4))), (53, .if_icmp .eq 7, 60, 0, 0, 0, []), (56, e0 (.iload_n 2)), (57, .ifCond .ne 8, 65, 0, 0, 0, []), (60, e0 (.iload 4)), (62, .goto 10, 72, 0, 0, 0, []), (65, e0 (.aload_n 0))]),
  (100000, [(66, .getfield 21, 6, 1, 3, 0, [20034]), (69, .getfield 164, 1, 15, 0, 0, [10180]), (72, e0 .ireturn)])]
def in_87 : MI := (⟨"HarbourTugs", "best", "(II)I"⟩, prog_1_method_15_code, 5, some .int, 5, 0, 0, 135, es_87)
-- 88: HarbourTugs job (II)I
def es_88 : List (Nat × List (Nat × Ent)) := [(10, [(0, e0 (.aload_n 0)), (1, e0 (.iload_n 1)), (2, .invokevirtual 110, 109, 1, 62, 0, [20118, 10001, 20121, 20120, 0]), (5, .ifCond .eq 12, 17, 0, 0, 0, []), (8, e0 (.iload_n 2)), (9, e0 (.iconst 0))]),
  (20, [(10, e0 (.iconst 1)), (11, .invokestatic 47, 105, 3, 0, 0, [20056, 10001, 20058, 20057]), (14, .ifCond .ne 5, 19, 0, 0, 0, []), (17, e0 (.iconst (-1))), (18, e0 .ireturn), (19, e0 (.aload_n 0))]),
  (30, [(20, .getfield 21, 6, 1, 3, 0, [20034]), (23, .getfield 103, 1, 4, 4010, 0, [10158]), (26, e0 (.iload_n 1)), (27, e0 .aaload), (28, e0 (.astore_n 3)), (29, e0 (.aload_n 3))]),
  (43, [(30, .invokevirtual 141, 55, 0, 42, 0, [20163, 10005, 20084, 20082, 20083]), (33, .ifCond .ne 6, 39, 0, 0, 0, []), (36, e0 (.bipush (-4))), (38, e0 .ireturn), (39, e0 (.iload_n 2)), (40, .ifCond .ne 10, 50, 0, 0, 0, [])]),
  (100000, [(43, e0 (.aload_n 3)), (44, .getfield 153, 4, 7, 0, 0, [10123]), (47, .goto 7, 54, 0, 0, 0, []), (50, e0 (.aload_n 3)), (51, .getfield 167, 4, 8, 0, 0, [10127]), (54, e0 .ireturn)])]
def in_88 : MI := (⟨"HarbourTugs", "job", "(II)I"⟩, prog_1_method_16_code, 4, some .int, 2, 0, 0, 43, es_88)
-- 89: HarbourTugs order (II)I
def es_89 : List (Nat × List (Nat × Ent)) := [(10, [(0, e0 (.aload_n 0)), (1, e0 (.iload_n 1)), (2, .invokevirtual 170, 111, 1, 62, 0, [30096, 10001, 30099, 30098, 20]), (5, .ifCond .ne 5, 10, 0, 0, 0, []), (8, e0 (.iconst (-1))), (9, e0 .ireturn)]),
  (22, [(10, e0 (.aload_n 0)), (11, .getfield 28, 6, 2, 4, 0, [20035]), (14, e0 (.aload_n 0)), (15, .getfield 21, 6, 1, 3, 0, [20034]), (18, e0 (.iload_n 1)), (19, .invokevirtual 173, 41, 2, 22, 0, [30100, 10006, 30103, 30101, 30102])]),
  (34, [(22, e0 (.iload_n 2)), (23, e0 (.iconst (-1))), (24, .if_icmp .ne 11, 35, 0, 0, 0, []), (27, e0 (.aload_n 0)), (28, .getfield 28, 6, 2, 4, 0, [20035]), (31, .getfield 177, 2, 5, 0, 0, [10231])]),
  (40, [(34, e0 .ireturn), (35, e0 (.iload_n 2)), (36, e0 (.iconst 0)), (37, e0 (.iload_n 1)), (38, e0 (.iconst 1)), (39, e0 .isub)]),
  (54, [(40, .invokestatic 47, 105, 3, 0, 0, [20056, 10001, 20058, 20057]), (43, .ifCond .eq 15, 58, 0, 0, 0, []), (46, e0 (.aload_n 0)), (47, .getfield 28, 6, 2, 4, 0, [20035]), (50, .getfield 180, 2, 3, 1006, 0, [10227]), (53, e0 (.iload_n 2))]),
  (100000, [(54, e0 .iaload), (55, .goto 5, 60, 0, 0, 0, []), (58, e0 (.bipush (-4))), (60, e0 .ireturn)])]
def in_89 : MI := (⟨"HarbourTugs", "order", "(II)I"⟩, prog_1_method_17_code, 3, some .int, 7, 0, 0, 186, es_89)
-- 90: HarbourTugs layOrder (I)I
def es_90 : List (Nat × List (Nat × Ent)) := [(9, [(0, e0 (.aload_n 0)), (1, e0 (.iload_n 1)), (2, .invokevirtual 170, 111, 1, 62, 0, [30096, 10001, 30099, 30098, 20]), (5, .ifCond .ne 5, 10, 0, 0, 0, []), (8, e0 (.iconst (-1)))]),
  (18, [(9, e0 .ireturn), (10, e0 (.aload_n 0)), (11, .getfield 28, 6, 2, 4, 0, [20035]), (14, e0 (.aload_n 0)), (15, .getfield 21, 6, 1, 3, 0, [20034])]),
  (29, [(18, e0 (.iload_n 1)), (19, .invokevirtual 173, 41, 2, 22, 0, [30100, 10006, 30103, 30101, 30102]), (22, e0 (.aload_n 0)), (23, .getfield 21, 6, 1, 3, 0, [20034]), (26, .invokevirtual 183, 34, 0, 12, 0, [30154, 10003, 30127, 30125, 30126])]),
  (40, [(29, e0 (.aload_n 0)), (30, .getfield 21, 6, 1, 3, 0, [20034]), (33, e0 (.aload_n 0)), (34, .getfield 28, 6, 2, 4, 0, [20035]), (37, .getfield 180, 2, 3, 1006, 0, [10227])]),
  (100000, [(40, e0 (.iload_n 1)), (41, .invokevirtual 186, 35, 2, 12, 0, [30155, 10003, 30131, 30129, 30130]), (44, e0 .ireturn)])]
def in_90 : MI := (⟨"HarbourTugs", "layOrder", "(I)I"⟩, prog_1_method_18_code, 2, some .int, 7, 0, 0, 186, es_90)
-- 91: HarbourTugs mended (II)I
def es_91 : List (Nat × List (Nat × Ent)) := [(10, [(0, e0 (.aload_n 0)), (1, e0 (.iload_n 1)), (2, .invokevirtual 170, 111, 1, 62, 0, [30096, 10001, 30099, 30098, 20]), (5, .ifCond .eq 12, 17, 0, 0, 0, []), (8, e0 (.iload_n 2)), (9, e0 (.iconst 0))]),
  (20, [(10, e0 (.iconst 3)), (11, .invokestatic 47, 105, 3, 0, 0, [20056, 10001, 20058, 20057]), (14, .ifCond .ne 5, 19, 0, 0, 0, []), (17, e0 (.iconst (-1))), (18, e0 .ireturn), (19, e0 (.aload_n 0))]),
  (32, [(20, .getfield 28, 6, 2, 4, 0, [20035]), (23, e0 (.aload_n 0)), (24, .getfield 21, 6, 1, 3, 0, [20034]), (27, e0 (.iload_n 1)), (28, .invokevirtual 190, 45, 2, 22, 0, [30160, 10006, 30163, 30161, 30162]), (31, e0 (.iload_n 2))]),
  (69, [(32, .tableswitch 55 0 2 #[28, 36, 47], 87, 0, 28, 0, [60, 68, 79]), (60, e0 (.aload_n 0)), (61, .getfield 28, 6, 2, 4, 0, [20035]), (64, .getfield 193, 2, 4, 0, 0, [10229]), (67, e0 .ireturn), (68, e0 (.aload_n 0))]),
  (83, [(69, .getfield 28, 6, 2, 4, 0, [20035]), (72, .getfield 196, 2, 6, 0, 0, [10233]), (75, .invokestatic 199, 193, 1, 0, 0, [30178, 10011, 30084, 30083]), (78, e0 .ireturn), (79, e0 (.aload_n 0)), (80, .getfield 28, 6, 2, 4, 0, [20035])]),
  (100000, [(83, .getfield 177, 2, 5, 0, 0, [10231]), (86, e0 .ireturn), (87, e0 (.aload_n 0)), (88, .getfield 28, 6, 2, 4, 0, [20035]), (91, .getfield 196, 2, 6, 0, 0, [10233]), (94, e0 .ireturn)])]
def in_91 : MI := (⟨"HarbourTugs", "mended", "(II)I"⟩, prog_1_method_19_code, 3, some .int, 7, 0, 0, 186, es_91)
-- 92: HarbourTugs layMended (I)I
def es_92 : List (Nat × List (Nat × Ent)) := [(10, [(0, e0 (.aload_n 0)), (1, e0 (.iload_n 1)), (2, .invokevirtual 170, 111, 1, 62, 0, [30096, 10001, 30099, 30098, 20]), (5, .ifCond .ne 5, 10, 0, 0, 0, []), (8, e0 (.iconst (-1))), (9, e0 .ireturn)]),
  (22, [(10, e0 (.aload_n 0)), (11, .getfield 28, 6, 2, 4, 0, [20035]), (14, e0 (.aload_n 0)), (15, .getfield 21, 6, 1, 3, 0, [20034]), (18, e0 (.iload_n 1)), (19, .invokevirtual 190, 45, 2, 22, 0, [30160, 10006, 30163, 30161, 30162])]),
  (36, [(22, e0 (.aload_n 0)), (23, .getfield 21, 6, 1, 3, 0, [20034]), (26, e0 (.aload_n 0)), (27, .getfield 28, 6, 2, 4, 0, [20035]), (30, .getfield 196, 2, 6, 0, 0, [10233]), (33, .invokevirtual 204, 32, 1, 12, 0, [30183, 10003, 30171, 30169, 30170])]),
  (48, [(36, e0 (.aload_n 0)), (37, .getfield 21, 6, 1, 3, 0, [20034]), (40, e0 (.aload_n 0)), (41, .getfield 28, 6, 2, 4, 0, [20035]), (44, .getfield 208, 2, 1, 1006, 0, [10224]), (47, e0 (.iload_n 1))]),
  (100000, [(48, .invokevirtual 186, 35, 2, 12, 0, [30155, 10003, 30131, 30129, 30130]), (51, e0 .ireturn)])]
def in_92 : MI := (⟨"HarbourTugs", "layMended", "(I)I"⟩, prog_1_method_20_code, 2, some .int, 7, 0, 0, 186, es_92)
-- 93: HarbourTugs breaks (II)I
def es_93 : List (Nat × List (Nat × Ent)) := [(9, [(0, e0 (.aload_n 0)), (1, e0 (.iload_n 1)), (2, .invokevirtual 117, 108, 1, 62, 0, [20131, 10001, 20134, 20133, 1]), (5, .ifCond .eq 10, 15, 0, 0, 0, []), (8, e0 (.iload_n 2))]),
  (18, [(9, .invokestatic 55, 106, 1, 0, 0, [20063, 10001, 20065, 20064]), (12, .ifCond .ne 5, 17, 0, 0, 0, []), (15, e0 (.iconst (-1))), (16, e0 .ireturn), (17, e0 (.aload_n 0))]),
  (27, [(18, .getfield 21, 6, 1, 3, 0, [20034]), (21, .getfield 90, 1, 3, 5008, 0, [10155]), (24, e0 (.iload_n 1)), (25, e0 .aaload), (26, e0 (.iload_n 2))]),
  (39, [(27, .invokevirtual 124, 66, 1, 52, 0, [20139, 10004, 20142, 20140, 20141]), (30, .ifCond .eq 8, 38, 0, 0, 0, []), (33, e0 (.bipush (-2))), (35, .goto 12, 47, 0, 0, 0, []), (38, e0 (.aload_n 0))]),
  (100000, [(39, .getfield 21, 6, 1, 3, 0, [20034]), (42, e0 (.iload_n 1)), (43, e0 (.iload_n 2)), (44, .invokevirtual 211, 37, 2, 12, 0, [30188, 10003, 30191, 30189, 30190]), (47, e0 .ireturn)])]
def in_93 : MI := (⟨"HarbourTugs", "breaks", "(II)I"⟩, prog_1_method_21_code, 3, some .int, 6, 0, 0, 138, es_93)
-- 94: HarbourTugs mend (I)I
def es_94 : List (Nat × List (Nat × Ent)) := [(9, [(0, e0 (.aload_n 0)), (1, e0 (.iload_n 1)), (2, .invokevirtual 117, 108, 1, 62, 0, [20131, 10001, 20134, 20133, 1]), (5, .ifCond .ne 5, 10, 0, 0, 0, []), (8, e0 (.iconst (-1)))]),
  (18, [(9, e0 .ireturn), (10, e0 (.aload_n 0)), (11, .getfield 21, 6, 1, 3, 0, [20034]), (14, .getfield 90, 1, 3, 5008, 0, [10155]), (17, e0 (.iload_n 1))]),
  (29, [(18, e0 .aaload), (19, .invokevirtual 215, 67, 0, 52, 0, [30204, 10004, 30207, 30205, 30206]), (22, .ifCond .eq 7, 29, 0, 0, 0, []), (25, e0 (.iconst 1)), (26, .goto 4, 30, 0, 0, 0, [])]),
  (100000, [(29, e0 (.iconst 0)), (30, e0 .ireturn)])]
def in_94 : MI := (⟨"HarbourTugs", "mend", "(I)I"⟩, prog_1_method_22_code, 2, some .int, 2, 0, 0, 43, es_94)
-- 95: HarbourTugs storm (II)I
def es_95 : List (Nat × List (Nat × Ent)) := [(11, [(0, e0 (.iload_n 1)), (1, .invokestatic 55, 106, 1, 0, 0, [20063, 10001, 20065, 20064]), (4, .ifCond .eq 15, 19, 0, 0, 0, []), (7, e0 (.iload_n 2)), (8, .invokestatic 55, 106, 1, 0, 0, [20063, 10001, 20065, 20064])]),
  (20, [(11, .ifCond .eq 8, 19, 0, 0, 0, []), (14, e0 (.iload_n 1)), (15, e0 (.iload_n 2)), (16, .if_icmp .le 5, 21, 0, 0, 0, []), (19, e0 (.iconst (-1)))]),
  (27, [(20, e0 .ireturn), (21, e0 (.aload_n 0)), (22, .getfield 21, 6, 1, 3, 0, [20034]), (25, e0 (.iload_n 1)), (26, e0 (.iload_n 2))]),
  (100000, [(27, .invokevirtual 218, 39, 2, 12, 0, [30212, 10003, 30215, 30213, 30214]), (30, e0 .ireturn)])]
def in_95 : MI := (⟨"HarbourTugs", "storm", "(II)I"⟩, prog_1_method_23_code, 3, some .int, 6, 0, 0, 140, es_95)
-- 96: HarbourTugs calm ()I
def es_96 : List (Nat × List (Nat × Ent)) := [(10, [(0, e0 (.aload_n 0)), (1, .getfield 21, 6, 1, 3, 0, [20034]), (4, .getfield 127, 1, 8, 1, 0, [10166]), (7, .invokestatic 221, 192, 1, 0, 0, [30220, 10010, 30008, 30007])]),
  (16, [(10, e0 (.istore_n 1)), (11, e0 (.aload_n 0)), (12, .getfield 21, 6, 1, 3, 0, [20034]), (15, e0 (.lconst 0))]),
  (100000, [(16, .putfield 127, 1, 8, 1, 0, [10166]), (19, e0 (.iload_n 1)), (20, e0 .ireturn)])]
def in_96 : MI := (⟨"HarbourTugs", "calm", "()I"⟩, prog_1_method_24_code, 2, some .int, 1, 0, 0, 21, es_96)
-- 97: HarbourTugs priceRule (IIII)I
def es_97 : List (Nat × List (Nat × Ent)) := [(12, [(0, e0 (.iload_n 1)), (1, e0 (.iconst 0)), (2, e0 (.bipush 6)), (4, .invokestatic 47, 105, 3, 0, 0, [20056, 10001, 20058, 20057]), (7, .ifCond .eq 23, 30, 0, 0, 0, []), (10, e0 (.iload_n 2)), (11, e0 (.iconst 0))]),
  (27, [(12, e0 (.sipush 400)), (15, .invokestatic 47, 105, 3, 0, 0, [20056, 10001, 20058, 20057]), (18, .ifCond .eq 12, 30, 0, 0, 0, []), (21, e0 (.iload_n 3)), (22, e0 (.iconst 0)), (23, e0 (.iconst 1)), (24, .invokestatic 47, 105, 3, 0, 0, [20056, 10001, 20058, 20057])]),
  (41, [(27, .ifCond .ne 5, 32, 0, 0, 0, []), (30, e0 (.iconst (-1))), (31, e0 .ireturn), (32, e0 (.iload_n 3)), (33, .ifCond .ne 19, 52, 0, 0, 0, []), (36, e0 (.iload 4)), (38, e0 (.sipush (-1000)))]),
  (59, [(41, .ldc 226, 0, 0, 0, 100000, [30225]), (43, .invokestatic 47, 105, 3, 0, 0, [20056, 10001, 20058, 20057]), (46, .ifCond .ne 21, 67, 0, 0, 0, []), (49, .goto 16, 65, 0, 0, 0, []), (52, e0 (.iload 4)), (54, e0 (.bipush (-100))), (56, e0 (.sipush 1000))]),
  (72, [(59, .invokestatic 47, 105, 3, 0, 0, [20056, 10001, 20058, 20057]), (62, .ifCond .ne 5, 67, 0, 0, 0, []), (65, e0 (.iconst (-1))), (66, e0 .ireturn), (67, e0 (.aload_n 0)), (68, .getfield 35, 6, 3, 5, 0, [20036]), (71, e0 (.iload_n 1))]),
  (86, [(72, e0 (.iload_n 2)), (73, e0 (.iload_n 3)), (74, e0 (.iload 4)), (76, .invokevirtual 227, 49, 4, 32, 0, [30226, 10007, 30229, 30227, 30228]), (79, .ifCond .eq 13, 92, 0, 0, 0, []), (82, e0 (.aload_n 0)), (83, .getfield 35, 6, 3, 5, 0, [20036])]),
  (100000, [(86, .getfield 231, 3, 4, 0, 0, [20020]), (89, .goto 5, 94, 0, 0, 0, []), (92, e0 (.bipush (-3))), (94, e0 .ireturn)])]
def in_97 : MI := (⟨"HarbourTugs", "priceRule", "(IIII)I"⟩, prog_1_method_25_code, 5, some .int, 2, 0, 0, 46, es_97)
-- 98: HarbourTugs price (I)J
def es_98 : List (Nat × List (Nat × Ent)) := [(11, [(0, e0 (.aload_n 0)), (1, e0 (.iload_n 1)), (2, .invokevirtual 110, 109, 1, 62, 0, [20118, 10001, 20121, 20120, 0]), (5, .ifCond .ne 7, 12, 0, 0, 0, []), (8, .ldc2_w 234, 0, 0, 0, (-1000000001), [30235])]),
  (20, [(11, e0 .lreturn), (12, e0 (.aload_n 0)), (13, .getfield 21, 6, 1, 3, 0, [20034]), (16, .getfield 103, 1, 4, 4010, 0, [10158]), (19, e0 (.iload_n 1))]),
  (29, [(20, e0 .aaload), (21, e0 (.astore_n 2)), (22, e0 (.aload_n 2)), (23, .invokevirtual 141, 55, 0, 42, 0, [20163, 10005, 20084, 20082, 20083]), (26, .ifCond .eq 18, 44, 0, 0, 0, [])]),
  (38, [(29, e0 (.aload_n 0)), (30, .getfield 35, 6, 3, 5, 0, [20036]), (33, e0 (.aload_n 0)), (34, .getfield 21, 6, 1, 3, 0, [20034]), (37, e0 (.aload_n 2))]),
  (100000, [(38, .invokevirtual 236, 50, 2, 32, 0, [30236, 10007, 30239, 30237, 30238]), (41, .goto 6, 47, 0, 0, 0, []), (44, .ldc2_w 240, 0, 0, 0, (-1000000002), [40007]), (47, e0 .lreturn)])]
def in_98 : MI := (⟨"HarbourTugs", "price", "(I)J"⟩, prog_1_method_26_code, 3, some .long, 4, 0, 0, 92, es_98)
-- 99: HarbourTugs pool (II)I
def es_99 : List (Nat × List (Nat × Ent)) := [(11, [(0, e0 (.iload_n 1)), (1, e0 (.iconst 0)), (2, e0 (.iconst 1)), (3, .invokestatic 47, 105, 3, 0, 0, [20056, 10001, 20058, 20057]), (6, .ifCond .eq 13, 19, 0, 0, 0, []), (9, e0 (.iload_n 2)), (10, e0 (.iconst 0))]),
  (25, [(11, .ldc 242, 0, 0, 0, 1000000, [40012]), (13, .invokestatic 47, 105, 3, 0, 0, [20056, 10001, 20058, 20057]), (16, .ifCond .ne 5, 21, 0, 0, 0, []), (19, e0 (.iconst (-1))), (20, e0 .ireturn), (21, e0 (.aload_n 0)), (22, .getfield 21, 6, 1, 3, 0, [20034])]),
  (38, [(25, e0 (.iconst 1)), (26, .invokevirtual 243, 8, 1, 12, 0, [40013, 10003, 40016, 40014, 40015]), (29, e0 (.lstore_n 3)), (30, e0 (.aload_n 0)), (31, .getfield 21, 6, 1, 3, 0, [20034]), (34, e0 (.iconst 0)), (35, .invokevirtual 243, 8, 1, 12, 0, [40013, 10003, 40016, 40014, 40015])]),
  (49, [(38, e0 (.lload_n 3)), (39, e0 .ladd), (40, e0 (.lstore 5)), (42, e0 (.lload 5)), (44, e0 (.lconst 0)), (45, e0 .lcmp), (46, .ifCond .gt 7, 53, 0, 0, 0, [])]),
  (59, [(49, e0 (.iconst 0)), (50, .goto 11, 61, 0, 0, 0, []), (53, e0 (.iload_n 2)), (54, e0 .i2l), (55, e0 (.lload_n 3)), (56, e0 .lmul), (57, e0 (.lload 5))]),
  (70, [(59, e0 .ldiv), (60, e0 .l2i), (61, e0 (.istore 7)), (63, e0 (.iload_n 1)), (64, e0 (.iconst 1)), (65, .if_icmp .ne 8, 73, 0, 0, 0, []), (68, e0 (.iload 7))]),
  (100000, [(70, .goto 7, 77, 0, 0, 0, []), (73, e0 (.iload_n 2)), (74, e0 (.iload 7)), (76, e0 .isub), (77, e0 .ireturn)])]
def in_99 : MI := (⟨"HarbourTugs", "pool", "(II)I"⟩, prog_1_method_27_code, 8, some .int, 2, 0, 0, 48, es_99)
-- 100: HarbourTugs work (II)J
def es_100 : List (Nat × List (Nat × Ent)) := [(10, [(0, e0 (.aload_n 0)), (1, e0 (.iload_n 1)), (2, .invokevirtual 117, 108, 1, 62, 0, [20131, 10001, 20134, 20133, 1]), (5, .ifCond .eq 12, 17, 0, 0, 0, []), (8, e0 (.iload_n 2)), (9, e0 (.iconst 0))]),
  (22, [(10, e0 (.iconst 1)), (11, .invokestatic 47, 105, 3, 0, 0, [20056, 10001, 20058, 20057]), (14, .ifCond .ne 7, 21, 0, 0, 0, []), (17, .ldc2_w 247, 0, 0, 0, (-1), [40021]), (20, e0 .lreturn), (21, e0 (.iload_n 2))]),
  (34, [(22, .ifCond .ne 18, 40, 0, 0, 0, []), (25, e0 (.aload_n 0)), (26, .getfield 21, 6, 1, 3, 0, [20034]), (29, .getfield 90, 1, 3, 5008, 0, [10155]), (32, e0 (.iload_n 1)), (33, e0 .aaload)]),
  (48, [(34, .getfield 249, 5, 8, 1, 0, [10074]), (37, .goto 15, 52, 0, 0, 0, []), (40, e0 (.aload_n 0)), (41, .getfield 21, 6, 1, 3, 0, [20034]), (44, .getfield 90, 1, 3, 5008, 0, [10155]), (47, e0 (.iload_n 1))]),
  (100000, [(48, e0 .aaload), (49, .getfield 131, 5, 9, 1, 0, [10076]), (52, e0 .lreturn)])]
def in_100 : MI := (⟨"HarbourTugs", "work", "(II)J"⟩, prog_1_method_28_code, 3, some .long, 2, 0, 0, 43, es_100)
-- 101: HarbourTugs about (II)I
def es_101 : List (Nat × List (Nat × Ent)) := [(12, [(0, e0 (.aload_n 0)), (1, e0 (.iload_n 1)), (2, .invokevirtual 117, 108, 1, 62, 0, [20131, 10001, 20134, 20133, 1]), (5, .ifCond .ne 6, 11, 0, 0, 0, []), (8, e0 (.bipush (-100))), (10, e0 .ireturn), (11, e0 (.aload_n 0))]),
  (68, [(12, .getfield 21, 6, 1, 3, 0, [20034]), (15, .getfield 90, 1, 3, 5008, 0, [10155]), (18, e0 (.iload_n 1)), (19, e0 .aaload), (20, e0 (.astore_n 3)), (21, e0 (.iload_n 2)), (22, .tableswitch 104 0 7 #[46, 51, 56, 61, 66, 71, 76, 95], 126, 0, 46, 0, [68, 73, 78, 83, 88, 93, 98, 117])]),
  (79, [(68, e0 (.aload_n 3)), (69, .getfield 252, 5, 0, 0, 0, [10054]), (72, e0 .ireturn), (73, e0 (.aload_n 3)), (74, .getfield 255, 5, 1, 0, 0, [10057]), (77, e0 .ireturn), (78, e0 (.aload_n 3))]),
  (92, [(79, .getfield 258, 5, 2, 0, 0, [10060]), (82, e0 .ireturn), (83, e0 (.aload_n 3)), (84, .getfield 261, 5, 4, 0, 0, [10063]), (87, e0 .ireturn), (88, e0 (.aload_n 3)), (89, .getfield 264, 5, 5, 0, 0, [10065])]),
  (104, [(92, e0 .ireturn), (93, e0 (.aload_n 3)), (94, .getfield 267, 5, 6, 0, 0, [10068]), (97, e0 .ireturn), (98, e0 (.aload_n 3)), (99, .getfield 270, 5, 7, 0, 0, [10070]), (102, e0 (.bipush 48))]),
  (118, [(104, .if_icmp .ne 8, 112, 0, 0, 0, []), (107, e0 (.bipush (-4))), (109, .goto 7, 116, 0, 0, 0, []), (112, e0 (.aload_n 3)), (113, .getfield 270, 5, 7, 0, 0, [10070]), (116, e0 .ireturn), (117, e0 (.aload_n 0))]),
  (100000, [(118, .getfield 21, 6, 1, 3, 0, [20034]), (121, e0 (.iload_n 1)), (122, .invokevirtual 273, 9, 1, 12, 0, [40026, 10003, 40029, 40027, 40028]), (125, e0 .ireturn), (126, e0 (.bipush (-100))), (128, e0 .ireturn)])]
def in_101 : MI := (⟨"HarbourTugs", "about", "(II)I"⟩, prog_1_method_29_code, 4, some .int, 3, 0, 0, 70, es_101)
-- 102: HarbourTugs keep ()I
def es_102 : List (Nat × List (Nat × Ent)) := [(10, [(0, e0 (.aload_n 0)), (1, .getfield 43, 6, 5, 0, 0, [20038]), (4, e0 (.iconst 0)), (5, e0 (.aload_n 0)), (6, .getfield 39, 6, 4, 3005, 0, [20037]), (9, e0 .arraylength)]),
  (21, [(10, e0 (.iconst 1)), (11, e0 .isub), (12, .invokestatic 47, 105, 3, 0, 0, [20056, 10001, 20058, 20057]), (15, .ifCond .ne 6, 21, 0, 0, 0, []), (18, e0 (.bipush (-3))), (20, e0 .ireturn)]),
  (31, [(21, e0 (.aload_n 0)), (22, .getfield 39, 6, 4, 3005, 0, [20037]), (25, e0 (.aload_n 0)), (26, .getfield 43, 6, 5, 0, 0, [20038]), (29, e0 .aaload), (30, e0 (.aload_n 0))]),
  (43, [(31, .getfield 21, 6, 1, 3, 0, [20034]), (34, .invokevirtual 276, 5, 1, 12, 0, [40034, 10003, 30107, 30105, 30106]), (37, e0 (.aload_n 0)), (38, e0 .dup), (39, .getfield 43, 6, 5, 0, 0, [20038]), (42, e0 (.iconst 1))]),
  (100000, [(43, e0 .iadd), (44, .putfield 43, 6, 5, 0, 0, [20038]), (47, e0 (.aload_n 0)), (48, .getfield 43, 6, 5, 0, 0, [20038]), (51, e0 .ireturn)])]
def in_102 : MI := (⟨"HarbourTugs", "keep", "()I"⟩, prog_1_method_30_code, 1, some .int, 4, 0, 0, 90, es_102)
-- 103: HarbourTugs back ()I
def es_103 : List (Nat × List (Nat × Ent)) := [(8, [(0, e0 (.aload_n 0)), (1, .getfield 43, 6, 5, 0, 0, [20038]), (4, e0 (.iconst 1)), (5, e0 .isub), (6, e0 (.istore_n 1)), (7, e0 (.iload_n 1))]),
  (16, [(8, e0 (.iconst 0)), (9, e0 (.aload_n 0)), (10, .getfield 39, 6, 4, 3005, 0, [20037]), (13, e0 .arraylength), (14, e0 (.iconst 1)), (15, e0 .isub)]),
  (29, [(16, .invokestatic 47, 105, 3, 0, 0, [20056, 10001, 20058, 20057]), (19, .ifCond .ne 6, 25, 0, 0, 0, []), (22, e0 (.bipush (-2))), (24, e0 .ireturn), (25, e0 (.aload_n 0)), (26, .getfield 21, 6, 1, 3, 0, [20034])]),
  (39, [(29, e0 (.aload_n 0)), (30, .getfield 39, 6, 4, 3005, 0, [20037]), (33, e0 (.iload_n 1)), (34, e0 .aaload), (35, .invokevirtual 276, 5, 1, 12, 0, [40034, 10003, 30107, 30105, 30106]), (38, e0 (.aload_n 0))]),
  (100000, [(39, e0 (.iload_n 1)), (40, .putfield 43, 6, 5, 0, 0, [20038]), (43, e0 (.aload_n 0)), (44, .getfield 43, 6, 5, 0, 0, [20038]), (47, e0 .ireturn)])]
def in_103 : MI := (⟨"HarbourTugs", "back", "()I"⟩, prog_1_method_31_code, 2, some .int, 4, 0, 0, 90, es_103)
-- 104: HarbourTugs count (I)I
def es_104 : List (Nat × List (Nat × Ent)) := [(65, [(0, e0 (.iload_n 1)), (1, .tableswitch 135 0 9 #[55, 63, 71, 79, 90, 98, 106, 114, 122, 130], 136, 0, 55, 0, [56, 64, 72, 80, 91, 99, 107, 115, 123, 131]), (56, e0 (.aload_n 0)), (57, .getfield 21, 6, 1, 3, 0, [20034]), (60, .getfield 87, 1, 9, 0, 0, [10168]), (63, e0 .ireturn), (64, e0 (.aload_n 0))]),
  (80, [(65, .getfield 21, 6, 1, 3, 0, [20034]), (68, .getfield 100, 1, 10, 0, 0, [10170]), (71, e0 .ireturn), (72, e0 (.aload_n 0)), (73, .getfield 21, 6, 1, 3, 0, [20034]), (76, .invokevirtual 280, 6, 0, 12, 0, [40043, 10003, 40046, 40044, 40045]), (79, e0 .ireturn)]),
  (95, [(80, e0 (.aload_n 0)), (81, .getfield 21, 6, 1, 3, 0, [20034]), (84, .getfield 127, 1, 8, 1, 0, [10166]), (87, .invokestatic 221, 192, 1, 0, 0, [30220, 10010, 30008, 30007]), (90, e0 .ireturn), (91, e0 (.aload_n 0)), (92, .getfield 21, 6, 1, 3, 0, [20034])]),
  (108, [(95, .getfield 284, 1, 11, 0, 0, [10172]), (98, e0 .ireturn), (99, e0 (.aload_n 0)), (100, .getfield 21, 6, 1, 3, 0, [20034]), (103, .getfield 287, 1, 12, 0, 0, [10174]), (106, e0 .ireturn), (107, e0 (.aload_n 0))]),
  (123, [(108, .getfield 21, 6, 1, 3, 0, [20034]), (111, .getfield 290, 1, 13, 0, 0, [10176]), (114, e0 .ireturn), (115, e0 (.aload_n 0)), (116, .getfield 21, 6, 1, 3, 0, [20034]), (119, .getfield 293, 1, 14, 0, 0, [10178]), (122, e0 .ireturn)]),
  (136, [(123, e0 (.aload_n 0)), (124, .getfield 35, 6, 3, 5, 0, [20036]), (127, .getfield 231, 3, 4, 0, 0, [20020]), (130, e0 .ireturn), (131, e0 (.aload_n 0)), (132, .getfield 43, 6, 5, 0, 0, [20038]), (135, e0 .ireturn)]),
  (100000, [(136, e0 (.iconst (-1))), (137, e0 .ireturn)])]
def in_104 : MI := (⟨"HarbourTugs", "count", "(I)I"⟩, prog_1_method_32_code, 2, some .int, 2, 0, 0, 45, es_104)
-- 105: HarbourTugs within (III)Z
def es_105 : List (Nat × List (Nat × Ent)) := [(6, [(0, e0 (.iload_n 0)), (1, e0 (.iload_n 1)), (2, .if_icmp .lt 12, 14, 0, 0, 0, []), (5, e0 (.iload_n 0))]),
  (14, [(6, e0 (.iload_n 2)), (7, .if_icmp .gt 7, 14, 0, 0, 0, []), (10, e0 (.iconst 1)), (11, .goto 4, 15, 0, 0, 0, [])]),
  (100000, [(14, e0 (.iconst 0)), (15, e0 .ireturn)])]
def in_105 : MI := (⟨"HarbourTugs", "within", "(III)Z"⟩, prog_1_method_33_code, 3, some .boolean, 0, 0, 0, 0, es_105)
-- 106: HarbourTugs isHour (I)Z
def es_106 : List (Nat × List (Nat × Ent)) := [(7, [(0, e0 (.iload_n 0)), (1, e0 (.iconst 0)), (2, e0 (.bipush 47)), (4, .invokestatic 47, 105, 3, 0, 0, [20056, 10001, 20058, 20057])]),
  (100000, [(7, e0 .ireturn)])]
def in_106 : MI := (⟨"HarbourTugs", "isHour", "(I)Z"⟩, prog_1_method_34_code, 1, some .boolean, 1, 0, 0, 22, es_106)
-- 107: HarbourTugs isBerth (I)Z
def es_107 : List (Nat × List (Nat × Ent)) := [(7, [(0, e0 (.iload_n 0)), (1, .ifCond .lt 13, 14, 0, 0, 0, []), (4, e0 (.iload_n 0)), (5, e0 (.bipush 6))]),
  (15, [(7, .if_icmp .ge 7, 14, 0, 0, 0, []), (10, e0 (.iconst 1)), (11, .goto 4, 15, 0, 0, 0, []), (14, e0 (.iconst 0))]),
  (100000, [(15, e0 .ireturn)])]
def in_107 : MI := (⟨"HarbourTugs", "isBerth", "(I)Z"⟩, prog_1_method_35_code, 1, some .boolean, 0, 0, 0, 0, es_107)
-- 108: HarbourTugs isTug (I)Z
def es_108 : List (Nat × List (Nat × Ent)) := [(6, [(0, e0 (.iload_n 1)), (1, e0 (.iconst 0)), (2, e0 (.iconst 5)), (3, .invokestatic 47, 105, 3, 0, 0, [20056, 10001, 20058, 20057])]),
  (14, [(6, .ifCond .eq 18, 24, 0, 0, 0, []), (9, e0 (.iload_n 1)), (10, e0 (.aload_n 0)), (11, .getfield 21, 6, 1, 3, 0, [20034])]),
  (24, [(14, .getfield 87, 1, 9, 0, 0, [10168]), (17, .if_icmp .ge 7, 24, 0, 0, 0, []), (20, e0 (.iconst 1)), (21, .goto 4, 25, 0, 0, 0, [])]),
  (100000, [(24, e0 (.iconst 0)), (25, e0 .ireturn)])]
def in_108 : MI := (⟨"HarbourTugs", "isTug", "(I)Z"⟩, prog_1_method_36_code, 2, some .boolean, 1, 0, 0, 22, es_108)
-- 109: HarbourTugs isShip (I)Z
def es_109 : List (Nat × List (Nat × Ent)) := [(7, [(0, e0 (.iload_n 1)), (1, e0 (.iconst 0)), (2, e0 (.bipush 7)), (4, .invokestatic 47, 105, 3, 0, 0, [20056, 10001, 20058, 20057])]),
  (15, [(7, .ifCond .eq 18, 25, 0, 0, 0, []), (10, e0 (.iload_n 1)), (11, e0 (.aload_n 0)), (12, .getfield 21, 6, 1, 3, 0, [20034])]),
  (25, [(15, .getfield 100, 1, 10, 0, 0, [10170]), (18, .if_icmp .ge 7, 25, 0, 0, 0, []), (21, e0 (.iconst 1)), (22, .goto 4, 26, 0, 0, 0, [])]),
  (100000, [(25, e0 (.iconst 0)), (26, e0 .ireturn)])]
def in_109 : MI := (⟨"HarbourTugs", "isShip", "(I)Z"⟩, prog_1_method_37_code, 2, some .boolean, 1, 0, 0, 22, es_109)
-- 110: HarbourTugs isSet (I)Z
def es_110 : List (Nat × List (Nat × Ent)) := [(4, [(0, e0 (.iload_n 1)), (1, e0 (.iconst 1)), (2, e0 (.iconst 1)), (3, e0 (.aload_n 0))]),
  (12, [(4, .getfield 21, 6, 1, 3, 0, [20034]), (7, .getfield 87, 1, 9, 0, 0, [10168]), (10, e0 .ishl), (11, e0 (.iconst 1))]),
  (100000, [(12, e0 .isub), (13, .invokestatic 47, 105, 3, 0, 0, [20056, 10001, 20058, 20057]), (16, e0 .ireturn)])]
def in_110 : MI := (⟨"HarbourTugs", "isSet", "(I)Z"⟩, prog_1_method_38_code, 2, some .boolean, 1, 0, 0, 22, es_110)
-- 111: HarbourTugs isPlanned (I)Z
def es_111 : List (Nat × List (Nat × Ent)) := [(6, [(0, e0 (.iload_n 1)), (1, e0 (.iconst 1)), (2, e0 (.iconst 4)), (3, .invokestatic 47, 105, 3, 0, 0, [20056, 10001, 20058, 20057])]),
  (14, [(6, .ifCond .eq 18, 24, 0, 0, 0, []), (9, e0 (.iload_n 1)), (10, e0 (.aload_n 0)), (11, .getfield 21, 6, 1, 3, 0, [20034])]),
  (24, [(14, .getfield 100, 1, 10, 0, 0, [10170]), (17, .if_icmp .gt 7, 24, 0, 0, 0, []), (20, e0 (.iconst 1)), (21, .goto 4, 25, 0, 0, 0, [])]),
  (100000, [(24, e0 (.iconst 0)), (25, e0 .ireturn)])]
def in_111 : MI := (⟨"HarbourTugs", "isPlanned", "(I)Z"⟩, prog_1_method_39_code, 2, some .boolean, 1, 0, 0, 22, es_111)
-- 112: HarbourTugs hoursAhead (I)J
def es_112 : List (Nat × List (Nat × Ent)) := [(4, [(0, e0 (.lconst 1)), (1, e0 (.iload_n 0)), (2, e0 .lshl), (3, e0 (.lconst 1))]),
  (100000, [(4, e0 .lsub), (5, e0 .lreturn)])]
def in_112 : MI := (⟨"HarbourTugs", "hoursAhead", "(I)J"⟩, prog_1_method_40_code, 1, some .long, 0, 0, 0, 0, es_112)
-- 113: HarbourTugs isIn (II)Z
def es_113 : List (Nat × List (Nat × Ent)) := [(4, [(0, e0 (.iload_n 1)), (1, e0 (.iload_n 0)), (2, e0 .iushr), (3, e0 (.iconst 1))]),
  (12, [(4, e0 .iand), (5, .ifCond .eq 7, 12, 0, 0, 0, []), (8, e0 (.iconst 1)), (9, .goto 4, 13, 0, 0, 0, [])]),
  (100000, [(12, e0 (.iconst 0)), (13, e0 .ireturn)])]
def in_113 : MI := (⟨"HarbourTugs", "isIn", "(II)Z"⟩, prog_1_method_41_code, 2, some .boolean, 0, 0, 0, 0, es_113)
-- 114: HarbourTugsModel <init> ()V
def es_114 : List (Nat × List (Nat × Ent)) := [(19, [(0, e0 (.aload_n 0)), (1, .invokespecial 1, 0, 0, 6, 0, [40052, 10019, 10020]), (4, e0 (.aload_n 0)), (5, e0 (.sipush 218)), (8, .newarray .long, 2000, 0, 0, 0, [40111]), (10, .putfield 7, 7, 0, 2220, 0, [40056]), (13, e0 (.aload_n 0)), (14, e0 (.sipush 654)), (17, .newarray .long, 2000, 0, 0, 0, [40111])]),
  (38, [(19, .putfield 13, 7, 1, 2656, 0, [40057]), (22, e0 (.aload_n 0)), (23, e0 (.bipush 6)), (25, .newarray .int, 1000, 0, 0, 0, [10036]), (27, .putfield 16, 7, 3, 1008, 0, [40059]), (30, e0 (.aload_n 0)), (31, e0 (.bipush 6)), (33, .newarray .int, 1000, 0, 0, 0, [10036]), (35, .putfield 20, 7, 4, 1008, 0, [40060])]),
  (55, [(38, e0 (.aload_n 0)), (39, e0 (.bipush 12)), (41, .newarray .int, 1000, 0, 0, 0, [10036]), (43, .putfield 23, 7, 6, 1014, 0, [40062]), (46, e0 (.aload_n 0)), (47, e0 (.bipush 12)), (49, .newarray .int, 1000, 0, 0, 0, [10036]), (51, .putfield 26, 7, 7, 1014, 0, [40063]), (54, e0 (.aload_n 0))]),
  (73, [(55, e0 (.bipush 12)), (57, .newarray .int, 1000, 0, 0, 0, [10036]), (59, .putfield 29, 7, 8, 1014, 0, [40064]), (62, e0 (.aload_n 0)), (63, e0 (.bipush 12)), (65, .newarray .int, 1000, 0, 0, 0, [10036]), (67, .putfield 32, 7, 9, 1014, 0, [40065]), (70, e0 (.aload_n 0)), (71, e0 (.bipush 22))]),
  (90, [(73, .newarray .long, 2000, 0, 0, 0, [40111]), (75, .putfield 35, 7, 12, 2024, 0, [40068]), (78, e0 (.iconst 0)), (79, e0 (.istore_n 1)), (80, e0 (.iload_n 1)), (81, e0 (.bipush 12)), (83, .if_icmp .ge 18, 101, 0, 0, 0, []), (86, e0 (.aload_n 0)), (87, .getfield 7, 7, 0, 2220, 0, [40056])]),
  (110, [(90, e0 (.iload_n 1)), (91, .ldc2_w 38, 0, 0, 0, 5, [40053]), (94, e0 .lastore), (95, e0 (.iinc 1 1)), (98, .goto (-18), 80, 0, 0, 0, []), (101, e0 (.aload_n 0)), (102, .getfield 7, 7, 0, 2220, 0, [40056]), (105, e0 (.bipush 60)), (107, .ldc2_w 40, 0, 0, 0, 2, [40054])]),
  (124, [(110, e0 .lastore), (111, e0 (.aload_n 0)), (112, .getfield 7, 7, 0, 2220, 0, [40056]), (115, e0 (.bipush 62)), (117, .ldc2_w 42, 0, 0, 0, 10, [40055]), (120, e0 .lastore), (121, e0 (.iconst 0)), (122, e0 (.istore_n 1)), (123, e0 (.iload_n 1))]),
  (139, [(124, e0 (.bipush 6)), (126, .if_icmp .ge 19, 145, 0, 0, 0, []), (129, e0 (.aload_n 0)), (130, .getfield 16, 7, 3, 1008, 0, [40059]), (133, e0 (.iload_n 1)), (134, e0 (.bipush 10)), (136, e0 (.iload_n 1)), (137, e0 .imul), (138, e0 .iastore)]),
  (100000, [(139, e0 (.iinc 1 1)), (142, .goto (-19), 123, 0, 0, 0, []), (145, e0 .return_)])]
def in_114 : MI := (⟨"HarbourTugsModel", "<init>", "()V"⟩, prog_9_method_1_code, 2, none, 1, 9, 954, 20, es_114)
-- 115: HarbourTugsModel in (JJJ)Z
def es_115 : List (Nat × List (Nat × Ent)) := [(6, [(0, e0 (.lload_n 0)), (1, e0 (.lload_n 2)), (2, e0 .lcmp), (3, .ifCond .lt 14, 17, 0, 0, 0, [])]),
  (13, [(6, e0 (.lload_n 0)), (7, e0 (.lload 4)), (9, e0 .lcmp), (10, .ifCond .gt 7, 17, 0, 0, 0, [])]),
  (100000, [(13, e0 (.iconst 1)), (14, .goto 4, 18, 0, 0, 0, []), (17, e0 (.iconst 0)), (18, e0 .ireturn)])]
def in_115 : MI := (⟨"HarbourTugsModel", "in", "(JJJ)Z"⟩, prog_9_method_2_code, 6, some .boolean, 0, 0, 0, 0, es_115)
-- 116: HarbourTugsModel isHour (I)Z
def es_116 : List (Nat × List (Nat × Ent)) := [(6, [(0, e0 (.iload_n 0)), (1, e0 .i2l), (2, e0 (.lconst 0)), (3, .ldc2_w 44, 0, 0, 0, 47, [40128])]),
  (100000, [(6, .invokestatic 46, 115, 3, 0, 0, [40117, 10008, 40119, 40118]), (9, e0 .ireturn)])]
def in_116 : MI := (⟨"HarbourTugsModel", "isHour", "(I)Z"⟩, prog_9_method_3_code, 1, some .boolean, 1, 0, 0, 25, es_116)
-- 117: HarbourTugsModel ofTug (II)I
def es_117 : List (Nat × List (Nat × Ent)) := [(8, [(0, e0 (.aload_n 0)), (1, .getfield 7, 7, 0, 2220, 0, [40056]), (4, e0 (.bipush 70)), (6, e0 (.bipush 10))]),
  (12, [(8, e0 (.iload_n 1)), (9, e0 .imul), (10, e0 .iadd), (11, e0 (.iload_n 2))]),
  (100000, [(12, e0 .iadd), (13, e0 .laload), (14, e0 .l2i), (15, e0 .ireturn)])]
def in_117 : MI := (⟨"HarbourTugsModel", "ofTug", "(II)I"⟩, prog_9_method_4_code, 3, some .int, 0, 0, 0, 0, es_117)
-- 118: HarbourTugsModel ofShip (II)I
def es_118 : List (Nat × List (Nat × Ent)) := [(9, [(0, e0 (.aload_n 0)), (1, .getfield 7, 7, 0, 2220, 0, [40056]), (4, e0 (.sipush 130)), (7, e0 (.bipush 11))]),
  (13, [(9, e0 (.iload_n 1)), (10, e0 .imul), (11, e0 .iadd), (12, e0 (.iload_n 2))]),
  (100000, [(13, e0 .iadd), (14, e0 .laload), (15, e0 .l2i), (16, e0 .ireturn)])]
def in_118 : MI := (⟨"HarbourTugsModel", "ofShip", "(II)I"⟩, prog_9_method_5_code, 3, some .int, 0, 0, 0, 0, es_118)
-- 119: HarbourTugsModel isTug (I)Z
def es_119 : List (Nat × List (Nat × Ent)) := [(4, [(0, e0 (.iload_n 1)), (1, e0 .i2l), (2, e0 (.lconst 0)), (3, e0 (.aload_n 0))]),
  (11, [(4, .getfield 7, 7, 0, 2220, 0, [40056]), (7, e0 (.bipush 64)), (9, e0 .laload), (10, e0 (.lconst 1))]),
  (100000, [(11, e0 .lsub), (12, .invokestatic 46, 115, 3, 0, 0, [40117, 10008, 40119, 40118]), (15, e0 .ireturn)])]
def in_119 : MI := (⟨"HarbourTugsModel", "isTug", "(I)Z"⟩, prog_9_method_6_code, 2, some .boolean, 1, 0, 0, 25, es_119)
-- 120: HarbourTugsModel isShip (I)Z
def es_120 : List (Nat × List (Nat × Ent)) := [(4, [(0, e0 (.iload_n 1)), (1, e0 .i2l), (2, e0 (.lconst 0)), (3, e0 (.aload_n 0))]),
  (11, [(4, .getfield 7, 7, 0, 2220, 0, [40056]), (7, e0 (.bipush 65)), (9, e0 .laload), (10, e0 (.lconst 1))]),
  (100000, [(11, e0 .lsub), (12, .invokestatic 46, 115, 3, 0, 0, [40117, 10008, 40119, 40118]), (15, e0 .ireturn)])]
def in_120 : MI := (⟨"HarbourTugsModel", "isShip", "(I)Z"⟩, prog_9_method_7_code, 2, some .boolean, 1, 0, 0, 25, es_120)
-- 121: HarbourTugsModel isBerth (I)Z
def es_121 : List (Nat × List (Nat × Ent)) := [(6, [(0, e0 (.iload_n 0)), (1, e0 .i2l), (2, e0 (.lconst 0)), (3, .ldc2_w 38, 0, 0, 0, 5, [40053])]),
  (100000, [(6, .invokestatic 46, 115, 3, 0, 0, [40117, 10008, 40119, 40118]), (9, e0 .ireturn)])]
def in_121 : MI := (⟨"HarbourTugsModel", "isBerth", "(I)Z"⟩, prog_9_method_8_code, 1, some .boolean, 1, 0, 0, 25, es_121)
-- 122: HarbourTugsModel tide (II)I
def es_122 : List (Nat × List (Nat × Ent)) := [(12, [(0, e0 (.iload_n 1)), (1, e0 .i2l), (2, e0 (.lconst 0)), (3, .ldc2_w 50, 0, 0, 0, 11, [40116]), (6, .invokestatic 46, 115, 3, 0, 0, [40117, 10008, 40119, 40118]), (9, .ifCond .eq 15, 24, 0, 0, 0, [])]),
  (24, [(12, e0 (.iload_n 2)), (13, e0 .i2l), (14, e0 (.lconst 0)), (15, .ldc2_w 52, 0, 0, 0, 9, [40120]), (18, .invokestatic 46, 115, 3, 0, 0, [40117, 10008, 40119, 40118]), (21, .ifCond .ne 5, 26, 0, 0, 0, [])]),
  (32, [(24, e0 (.iconst (-1))), (25, e0 .ireturn), (26, e0 (.aload_n 0)), (27, .getfield 7, 7, 0, 2220, 0, [40056]), (30, e0 (.iload_n 1)), (31, e0 .laload)]),
  (40, [(32, e0 .l2i), (33, e0 (.istore_n 3)), (34, e0 (.aload_n 0)), (35, .getfield 7, 7, 0, 2220, 0, [40056]), (38, e0 (.iload_n 1)), (39, e0 (.iload_n 2))]),
  (100000, [(40, e0 .i2l), (41, e0 .lastore), (42, e0 (.iload_n 3)), (43, e0 .ireturn)])]
def in_122 : MI := (⟨"HarbourTugsModel", "tide", "(II)I"⟩, prog_9_method_9_code, 4, some .int, 1, 0, 0, 25, es_122)
-- 123: HarbourTugsModel wind (II)I
def es_123 : List (Nat × List (Nat × Ent)) := [(10, [(0, e0 (.iload_n 1)), (1, .invokestatic 54, 116, 1, 0, 0, [40125, 10008, 40127, 40126]), (4, .ifCond .eq 15, 19, 0, 0, 0, []), (7, e0 (.iload_n 2)), (8, e0 .i2l), (9, e0 (.lconst 0))]),
  (22, [(10, .ldc2_w 52, 0, 0, 0, 9, [40120]), (13, .invokestatic 46, 115, 3, 0, 0, [40117, 10008, 40119, 40118]), (16, .ifCond .ne 5, 21, 0, 0, 0, []), (19, e0 (.iconst (-1))), (20, e0 .ireturn), (21, e0 (.aload_n 0))]),
  (31, [(22, .getfield 7, 7, 0, 2220, 0, [40056]), (25, e0 (.bipush 12)), (27, e0 (.iload_n 1)), (28, e0 .iadd), (29, e0 .laload), (30, e0 .l2i)]),
  (40, [(31, e0 (.istore_n 3)), (32, e0 (.aload_n 0)), (33, .getfield 7, 7, 0, 2220, 0, [40056]), (36, e0 (.bipush 12)), (38, e0 (.iload_n 1)), (39, e0 .iadd)]),
  (100000, [(40, e0 (.iload_n 2)), (41, e0 .i2l), (42, e0 .lastore), (43, e0 (.iload_n 3)), (44, e0 .ireturn)])]
def in_123 : MI := (⟨"HarbourTugsModel", "wind", "(II)I"⟩, prog_9_method_10_code, 4, some .int, 2, 0, 0, 45, es_123)
-- 124: HarbourTugsModel rule (II)I
def es_124 : List (Nat × List (Nat × Ent)) := [(13, [(0, e0 (.iload_n 1)), (1, e0 .i2l), (2, e0 (.lconst 0)), (3, .ldc2_w 40, 0, 0, 0, 2, [40054]), (6, .invokestatic 46, 115, 3, 0, 0, [40117, 10008, 40119, 40118]), (9, .ifCond .eq 43, 52, 0, 0, 0, []), (12, e0 (.iload_n 2))]),
  (24, [(13, e0 .i2l), (14, e0 (.iload_n 1)), (15, e0 (.iconst 2)), (16, .if_icmp .ne 7, 23, 0, 0, 0, []), (19, e0 (.lconst 1)), (20, .goto 4, 24, 0, 0, 0, []), (23, e0 (.lconst 0))]),
  (39, [(24, e0 (.iload_n 1)), (25, .ifCond .ne 9, 34, 0, 0, 0, []), (28, .ldc2_w 58, 0, 0, 0, 6, [40133]), (31, .goto 15, 46, 0, 0, 0, []), (34, e0 (.iload_n 1)), (35, e0 (.iconst 1)), (36, .if_icmp .ne 7, 43, 0, 0, 0, [])]),
  (54, [(39, e0 (.lconst 1)), (40, .goto 6, 46, 0, 0, 0, []), (43, .ldc2_w 60, 0, 0, 0, 30, [40134]), (46, .invokestatic 46, 115, 3, 0, 0, [40117, 10008, 40119, 40118]), (49, .ifCond .ne 5, 54, 0, 0, 0, []), (52, e0 (.iconst (-1))), (53, e0 .ireturn)]),
  (64, [(54, e0 (.aload_n 0)), (55, .getfield 7, 7, 0, 2220, 0, [40056]), (58, e0 (.bipush 60)), (60, e0 (.iload_n 1)), (61, e0 .iadd), (62, e0 .laload), (63, e0 .l2i)]),
  (74, [(64, e0 (.istore_n 3)), (65, e0 (.aload_n 0)), (66, .getfield 7, 7, 0, 2220, 0, [40056]), (69, e0 (.bipush 60)), (71, e0 (.iload_n 1)), (72, e0 .iadd), (73, e0 (.iload_n 2))]),
  (100000, [(74, e0 .i2l), (75, e0 .lastore), (76, e0 (.iload_n 3)), (77, e0 .ireturn)])]
def in_124 : MI := (⟨"HarbourTugsModel", "rule", "(II)I"⟩, prog_9_method_11_code, 4, some .int, 1, 0, 0, 25, es_124)
-- 125: HarbourTugsModel hasJob (I)Z
def es_125 : List (Nat × List (Nat × Ent)) := [(7, [(0, e0 (.aload_n 0)), (1, e0 (.iload_n 1)), (2, e0 (.bipush 7)), (4, .invokevirtual 62, 118, 2, 72, 0, [40147, 10008, 40150, 40149, 27])]),
  (15, [(7, .ifCond .lt 7, 14, 0, 0, 0, []), (10, e0 (.iconst 1)), (11, .goto 4, 15, 0, 0, 0, []), (14, e0 (.iconst 0))]),
  (100000, [(15, e0 .ireturn)])]
def in_125 : MI := (⟨"HarbourTugsModel", "hasJob", "(I)Z"⟩, prog_9_method_12_code, 2, some .boolean, 1, 0, 0, 22, es_125)
-- 126: HarbourTugsModel berth (III)I
def es_126 : List (Nat × List (Nat × Ent)) := [(18, [(0, e0 (.iload_n 1)), (1, .invokestatic 66, 121, 1, 0, 0, [40139, 10008, 40141, 40140]), (4, .ifCond .eq 33, 37, 0, 0, 0, []), (7, e0 (.iload_n 2)), (8, e0 .i2l), (9, e0 (.lconst 0)), (10, e0 (.lconst 1)), (11, .invokestatic 46, 115, 3, 0, 0, [40117, 10008, 40119, 40118]), (14, .ifCond .eq 23, 37, 0, 0, 0, []), (17, e0 (.iload_n 3))]),
  (38, [(18, e0 .i2l), (19, e0 (.lconst 0)), (20, e0 (.iload_n 2)), (21, .ifCond .ne 9, 30, 0, 0, 0, []), (24, .ldc2_w 69, 0, 0, 0, 60, [40142]), (27, .goto 4, 31, 0, 0, 0, []), (30, e0 (.lconst 1)), (31, .invokestatic 46, 115, 3, 0, 0, [40117, 10008, 40119, 40118]), (34, .ifCond .ne 5, 39, 0, 0, 0, []), (37, e0 (.iconst (-1)))]),
  (53, [(38, e0 .ireturn), (39, e0 (.iconst 0)), (40, e0 (.istore 4)), (42, e0 (.iload 4)), (44, e0 .i2l), (45, e0 (.aload_n 0)), (46, .getfield 7, 7, 0, 2220, 0, [40056]), (49, e0 (.bipush 65)), (51, e0 .laload), (52, e0 .lcmp)]),
  (73, [(53, .ifCond .ge 44, 97, 0, 0, 0, []), (56, e0 (.aload_n 0)), (57, e0 (.iload 4)), (59, .invokevirtual 71, 125, 1, 72, 0, [40143, 10008, 40146, 40145, 26]), (62, .ifCond .eq 29, 91, 0, 0, 0, []), (65, e0 (.aload_n 0)), (66, e0 (.iload 4)), (68, e0 (.iconst 5)), (69, .invokevirtual 62, 118, 2, 72, 0, [40147, 10008, 40150, 40149, 27]), (72, e0 (.iload_n 1))]),
  (94, [(73, .if_icmp .eq 15, 88, 0, 0, 0, []), (76, e0 (.aload_n 0)), (77, e0 (.iload 4)), (79, e0 (.bipush 6)), (81, .invokevirtual 62, 118, 2, 72, 0, [40147, 10008, 40150, 40149, 27]), (84, e0 (.iload_n 1)), (85, .if_icmp .ne 6, 91, 0, 0, 0, []), (88, e0 (.bipush (-2))), (90, e0 .ireturn), (91, e0 (.iinc 4 1))]),
  (114, [(94, .goto (-52), 42, 0, 0, 0, []), (97, e0 (.iload_n 2)), (98, .ifCond .ne 12, 110, 0, 0, 0, []), (101, e0 (.aload_n 0)), (102, .getfield 16, 7, 3, 1008, 0, [40059]), (105, e0 (.iload_n 1)), (106, e0 .iaload), (107, .goto 9, 116, 0, 0, 0, []), (110, e0 (.aload_n 0)), (111, .getfield 20, 7, 4, 1008, 0, [40060])]),
  (131, [(114, e0 (.iload_n 1)), (115, e0 .iaload), (116, e0 (.istore 4)), (118, e0 (.aload_n 0)), (119, .getfield 16, 7, 3, 1008, 0, [40059]), (122, e0 (.iload_n 1)), (123, e0 (.iload_n 2)), (124, .ifCond .ne 7, 131, 0, 0, 0, []), (127, e0 (.iload_n 3)), (128, .goto 9, 137, 0, 0, 0, [])]),
  (145, [(131, e0 (.aload_n 0)), (132, .getfield 16, 7, 3, 1008, 0, [40059]), (135, e0 (.iload_n 1)), (136, e0 .iaload), (137, e0 .iastore), (138, e0 (.aload_n 0)), (139, .getfield 20, 7, 4, 1008, 0, [40060]), (142, e0 (.iload_n 1)), (143, e0 (.iload_n 2)), (144, e0 (.iconst 1))]),
  (100000, [(145, .if_icmp .ne 7, 152, 0, 0, 0, []), (148, e0 (.iload_n 3)), (149, .goto 9, 158, 0, 0, 0, []), (152, e0 (.aload_n 0)), (153, .getfield 20, 7, 4, 1008, 0, [40060]), (156, e0 (.iload_n 1)), (157, e0 .iaload), (158, e0 .iastore), (159, e0 (.iload 4)), (161, e0 .ireturn)])]
def in_126 : MI := (⟨"HarbourTugsModel", "berth", "(III)I"⟩, prog_9_method_13_code, 5, some .int, 2, 0, 0, 45, es_126)
-- 127: HarbourTugsModel wayOf (II)I
def es_127 : List (Nat × List (Nat × Ent)) := [(11, [(0, e0 (.aload_n 0)), (1, .getfield 16, 7, 3, 1008, 0, [40059]), (4, e0 (.iload_n 1)), (5, e0 .iaload), (6, e0 (.aload_n 0)), (7, .getfield 16, 7, 3, 1008, 0, [40059]), (10, e0 (.iload_n 2))]),
  (22, [(11, e0 .iaload), (12, .if_icmp .ge 19, 31, 0, 0, 0, []), (15, e0 (.aload_n 0)), (16, .getfield 16, 7, 3, 1008, 0, [40059]), (19, e0 (.iload_n 2)), (20, e0 .iaload), (21, e0 (.aload_n 0))]),
  (35, [(22, .getfield 16, 7, 3, 1008, 0, [40059]), (25, e0 (.iload_n 1)), (26, e0 .iaload), (27, e0 .isub), (28, .goto 16, 44, 0, 0, 0, []), (31, e0 (.aload_n 0)), (32, .getfield 16, 7, 3, 1008, 0, [40059])]),
  (44, [(35, e0 (.iload_n 1)), (36, e0 .iaload), (37, e0 (.aload_n 0)), (38, .getfield 16, 7, 3, 1008, 0, [40059]), (41, e0 (.iload_n 2)), (42, e0 .iaload), (43, e0 .isub)]),
  (55, [(44, e0 (.istore_n 3)), (45, e0 (.aload_n 0)), (46, .getfield 7, 7, 0, 2220, 0, [40056]), (49, e0 (.bipush 62)), (51, e0 .laload), (52, e0 .l2i), (53, e0 (.istore 4))]),
  (64, [(55, e0 (.iload_n 3)), (56, e0 (.iload 4)), (58, e0 .iadd), (59, e0 (.iconst 1)), (60, e0 .isub), (61, e0 (.iload 4)), (63, e0 .idiv)]),
  (100000, [(64, e0 .ireturn)])]
def in_127 : MI := (⟨"HarbourTugsModel", "wayOf", "(II)I"⟩, prog_9_method_14_code, 5, some .int, 0, 0, 0, 0, es_127)
-- 128: HarbourTugsModel way (II)I
def es_128 : List (Nat × List (Nat × Ent)) := [(8, [(0, e0 (.iload_n 1)), (1, .invokestatic 66, 121, 1, 0, 0, [40139, 10008, 40141, 40140]), (4, .ifCond .eq 19, 23, 0, 0, 0, []), (7, e0 (.iload_n 2))]),
  (16, [(8, .invokestatic 66, 121, 1, 0, 0, [40139, 10008, 40141, 40140]), (11, .ifCond .eq 12, 23, 0, 0, 0, []), (14, e0 (.aload_n 0)), (15, e0 (.iload_n 1))]),
  (24, [(16, e0 (.iload_n 2)), (17, .invokevirtual 74, 127, 2, 72, 0, [40155, 10008, 40158, 40157, 28]), (20, .goto 4, 24, 0, 0, 0, []), (23, e0 (.iconst (-1)))]),
  (100000, [(24, e0 .ireturn)])]
def in_128 : MI := (⟨"HarbourTugsModel", "way", "(II)I"⟩, prog_9_method_15_code, 3, some .int, 2, 0, 0, 45, es_128)
-- 129: HarbourTugsModel tug (IIIIIII)I
def es_129 : List (Nat × List (Nat × Ent)) := [(23, [(0, e0 (.iload_n 1)), (1, e0 .i2l), (2, e0 (.lconst 0)), (3, e0 (.lconst 1)), (4, .invokestatic 46, 115, 3, 0, 0, [40117, 10008, 40119, 40118]), (7, .ifCond .eq 72, 79, 0, 0, 0, []), (10, e0 (.iload_n 2)), (11, e0 .i2l), (12, e0 (.lconst 1)), (13, .ldc2_w 69, 0, 0, 0, 60, [40142]), (16, .invokestatic 46, 115, 3, 0, 0, [40117, 10008, 40119, 40118]), (19, .ifCond .eq 60, 79, 0, 0, 0, []), (22, e0 (.iload_n 3))]),
  (48, [(23, e0 .i2l), (24, e0 (.lconst 0)), (25, e0 (.lconst 1)), (26, .invokestatic 46, 115, 3, 0, 0, [40117, 10008, 40119, 40118]), (29, .ifCond .eq 50, 79, 0, 0, 0, []), (32, e0 (.iload 5)), (34, e0 .i2l), (35, e0 (.lconst 1)), (36, .ldc2_w 77, 0, 0, 0, 48, [40163]), (39, .invokestatic 46, 115, 3, 0, 0, [40117, 10008, 40119, 40118]), (42, .ifCond .eq 37, 79, 0, 0, 0, []), (45, e0 (.iload 4)), (47, e0 .i2l)]),
  (76, [(48, e0 (.lconst 0)), (49, e0 (.iload 5)), (51, e0 .i2l), (52, .invokestatic 46, 115, 3, 0, 0, [40117, 10008, 40119, 40118]), (55, .ifCond .eq 24, 79, 0, 0, 0, []), (58, e0 (.iload 6)), (60, e0 .i2l), (61, e0 (.lconst 1)), (62, .ldc2_w 79, 0, 0, 0, 12, [40164]), (65, .invokestatic 46, 115, 3, 0, 0, [40117, 10008, 40119, 40118]), (68, .ifCond .eq 11, 79, 0, 0, 0, []), (71, e0 (.iload 7)), (73, .invokestatic 66, 121, 1, 0, 0, [40139, 10008, 40141, 40140])]),
  (100, [(76, .ifCond .ne 5, 81, 0, 0, 0, []), (79, e0 (.iconst (-1))), (80, e0 .ireturn), (81, e0 (.aload_n 0)), (82, .getfield 7, 7, 0, 2220, 0, [40056]), (85, e0 (.bipush 64)), (87, e0 .laload), (88, .ldc2_w 58, 0, 0, 0, 6, [40133]), (91, e0 .lcmp), (92, .ifCond .ne 6, 98, 0, 0, 0, []), (95, e0 (.bipush (-3))), (97, e0 .ireturn), (98, e0 (.bipush 70))]),
  (121, [(100, e0 (.bipush 10)), (102, e0 (.aload_n 0)), (103, .getfield 7, 7, 0, 2220, 0, [40056]), (106, e0 (.bipush 64)), (108, e0 .laload), (109, e0 .l2i), (110, e0 .imul), (111, e0 .iadd), (112, e0 (.istore 8)), (114, e0 (.aload_n 0)), (115, .getfield 7, 7, 0, 2220, 0, [40056]), (118, e0 (.iload 8)), (120, e0 (.iconst 0))]),
  (137, [(121, e0 .iadd), (122, e0 (.iload_n 1)), (123, e0 .i2l), (124, e0 .lastore), (125, e0 (.aload_n 0)), (126, .getfield 7, 7, 0, 2220, 0, [40056]), (129, e0 (.iload 8)), (131, e0 (.iconst 1)), (132, e0 .iadd), (133, e0 (.iload_n 2)), (134, e0 .i2l), (135, e0 .lastore), (136, e0 (.aload_n 0))]),
  (157, [(137, .getfield 7, 7, 0, 2220, 0, [40056]), (140, e0 (.iload 8)), (142, e0 (.iconst 2)), (143, e0 .iadd), (144, e0 (.iload_n 3)), (145, e0 .i2l), (146, e0 .lastore), (147, e0 (.aload_n 0)), (148, .getfield 7, 7, 0, 2220, 0, [40056]), (151, e0 (.iload 8)), (153, e0 (.iconst 3)), (154, e0 .iadd), (155, e0 (.iload 4))]),
  (177, [(157, e0 .i2l), (158, e0 .lastore), (159, e0 (.aload_n 0)), (160, .getfield 7, 7, 0, 2220, 0, [40056]), (163, e0 (.iload 8)), (165, e0 (.iconst 4)), (166, e0 .iadd), (167, e0 (.iload 5)), (169, e0 .i2l), (170, e0 .lastore), (171, e0 (.aload_n 0)), (172, .getfield 7, 7, 0, 2220, 0, [40056]), (175, e0 (.iload 8))]),
  (196, [(177, e0 (.iconst 5)), (178, e0 .iadd), (179, e0 (.iload 6)), (181, e0 .i2l), (182, e0 .lastore), (183, e0 (.aload_n 0)), (184, .getfield 7, 7, 0, 2220, 0, [40056]), (187, e0 (.iload 8)), (189, e0 (.bipush 6)), (191, e0 .iadd), (192, e0 (.iload 7)), (194, e0 .i2l), (195, e0 .lastore)]),
  (219, [(196, e0 (.aload_n 0)), (197, .getfield 7, 7, 0, 2220, 0, [40056]), (200, e0 (.iload 8)), (202, e0 (.bipush 7)), (204, e0 .iadd), (205, .ldc2_w 77, 0, 0, 0, 48, [40163]), (208, e0 .lastore), (209, e0 (.aload_n 0)), (210, .getfield 7, 7, 0, 2220, 0, [40056]), (213, e0 (.iload 8)), (215, e0 (.bipush 8)), (217, e0 .iadd), (218, e0 (.lconst 0))]),
  (239, [(219, e0 .lastore), (220, e0 (.aload_n 0)), (221, .getfield 7, 7, 0, 2220, 0, [40056]), (224, e0 (.iload 8)), (226, e0 (.bipush 9)), (228, e0 .iadd), (229, e0 (.lconst 0)), (230, e0 .lastore), (231, e0 (.aload_n 0)), (232, .getfield 7, 7, 0, 2220, 0, [40056]), (235, e0 (.bipush 64)), (237, e0 .dup2), (238, e0 .laload)]),
  (100000, [(239, e0 (.lconst 1)), (240, e0 .ladd), (241, e0 .lastore), (242, e0 (.aload_n 0)), (243, .getfield 7, 7, 0, 2220, 0, [40056]), (246, e0 (.bipush 64)), (248, e0 .laload), (249, e0 .l2i), (250, e0 (.iconst 1)), (251, e0 .isub), (252, e0 .ireturn)])]
def in_129 : MI := (⟨"HarbourTugsModel", "tug", "(IIIIIII)I"⟩, prog_9_method_16_code, 9, some .int, 2, 0, 0, 45, es_129)
-- 130: HarbourTugsModel ship (IIIIIII)I
def es_130 : List (Nat × List (Nat × Ent)) := [(24, [(0, e0 (.iload_n 1)), (1, e0 .i2l), (2, e0 (.lconst 1)), (3, .ldc2_w 81, 0, 0, 0, 50, [40169]), (6, .invokestatic 46, 115, 3, 0, 0, [40117, 10008, 40119, 40118]), (9, .ifCond .eq 64, 73, 0, 0, 0, []), (12, e0 (.iload_n 2)), (13, e0 .i2l), (14, e0 (.lconst 0)), (15, .ldc2_w 52, 0, 0, 0, 9, [40120]), (18, .invokestatic 46, 115, 3, 0, 0, [40117, 10008, 40119, 40118]), (21, .ifCond .eq 52, 73, 0, 0, 0, [])]),
  (48, [(24, e0 (.iload_n 3)), (25, .invokestatic 54, 116, 1, 0, 0, [40125, 10008, 40127, 40126]), (28, .ifCond .eq 45, 73, 0, 0, 0, []), (31, e0 (.iload 4)), (33, e0 .i2l), (34, e0 (.lconst 1)), (35, .ldc2_w 83, 0, 0, 0, 4, [40170]), (38, .invokestatic 46, 115, 3, 0, 0, [40117, 10008, 40119, 40118]), (41, .ifCond .eq 32, 73, 0, 0, 0, []), (44, e0 (.iload 5)), (46, e0 .i2l), (47, e0 (.lconst 1))]),
  (76, [(48, .ldc2_w 85, 0, 0, 0, 20, [40171]), (51, .invokestatic 46, 115, 3, 0, 0, [40117, 10008, 40119, 40118]), (54, .ifCond .eq 19, 73, 0, 0, 0, []), (57, e0 (.iload 6)), (59, .invokestatic 66, 121, 1, 0, 0, [40139, 10008, 40141, 40140]), (62, .ifCond .eq 11, 73, 0, 0, 0, []), (65, e0 (.iload 7)), (67, .invokestatic 66, 121, 1, 0, 0, [40139, 10008, 40141, 40140]), (70, .ifCond .ne 5, 75, 0, 0, 0, []), (73, e0 (.iconst (-1))), (74, e0 .ireturn), (75, e0 (.aload_n 0))]),
  (101, [(76, .getfield 7, 7, 0, 2220, 0, [40056]), (79, e0 (.bipush 65)), (81, e0 .laload), (82, .ldc2_w 87, 0, 0, 0, 8, [40172]), (85, e0 .lcmp), (86, .ifCond .ne 6, 92, 0, 0, 0, []), (89, e0 (.bipush (-3))), (91, e0 .ireturn), (92, e0 (.sipush 130)), (95, e0 (.bipush 11)), (97, e0 (.aload_n 0)), (98, .getfield 7, 7, 0, 2220, 0, [40056])]),
  (118, [(101, e0 (.bipush 65)), (103, e0 .laload), (104, e0 .l2i), (105, e0 .imul), (106, e0 .iadd), (107, e0 (.istore 8)), (109, e0 (.aload_n 0)), (110, .getfield 7, 7, 0, 2220, 0, [40056]), (113, e0 (.iload 8)), (115, e0 (.iconst 0)), (116, e0 .iadd), (117, e0 (.iload_n 1))]),
  (135, [(118, e0 .i2l), (119, e0 .lastore), (120, e0 (.aload_n 0)), (121, .getfield 7, 7, 0, 2220, 0, [40056]), (124, e0 (.iload 8)), (126, e0 (.iconst 1)), (127, e0 .iadd), (128, e0 (.iload_n 2)), (129, e0 .i2l), (130, e0 .lastore), (131, e0 (.aload_n 0)), (132, .getfield 7, 7, 0, 2220, 0, [40056])]),
  (152, [(135, e0 (.iload 8)), (137, e0 (.iconst 2)), (138, e0 .iadd), (139, e0 (.iload_n 3)), (140, e0 .i2l), (141, e0 .lastore), (142, e0 (.aload_n 0)), (143, .getfield 7, 7, 0, 2220, 0, [40056]), (146, e0 (.iload 8)), (148, e0 (.iconst 3)), (149, e0 .iadd), (150, e0 (.iload 4))]),
  (170, [(152, e0 .i2l), (153, e0 .lastore), (154, e0 (.aload_n 0)), (155, .getfield 7, 7, 0, 2220, 0, [40056]), (158, e0 (.iload 8)), (160, e0 (.iconst 4)), (161, e0 .iadd), (162, e0 (.iload 5)), (164, e0 .i2l), (165, e0 .lastore), (166, e0 (.aload_n 0)), (167, .getfield 7, 7, 0, 2220, 0, [40056])]),
  (189, [(170, e0 (.iload 8)), (172, e0 (.iconst 5)), (173, e0 .iadd), (174, e0 (.iload 6)), (176, e0 .i2l), (177, e0 .lastore), (178, e0 (.aload_n 0)), (179, .getfield 7, 7, 0, 2220, 0, [40056]), (182, e0 (.iload 8)), (184, e0 (.bipush 6)), (186, e0 .iadd), (187, e0 (.iload 7))]),
  (210, [(189, e0 .i2l), (190, e0 .lastore), (191, e0 (.aload_n 0)), (192, .getfield 7, 7, 0, 2220, 0, [40056]), (195, e0 (.iload 8)), (197, e0 (.bipush 7)), (199, e0 .iadd), (200, .ldc2_w 89, 0, 0, 0, (-4), [40173]), (203, e0 .lastore), (204, e0 (.aload_n 0)), (205, .getfield 7, 7, 0, 2220, 0, [40056]), (208, e0 (.iload 8))]),
  (226, [(210, e0 (.bipush 8)), (212, e0 .iadd), (213, e0 (.lconst 0)), (214, e0 .lastore), (215, e0 (.aload_n 0)), (216, .getfield 7, 7, 0, 2220, 0, [40056]), (219, e0 (.bipush 65)), (221, e0 .dup2), (222, e0 .laload), (223, e0 (.lconst 1)), (224, e0 .ladd), (225, e0 .lastore)]),
  (100000, [(226, e0 (.aload_n 0)), (227, .getfield 7, 7, 0, 2220, 0, [40056]), (230, e0 (.bipush 65)), (232, e0 .laload), (233, e0 .l2i), (234, e0 (.iconst 1)), (235, e0 .isub), (236, e0 .ireturn)])]
def in_130 : MI := (⟨"HarbourTugsModel", "ship", "(IIIIIII)I"⟩, prog_9_method_17_code, 9, some .int, 2, 0, 0, 45, es_130)
-- 131: HarbourTugsModel needsOf (II)I
def es_131 : List (Nat × List (Nat × Ent)) := [(7, [(0, e0 (.aload_n 0)), (1, e0 (.iload_n 1)), (2, e0 (.iconst 0)), (3, .invokevirtual 62, 118, 2, 72, 0, [40147, 10008, 40150, 40149, 27]), (6, e0 (.aload_n 0))]),
  (16, [(7, e0 (.iload_n 1)), (8, e0 (.iconst 0)), (9, .invokevirtual 62, 118, 2, 72, 0, [40147, 10008, 40150, 40149, 27]), (12, e0 (.aload_n 0)), (13, .getfield 7, 7, 0, 2220, 0, [40056])]),
  (22, [(16, e0 (.bipush 12)), (18, e0 (.iload_n 2)), (19, e0 .iadd), (20, e0 .laload), (21, e0 .l2i)]),
  (100000, [(22, e0 .imul), (23, e0 (.iconst 5)), (24, e0 .idiv), (25, e0 .iadd), (26, e0 .ireturn)])]
def in_131 : MI := (⟨"HarbourTugsModel", "needsOf", "(II)I"⟩, prog_9_method_18_code, 3, some .int, 1, 0, 0, 22, es_131)
-- 132: HarbourTugsModel needs (II)I
def es_132 : List (Nat × List (Nat × Ent)) := [(8, [(0, e0 (.aload_n 0)), (1, e0 (.iload_n 1)), (2, .invokevirtual 91, 120, 1, 72, 0, [40178, 10008, 40181, 40180, 29]), (5, .ifCond .eq 19, 24, 0, 0, 0, [])]),
  (16, [(8, e0 (.iload_n 2)), (9, .invokestatic 54, 116, 1, 0, 0, [40125, 10008, 40127, 40126]), (12, .ifCond .eq 12, 24, 0, 0, 0, []), (15, e0 (.aload_n 0))]),
  (24, [(16, e0 (.iload_n 1)), (17, e0 (.iload_n 2)), (18, .invokevirtual 94, 131, 2, 72, 0, [40182, 10008, 40185, 40184, 30]), (21, .goto 4, 25, 0, 0, 0, [])]),
  (100000, [(24, e0 (.iconst (-1))), (25, e0 .ireturn)])]
def in_132 : MI := (⟨"HarbourTugsModel", "needs", "(II)I"⟩, prog_9_method_19_code, 3, some .int, 2, 0, 0, 46, es_132)
-- 133: HarbourTugsModel has (JI)Z
def es_133 : List (Nat × List (Nat × Ent)) := [(4, [(0, e0 (.lload_n 0)), (1, e0 (.iload_n 2)), (2, e0 .lshr), (3, e0 (.lconst 1))]),
  (10, [(4, e0 .land), (5, e0 (.lconst 1)), (6, e0 .lcmp), (7, .ifCond .ne 7, 14, 0, 0, 0, [])]),
  (100000, [(10, e0 (.iconst 1)), (11, .goto 4, 15, 0, 0, 0, []), (14, e0 (.iconst 0)), (15, e0 .ireturn)])]
def in_133 : MI := (⟨"HarbourTugsModel", "has", "(JI)Z"⟩, prog_9_method_20_code, 3, some .boolean, 0, 0, 0, 0, es_133)
-- 134: HarbourTugsModel hours (II)J
def es_134 : List (Nat × List (Nat × Ent)) := [(4, [(0, e0 (.lconst 1)), (1, e0 (.iload_n 1)), (2, e0 .lshl), (3, e0 (.lconst 1))]),
  (100000, [(4, e0 (.iload_n 0)), (5, e0 .lshl), (6, e0 .lsub), (7, e0 .lreturn)])]
def in_134 : MI := (⟨"HarbourTugsModel", "hours", "(II)J"⟩, prog_9_method_21_code, 2, some .long, 0, 0, 0, 0, es_134)
-- 135: HarbourTugsModel workOf (I)J
def es_135 : List (Nat × List (Nat × Ent)) := [(8, [(0, e0 (.aload_n 0)), (1, .getfield 7, 7, 0, 2220, 0, [40056]), (4, e0 (.bipush 70)), (6, e0 (.bipush 10))]),
  (13, [(8, e0 (.iload_n 1)), (9, e0 .imul), (10, e0 .iadd), (11, e0 (.bipush 8))]),
  (100000, [(13, e0 .iadd), (14, e0 .laload), (15, e0 .lreturn)])]
def in_135 : MI := (⟨"HarbourTugsModel", "workOf", "(I)J"⟩, prog_9_method_22_code, 2, some .long, 0, 0, 0, 0, es_135)
-- 136: HarbourTugsModel bunkersOf (I)J
def es_136 : List (Nat × List (Nat × Ent)) := [(8, [(0, e0 (.aload_n 0)), (1, .getfield 7, 7, 0, 2220, 0, [40056]), (4, e0 (.bipush 70)), (6, e0 (.bipush 10))]),
  (13, [(8, e0 (.iload_n 1)), (9, e0 .imul), (10, e0 .iadd), (11, e0 (.bipush 9))]),
  (100000, [(13, e0 .iadd), (14, e0 .laload), (15, e0 .lreturn)])]
def in_136 : MI := (⟨"HarbourTugsModel", "bunkersOf", "(I)J"⟩, prog_9_method_23_code, 2, some .long, 0, 0, 0, 0, es_136)
-- 137: HarbourTugsModel fuelBehind (IJI)I
def es_137 : List (Nat × List (Nat × Ent)) := [(13, [(0, e0 (.aload_n 0)), (1, e0 (.iload_n 1)), (2, e0 (.iconst 3)), (3, .invokevirtual 97, 117, 2, 72, 0, [40203, 10008, 40206, 40205, 34]), (6, e0 (.istore 5)), (8, e0 (.iconst 0)), (9, e0 (.istore 6)), (11, e0 (.iload 6))]),
  (31, [(13, e0 (.iload 4)), (15, .if_icmp .gt 81, 96, 0, 0, 0, []), (18, e0 (.iload 5)), (20, .ifCond .lt 76, 96, 0, 0, 0, []), (23, e0 (.iload 5)), (25, e0 (.lload_n 2)), (26, e0 (.iload 6)), (28, .invokestatic 100, 133, 2, 0, 0, [40207, 10008, 40209, 40208])]),
  (45, [(31, .ifCond .eq 7, 38, 0, 0, 0, []), (34, e0 (.iconst 1)), (35, .goto 4, 39, 0, 0, 0, []), (38, e0 (.iconst 0)), (39, e0 .isub), (40, e0 (.istore 5)), (42, e0 (.iload 5)), (44, e0 (.aload_n 0))]),
  (63, [(45, e0 (.iload_n 1)), (46, .invokevirtual 104, 136, 1, 72, 0, [40210, 10008, 40213, 40212, 35]), (49, e0 (.iload 6)), (51, .invokestatic 100, 133, 2, 0, 0, [40207, 10008, 40209, 40208]), (54, .ifCond .eq 8, 62, 0, 0, 0, []), (57, e0 (.bipush 12)), (59, .goto 4, 63, 0, 0, 0, []), (62, e0 (.iconst 0))]),
  (77, [(63, e0 .iadd), (64, e0 (.istore 5)), (66, e0 (.iload 5)), (68, e0 (.aload_n 0)), (69, e0 (.iload_n 1)), (70, e0 (.iconst 4)), (71, .invokevirtual 97, 117, 2, 72, 0, [40203, 10008, 40206, 40205, 34]), (74, .if_icmp .le 12, 86, 0, 0, 0, [])]),
  (93, [(77, e0 (.aload_n 0)), (78, e0 (.iload_n 1)), (79, e0 (.iconst 4)), (80, .invokevirtual 97, 117, 2, 72, 0, [40203, 10008, 40206, 40205, 34]), (83, .goto 5, 88, 0, 0, 0, []), (86, e0 (.iload 5)), (88, e0 (.istore 5)), (90, e0 (.iinc 6 1))]),
  (100000, [(93, .goto (-82), 11, 0, 0, 0, []), (96, e0 (.iload 5)), (98, e0 .ireturn)])]
def in_137 : MI := (⟨"HarbourTugsModel", "fuelBehind", "(IJI)I"⟩, prog_9_method_24_code, 7, some .int, 1, 0, 0, 22, es_137)
-- 138: HarbourTugsModel fuel (II)I
def es_138 : List (Nat × List (Nat × Ent)) := [(9, [(0, e0 (.aload_n 0)), (1, e0 (.iload_n 1)), (2, .invokevirtual 108, 119, 1, 72, 0, [40190, 10008, 40193, 40192, 31]), (5, .ifCond .eq 31, 36, 0, 0, 0, []), (8, e0 (.iload_n 2))]),
  (22, [(9, e0 .i2l), (10, .ldc2_w 111, 0, 0, 0, (-1), [40194]), (13, .ldc2_w 44, 0, 0, 0, 47, [40128]), (16, .invokestatic 46, 115, 3, 0, 0, [40117, 10008, 40119, 40118]), (19, .ifCond .eq 17, 36, 0, 0, 0, [])]),
  (29, [(22, e0 (.aload_n 0)), (23, e0 (.iload_n 1)), (24, e0 (.aload_n 0)), (25, e0 (.iload_n 1)), (26, .invokevirtual 113, 135, 1, 72, 0, [40195, 10008, 40198, 40197, 32])]),
  (100000, [(29, e0 (.iload_n 2)), (30, .invokevirtual 116, 137, 3, 72, 0, [40199, 10008, 40202, 40201, 33]), (33, .goto 4, 37, 0, 0, 0, []), (36, e0 (.iconst (-1))), (37, e0 .ireturn)])]
def in_138 : MI := (⟨"HarbourTugsModel", "fuel", "(II)I"⟩, prog_9_method_25_code, 3, some .int, 2, 0, 0, 48, es_138)
-- 139: HarbourTugsModel bunker (II)I
def es_139 : List (Nat × List (Nat × Ent)) := [(16, [(0, e0 (.aload_n 0)), (1, e0 (.iload_n 1)), (2, .invokevirtual 108, 119, 1, 72, 0, [40190, 10008, 40193, 40192, 31]), (5, .ifCond .eq 10, 15, 0, 0, 0, []), (8, e0 (.iload_n 2)), (9, .invokestatic 54, 116, 1, 0, 0, [40125, 10008, 40127, 40126]), (12, .ifCond .ne 5, 17, 0, 0, 0, []), (15, e0 (.iconst (-1)))]),
  (30, [(16, e0 .ireturn), (17, e0 (.aload_n 0)), (18, e0 (.iload_n 1)), (19, .invokevirtual 113, 135, 1, 72, 0, [40195, 10008, 40198, 40197, 32]), (22, e0 (.iload_n 2)), (23, .invokestatic 100, 133, 2, 0, 0, [40207, 10008, 40209, 40208]), (26, .ifCond .ne 40, 66, 0, 0, 0, []), (29, e0 (.aload_n 0))]),
  (45, [(30, e0 (.iload_n 1)), (31, .invokevirtual 104, 136, 1, 72, 0, [40210, 10008, 40213, 40212, 35]), (34, e0 (.iload_n 2)), (35, .invokestatic 100, 133, 2, 0, 0, [40207, 10008, 40209, 40208]), (38, .ifCond .ne 28, 66, 0, 0, 0, []), (41, e0 (.aload_n 0)), (42, e0 (.iload_n 1)), (43, e0 (.bipush 7))]),
  (60, [(45, .invokevirtual 97, 117, 2, 72, 0, [40203, 10008, 40206, 40205, 34]), (48, e0 (.iload_n 2)), (49, .if_icmp .le 17, 66, 0, 0, 0, []), (52, e0 (.aload_n 0)), (53, .getfield 7, 7, 0, 2220, 0, [40056]), (56, e0 (.bipush 63)), (58, e0 .laload), (59, e0 (.iload_n 2))]),
  (77, [(60, .invokestatic 100, 133, 2, 0, 0, [40207, 10008, 40209, 40208]), (63, .ifCond .eq 6, 69, 0, 0, 0, []), (66, e0 (.bipush (-2))), (68, e0 .ireturn), (69, e0 (.aload_n 0)), (70, .getfield 7, 7, 0, 2220, 0, [40056]), (73, e0 (.bipush 70)), (75, e0 (.bipush 10))]),
  (86, [(77, e0 (.iload_n 1)), (78, e0 .imul), (79, e0 .iadd), (80, e0 (.bipush 9)), (82, e0 .iadd), (83, e0 .dup2), (84, e0 .laload), (85, e0 (.lconst 1))]),
  (94, [(86, e0 (.iload_n 2)), (87, e0 .lshl), (88, e0 .lor), (89, e0 .lastore), (90, e0 (.aload_n 0)), (91, e0 (.iload_n 1)), (92, e0 (.aload_n 0)), (93, e0 (.iload_n 1))]),
  (100000, [(94, .invokevirtual 113, 135, 1, 72, 0, [40195, 10008, 40198, 40197, 32]), (97, e0 (.bipush 47)), (99, .invokevirtual 116, 137, 3, 72, 0, [40199, 10008, 40202, 40201, 33]), (102, e0 .ireturn)])]
def in_139 : MI := (⟨"HarbourTugsModel", "bunker", "(II)I"⟩, prog_9_method_26_code, 3, some .int, 2, 0, 0, 48, es_139)
-- 140: HarbourTugsModel pullOf (I)I
def es_140 : List (Nat × List (Nat × Ent)) := [(6, [(0, e0 (.iconst 0)), (1, e0 (.istore_n 2)), (2, e0 (.iconst 0)), (3, e0 (.istore_n 3)), (4, e0 (.iload_n 3)), (5, e0 .i2l)]),
  (17, [(6, e0 (.aload_n 0)), (7, .getfield 7, 7, 0, 2220, 0, [40056]), (10, e0 (.bipush 64)), (12, e0 .laload), (13, e0 .lcmp), (14, .ifCond .ge 31, 45, 0, 0, 0, [])]),
  (23, [(17, e0 (.iload_n 2)), (18, e0 (.iload_n 1)), (19, e0 (.iload_n 3)), (20, e0 .ishr), (21, e0 (.iconst 1)), (22, e0 .iand)]),
  (33, [(23, e0 (.iconst 1)), (24, .if_icmp .ne 12, 36, 0, 0, 0, []), (27, e0 (.aload_n 0)), (28, e0 (.iload_n 3)), (29, e0 (.iconst 1)), (30, .invokevirtual 97, 117, 2, 72, 0, [40203, 10008, 40206, 40205, 34])]),
  (45, [(33, .goto 4, 37, 0, 0, 0, []), (36, e0 (.iconst 0)), (37, e0 .iadd), (38, e0 (.istore_n 2)), (39, e0 (.iinc 3 1)), (42, .goto (-38), 4, 0, 0, 0, [])]),
  (100000, [(45, e0 (.iload_n 2)), (46, e0 .ireturn)])]
def in_140 : MI := (⟨"HarbourTugsModel", "pullOf", "(I)I"⟩, prog_9_method_27_code, 4, some .int, 1, 0, 0, 22, es_140)
-- 141: HarbourTugsModel rests (IJ)Z
def es_141 : List (Nat × List (Nat × Ent)) := [(14, [(0, e0 (.aload_n 0)), (1, e0 (.iload_n 1)), (2, e0 (.iconst 5)), (3, .invokevirtual 97, 117, 2, 72, 0, [40203, 10008, 40206, 40205, 34]), (6, e0 (.istore 4)), (8, e0 (.iload 4)), (10, e0 (.aload_n 0)), (11, .getfield 7, 7, 0, 2220, 0, [40056])]),
  (25, [(14, e0 (.bipush 60)), (16, e0 .laload), (17, e0 .l2i), (18, e0 .iadd), (19, e0 (.istore 5)), (21, e0 (.iconst 1)), (22, e0 (.istore 6)), (24, e0 (.iconst 0))]),
  (40, [(25, e0 (.istore 7)), (27, e0 (.iload 7)), (29, e0 (.iload 5)), (31, e0 .iadd), (32, e0 (.bipush 48)), (34, .if_icmp .gt 70, 104, 0, 0, 0, []), (37, e0 (.iconst 0)), (38, e0 (.istore 8))]),
  (56, [(40, e0 (.iload 7)), (42, e0 (.istore 9)), (44, e0 (.iload 9)), (46, e0 (.iload 7)), (48, e0 (.iload 5)), (50, e0 .iadd), (51, .if_icmp .ge 28, 79, 0, 0, 0, []), (54, e0 (.iload 8))]),
  (71, [(56, e0 (.lload_n 2)), (57, e0 (.iload 9)), (59, .invokestatic 100, 133, 2, 0, 0, [40207, 10008, 40209, 40208]), (62, .ifCond .eq 7, 69, 0, 0, 0, []), (65, e0 (.iconst 1)), (66, .goto 4, 70, 0, 0, 0, []), (69, e0 (.iconst 0)), (70, e0 .iadd)]),
  (91, [(71, e0 (.istore 8)), (73, e0 (.iinc 9 1)), (76, .goto (-32), 44, 0, 0, 0, []), (79, e0 (.iload 6)), (81, .ifCond .eq 14, 95, 0, 0, 0, []), (84, e0 (.iload 8)), (86, e0 (.iload 4)), (88, .if_icmp .gt 7, 95, 0, 0, 0, [])]),
  (100000, [(91, e0 (.iconst 1)), (92, .goto 4, 96, 0, 0, 0, []), (95, e0 (.iconst 0)), (96, e0 (.istore 6)), (98, e0 (.iinc 7 1)), (101, .goto (-74), 27, 0, 0, 0, []), (104, e0 (.iload 6)), (106, e0 .ireturn)])]
def in_141 : MI := (⟨"HarbourTugsModel", "rests", "(IJ)Z"⟩, prog_9_method_28_code, 10, some .boolean, 1, 0, 0, 22, es_141)
-- 142: HarbourTugsModel last (I)I
def es_142 : List (Nat × List (Nat × Ent)) := [(7, [(0, e0 (.aload_n 0)), (1, e0 (.iload_n 1)), (2, e0 (.bipush 7)), (4, .invokevirtual 62, 118, 2, 72, 0, [40147, 10008, 40150, 40149, 27])]),
  (13, [(7, e0 (.aload_n 0)), (8, e0 (.iload_n 1)), (9, e0 (.iconst 3)), (10, .invokevirtual 62, 118, 2, 72, 0, [40147, 10008, 40150, 40149, 27])]),
  (100000, [(13, e0 .iadd), (14, e0 (.iconst 1)), (15, e0 .isub), (16, e0 .ireturn)])]
def in_142 : MI := (⟨"HarbourTugsModel", "last", "(I)I"⟩, prog_9_method_29_code, 2, some .int, 1, 0, 0, 22, es_142)
-- 143: HarbourTugsModel isOf (II)Z
def es_143 : List (Nat × List (Nat × Ent)) := [(9, [(0, e0 (.aload_n 0)), (1, e0 (.iload_n 1)), (2, .invokevirtual 71, 125, 1, 72, 0, [40143, 10008, 40146, 40145, 26]), (5, .ifCond .eq 22, 27, 0, 0, 0, []), (8, e0 (.aload_n 0))]),
  (17, [(9, e0 (.iload_n 1)), (10, e0 (.bipush 8)), (12, .invokevirtual 62, 118, 2, 72, 0, [40147, 10008, 40150, 40149, 27]), (15, e0 (.iload_n 2)), (16, e0 .ishr)]),
  (24, [(17, e0 (.iconst 1)), (18, e0 .iand), (19, e0 (.iconst 1)), (20, .if_icmp .ne 7, 27, 0, 0, 0, []), (23, e0 (.iconst 1))]),
  (100000, [(24, .goto 4, 28, 0, 0, 0, []), (27, e0 (.iconst 0)), (28, e0 .ireturn)])]
def in_143 : MI := (⟨"HarbourTugsModel", "isOf", "(II)Z"⟩, prog_9_method_30_code, 3, some .boolean, 2, 0, 0, 43, es_143)
-- 144: HarbourTugsModel comes (III)Z
def es_144 : List (Nat × List (Nat × Ent)) := [(17, [(0, e0 (.iload_n 3)), (1, e0 (.aload_n 0)), (2, e0 (.iload_n 2)), (3, e0 (.iconst 3)), (4, .invokevirtual 62, 118, 2, 72, 0, [40147, 10008, 40150, 40149, 27]), (7, e0 .iadd), (8, e0 (.istore 4)), (10, e0 (.aload_n 0)), (11, e0 (.iload_n 1)), (12, e0 (.bipush 6)), (14, .invokevirtual 97, 117, 2, 72, 0, [40203, 10008, 40206, 40205, 34])]),
  (35, [(17, e0 (.istore 5)), (19, e0 (.iconst 0)), (20, e0 (.istore 6)), (22, e0 (.iconst (-1))), (23, e0 (.istore 7)), (25, e0 (.iconst 0)), (26, e0 (.istore 8)), (28, e0 (.iload 8)), (30, e0 .i2l), (31, e0 (.aload_n 0)), (32, .getfield 7, 7, 0, 2220, 0, [40056])]),
  (55, [(35, e0 (.bipush 65)), (37, e0 .laload), (38, e0 .lcmp), (39, .ifCond .ge 113, 152, 0, 0, 0, []), (42, e0 (.aload_n 0)), (43, e0 (.iload 8)), (45, e0 (.iload_n 1)), (46, .invokevirtual 120, 143, 2, 72, 0, [50029, 10008, 50032, 50031, 47]), (49, .ifCond .eq 46, 95, 0, 0, 0, []), (52, e0 (.aload_n 0)), (53, e0 (.iload 8))]),
  (76, [(55, .invokevirtual 124, 142, 1, 72, 0, [50002, 10008, 50005, 50004, 41]), (58, e0 (.iload_n 3)), (59, .if_icmp .ge 36, 95, 0, 0, 0, []), (62, e0 (.aload_n 0)), (63, e0 (.iload 8)), (65, .invokevirtual 124, 142, 1, 72, 0, [50002, 10008, 50005, 50004, 41]), (68, e0 (.iconst 1)), (69, e0 .iadd), (70, e0 (.iload 6)), (72, .if_icmp .le 23, 95, 0, 0, 0, []), (75, e0 (.aload_n 0))]),
  (96, [(76, e0 (.iload 8)), (78, .invokevirtual 124, 142, 1, 72, 0, [50002, 10008, 50005, 50004, 41]), (81, e0 (.iconst 1)), (82, e0 .iadd), (83, e0 (.istore 6)), (85, e0 (.aload_n 0)), (86, e0 (.iload 8)), (88, e0 (.bipush 6)), (90, .invokevirtual 62, 118, 2, 72, 0, [40147, 10008, 40150, 40149, 27]), (93, e0 (.istore 5)), (95, e0 (.aload_n 0))]),
  (120, [(96, e0 (.iload 8)), (98, e0 (.iload_n 1)), (99, .invokevirtual 120, 143, 2, 72, 0, [50029, 10008, 50032, 50031, 47]), (102, .ifCond .eq 44, 146, 0, 0, 0, []), (105, e0 (.aload_n 0)), (106, e0 (.iload 8)), (108, e0 (.bipush 7)), (110, .invokevirtual 62, 118, 2, 72, 0, [40147, 10008, 40150, 40149, 27]), (113, e0 (.iload 4)), (115, .if_icmp .lt 31, 146, 0, 0, 0, []), (118, e0 (.iload 7))]),
  (144, [(120, .ifCond .lt 22, 142, 0, 0, 0, []), (123, e0 (.aload_n 0)), (124, e0 (.iload 8)), (126, e0 (.bipush 7)), (128, .invokevirtual 62, 118, 2, 72, 0, [40147, 10008, 40150, 40149, 27]), (131, e0 (.aload_n 0)), (132, e0 (.iload 7)), (134, e0 (.bipush 7)), (136, .invokevirtual 62, 118, 2, 72, 0, [40147, 10008, 40150, 40149, 27]), (139, .if_icmp .ge 7, 146, 0, 0, 0, []), (142, e0 (.iload 8))]),
  (166, [(144, e0 (.istore 7)), (146, e0 (.iinc 8 1)), (149, .goto (-121), 28, 0, 0, 0, []), (152, e0 (.iload 6)), (154, e0 (.aload_n 0)), (155, e0 (.iload 5)), (157, e0 (.aload_n 0)), (158, e0 (.iload_n 2)), (159, e0 (.iconst 5)), (160, .invokevirtual 62, 118, 2, 72, 0, [40147, 10008, 40150, 40149, 27]), (163, .invokevirtual 74, 127, 2, 72, 0, [40155, 10008, 40158, 40157, 28])]),
  (186, [(166, e0 .iadd), (167, e0 (.iload_n 3)), (168, .if_icmp .gt 44, 212, 0, 0, 0, []), (171, e0 (.iload 7)), (173, .ifCond .lt 35, 208, 0, 0, 0, []), (176, e0 (.iload 4)), (178, e0 (.aload_n 0)), (179, e0 (.aload_n 0)), (180, e0 (.iload_n 2)), (181, e0 (.bipush 6)), (183, .invokevirtual 62, 118, 2, 72, 0, [40147, 10008, 40150, 40149, 27])]),
  (208, [(186, e0 (.aload_n 0)), (187, e0 (.iload 7)), (189, e0 (.iconst 5)), (190, .invokevirtual 62, 118, 2, 72, 0, [40147, 10008, 40150, 40149, 27]), (193, .invokevirtual 74, 127, 2, 72, 0, [40155, 10008, 40158, 40157, 28]), (196, e0 .iadd), (197, e0 (.aload_n 0)), (198, e0 (.iload 7)), (200, e0 (.bipush 7)), (202, .invokevirtual 62, 118, 2, 72, 0, [40147, 10008, 40150, 40149, 27]), (205, .if_icmp .gt 7, 212, 0, 0, 0, [])]),
  (100000, [(208, e0 (.iconst 1)), (209, .goto 4, 213, 0, 0, 0, []), (212, e0 (.iconst 0)), (213, e0 .ireturn)])]
def in_144 : MI := (⟨"HarbourTugsModel", "comes", "(III)Z"⟩, prog_9_method_31_code, 9, some .boolean, 3, 0, 0, 65, es_144)
-- 145: HarbourTugsModel fails (IIII)Z
def es_145 : List (Nat × List (Nat × Ent)) := [(15, [(0, e0 (.iload 4)), (2, e0 (.aload_n 0)), (3, e0 (.iload_n 3)), (4, e0 (.iconst 3)), (5, .invokevirtual 62, 118, 2, 72, 0, [40147, 10008, 40150, 40149, 27]), (8, e0 .iadd), (9, e0 (.istore 5)), (11, e0 (.iload 4)), (13, e0 (.iload 5))]),
  (59, [(15, .invokestatic 128, 134, 2, 0, 0, [50006, 10008, 50008, 50007]), (18, e0 (.lstore 6)), (20, e0 (.iload_n 1)), (21, .tableswitch 120 5 8 #[31, 56, 80, 102], 141, 0, 31, 0, [52, 77, 101, 123]), (52, e0 (.aload_n 0)), (53, e0 (.iload_n 2)), (54, .invokevirtual 113, 135, 1, 72, 0, [40195, 10008, 40198, 40197, 32]), (57, e0 (.aload_n 0)), (58, e0 (.iload_n 2))]),
  (75, [(59, .invokevirtual 104, 136, 1, 72, 0, [40210, 10008, 40213, 40212, 35]), (62, e0 .lor), (63, e0 (.lload 6)), (65, e0 .land), (66, e0 (.lconst 0)), (67, e0 .lcmp), (68, .ifCond .eq 7, 75, 0, 0, 0, []), (71, e0 (.iconst 1)), (72, .goto 4, 76, 0, 0, 0, [])]),
  (87, [(75, e0 (.iconst 0)), (76, e0 .ireturn), (77, e0 (.aload_n 0)), (78, e0 (.iload_n 2)), (79, e0 (.aload_n 0)), (80, e0 (.iload_n 2)), (81, .invokevirtual 113, 135, 1, 72, 0, [40195, 10008, 40198, 40197, 32]), (84, e0 (.lload 6)), (86, e0 .lor)]),
  (103, [(87, e0 (.bipush 47)), (89, .invokevirtual 116, 137, 3, 72, 0, [40199, 10008, 40202, 40201, 33]), (92, .ifCond .ge 7, 99, 0, 0, 0, []), (95, e0 (.iconst 1)), (96, .goto 4, 100, 0, 0, 0, []), (99, e0 (.iconst 0)), (100, e0 .ireturn), (101, e0 (.aload_n 0)), (102, e0 (.iload_n 2))]),
  (121, [(103, e0 (.aload_n 0)), (104, e0 (.iload_n 2)), (105, .invokevirtual 113, 135, 1, 72, 0, [40195, 10008, 40198, 40197, 32]), (108, e0 (.lload 6)), (110, e0 .lor), (111, .invokevirtual 132, 141, 2, 72, 0, [50021, 10008, 50024, 50023, 45]), (114, .ifCond .ne 7, 121, 0, 0, 0, []), (117, e0 (.iconst 1)), (118, .goto 4, 122, 0, 0, 0, [])]),
  (136, [(121, e0 (.iconst 0)), (122, e0 .ireturn), (123, e0 (.aload_n 0)), (124, e0 (.iload_n 2)), (125, e0 (.bipush 7)), (127, .invokevirtual 97, 117, 2, 72, 0, [40203, 10008, 40206, 40205, 34]), (130, e0 (.iload 5)), (132, .if_icmp .ge 7, 139, 0, 0, 0, []), (135, e0 (.iconst 1))]),
  (152, [(136, .goto 4, 140, 0, 0, 0, []), (139, e0 (.iconst 0)), (140, e0 .ireturn), (141, e0 (.aload_n 0)), (142, e0 (.iload_n 2)), (143, e0 (.iload_n 3)), (144, e0 (.iload 4)), (146, .invokevirtual 136, 144, 3, 72, 0, [50025, 10008, 50028, 50027, 46]), (149, .ifCond .ne 7, 156, 0, 0, 0, [])]),
  (100000, [(152, e0 (.iconst 1)), (153, .goto 4, 157, 0, 0, 0, []), (156, e0 (.iconst 0)), (157, e0 .ireturn)])]
def in_145 : MI := (⟨"HarbourTugsModel", "fails", "(IIII)Z"⟩, prog_9_method_32_code, 8, some .boolean, 4, 0, 0, 93, es_145)
-- 146: HarbourTugsModel isBarred (II)Z
def es_146 : List (Nat × List (Nat × Ent)) := [(13, [(0, e0 (.iload_n 2)), (1, e0 (.aload_n 0)), (2, e0 (.iload_n 1)), (3, e0 (.iconst 3)), (4, .invokevirtual 62, 118, 2, 72, 0, [40147, 10008, 40150, 40149, 27]), (7, e0 .iadd), (8, e0 (.istore_n 3)), (9, e0 (.iconst 0)), (10, e0 (.istore 4)), (12, e0 (.iconst 0))]),
  (31, [(13, e0 (.istore 5)), (15, e0 (.iload 5)), (17, e0 .i2l), (18, e0 (.aload_n 0)), (19, .getfield 7, 7, 0, 2220, 0, [40056]), (22, e0 (.bipush 65)), (24, e0 .laload), (25, e0 .lcmp), (26, .ifCond .ge 128, 154, 0, 0, 0, []), (29, e0 (.iload 5))]),
  (52, [(31, e0 (.iload_n 1)), (32, .if_icmp .eq 116, 148, 0, 0, 0, []), (35, e0 (.aload_n 0)), (36, e0 (.iload 5)), (38, .invokevirtual 71, 125, 1, 72, 0, [40143, 10008, 40146, 40145, 26]), (41, .ifCond .eq 107, 148, 0, 0, 0, []), (44, e0 (.aload_n 0)), (45, e0 (.iload 5)), (47, e0 (.bipush 7)), (49, .invokevirtual 62, 118, 2, 72, 0, [40147, 10008, 40150, 40149, 27])]),
  (71, [(52, e0 (.iload_n 3)), (53, .if_icmp .ge 95, 148, 0, 0, 0, []), (56, e0 (.aload_n 0)), (57, e0 (.iload 5)), (59, .invokevirtual 124, 142, 1, 72, 0, [50002, 10008, 50005, 50004, 41]), (62, e0 (.iload_n 2)), (63, .if_icmp .lt 85, 148, 0, 0, 0, []), (66, e0 (.iconst 1)), (67, e0 (.aload_n 0)), (68, .getfield 20, 7, 4, 1008, 0, [40060])]),
  (85, [(71, e0 (.aload_n 0)), (72, e0 (.iload_n 1)), (73, e0 (.iconst 5)), (74, .invokevirtual 62, 118, 2, 72, 0, [40147, 10008, 40150, 40149, 27]), (77, e0 .iaload), (78, e0 .ishl), (79, e0 (.iconst 1)), (80, e0 (.aload_n 0)), (81, .getfield 20, 7, 4, 1008, 0, [40060]), (84, e0 (.aload_n 0))]),
  (101, [(85, e0 (.iload_n 1)), (86, e0 (.bipush 6)), (88, .invokevirtual 62, 118, 2, 72, 0, [40147, 10008, 40150, 40149, 27]), (91, e0 .iaload), (92, e0 .ishl), (93, e0 .ior), (94, e0 (.istore 6)), (96, e0 (.iconst 1)), (97, e0 (.aload_n 0)), (98, .getfield 20, 7, 4, 1008, 0, [40060])]),
  (116, [(101, e0 (.aload_n 0)), (102, e0 (.iload 5)), (104, e0 (.iconst 5)), (105, .invokevirtual 62, 118, 2, 72, 0, [40147, 10008, 40150, 40149, 27]), (108, e0 .iaload), (109, e0 .ishl), (110, e0 (.iconst 1)), (111, e0 (.aload_n 0)), (112, .getfield 20, 7, 4, 1008, 0, [40060]), (115, e0 (.aload_n 0))]),
  (135, [(116, e0 (.iload 5)), (118, e0 (.bipush 6)), (120, .invokevirtual 62, 118, 2, 72, 0, [40147, 10008, 40150, 40149, 27]), (123, e0 .iaload), (124, e0 .ishl), (125, e0 .ior), (126, e0 (.istore 7)), (128, e0 (.iload 4)), (130, .ifCond .ne 11, 141, 0, 0, 0, []), (133, e0 (.iload 6))]),
  (156, [(135, e0 (.iload 7)), (137, e0 .iand), (138, .ifCond .eq 7, 145, 0, 0, 0, []), (141, e0 (.iconst 1)), (142, .goto 4, 146, 0, 0, 0, []), (145, e0 (.iconst 0)), (146, e0 (.istore 4)), (148, e0 (.iinc 5 1)), (151, .goto (-136), 15, 0, 0, 0, []), (154, e0 (.iload 4))]),
  (100000, [(156, e0 .ireturn)])]
def in_146 : MI := (⟨"HarbourTugsModel", "isBarred", "(II)Z"⟩, prog_9_method_33_code, 8, some .boolean, 2, 0, 0, 43, es_146)
-- 147: HarbourTugsModel failsAlone (III)Z
def es_147 : List (Nat × List (Nat × Ent)) := [(13, [(0, e0 (.iload_n 3)), (1, e0 (.aload_n 0)), (2, e0 (.iload_n 2)), (3, e0 (.iconst 3)), (4, .invokevirtual 62, 118, 2, 72, 0, [40147, 10008, 40150, 40149, 27]), (7, e0 .iadd), (8, e0 (.istore 4)), (10, e0 (.iconst 0)), (11, e0 (.istore 5))]),
  (60, [(13, e0 (.iload_n 1)), (14, .lookupswitch 116 #[(1, 34), (2, 57), (9, 109)], 130, 0, 34, 0, [48, 71, 123]), (48, e0 (.iload_n 3)), (49, e0 (.aload_n 0)), (50, e0 (.iload_n 2)), (51, e0 (.iconst 2)), (52, .invokevirtual 62, 118, 2, 72, 0, [40147, 10008, 40150, 40149, 27]), (55, .if_icmp .lt 10, 65, 0, 0, 0, []), (58, e0 (.iload 4))]),
  (76, [(60, e0 (.bipush 48)), (62, .if_icmp .le 7, 69, 0, 0, 0, []), (65, e0 (.iconst 1)), (66, .goto 4, 70, 0, 0, 0, []), (69, e0 (.iconst 0)), (70, e0 .ireturn), (71, e0 (.iload_n 3)), (72, e0 (.istore 6)), (74, e0 (.iload 6))]),
  (95, [(76, e0 (.iload 4)), (78, .if_icmp .ge 42, 120, 0, 0, 0, []), (81, e0 (.iload 5)), (83, .ifCond .ne 24, 107, 0, 0, 0, []), (86, e0 (.aload_n 0)), (87, .getfield 7, 7, 0, 2220, 0, [40056]), (90, e0 (.iload 6)), (92, e0 (.bipush 12)), (94, e0 .irem)]),
  (108, [(95, e0 .laload), (96, e0 (.aload_n 0)), (97, e0 (.iload_n 2)), (98, e0 (.iconst 1)), (99, .invokevirtual 62, 118, 2, 72, 0, [40147, 10008, 40150, 40149, 27]), (102, e0 .i2l), (103, e0 .lcmp), (104, .ifCond .ge 7, 111, 0, 0, 0, []), (107, e0 (.iconst 1))]),
  (125, [(108, .goto 4, 112, 0, 0, 0, []), (111, e0 (.iconst 0)), (112, e0 (.istore 5)), (114, e0 (.iinc 6 1)), (117, .goto (-43), 74, 0, 0, 0, []), (120, e0 (.iload 5)), (122, e0 .ireturn), (123, e0 (.aload_n 0)), (124, e0 (.iload_n 2))]),
  (140, [(125, e0 (.iload_n 3)), (126, .invokevirtual 140, 146, 2, 72, 0, [40238, 10008, 50001, 50000, 40]), (129, e0 .ireturn), (130, e0 (.aload_n 0)), (131, .getfield 7, 7, 0, 2220, 0, [40056]), (134, e0 (.bipush 63)), (136, e0 .laload), (137, e0 (.iload_n 3)), (138, e0 (.iload 4))]),
  (100000, [(140, .invokestatic 128, 134, 2, 0, 0, [50006, 10008, 50008, 50007]), (143, e0 .land), (144, e0 (.lconst 0)), (145, e0 .lcmp), (146, .ifCond .eq 7, 153, 0, 0, 0, []), (149, e0 (.iconst 1)), (150, .goto 4, 154, 0, 0, 0, []), (153, e0 (.iconst 0)), (154, e0 .ireturn)])]
def in_147 : MI := (⟨"HarbourTugsModel", "failsAlone", "(III)Z"⟩, prog_9_method_34_code, 7, some .boolean, 3, 0, 0, 70, es_147)
-- 148: HarbourTugsModel failsTogether (IIII)Z
def es_148 : List (Nat × List (Nat × Ent)) := [(18, [(0, e0 (.iload_n 3)), (1, e0 (.aload_n 0)), (2, e0 (.iload_n 2)), (3, e0 (.iconst 3)), (4, .invokevirtual 62, 118, 2, 72, 0, [40147, 10008, 40150, 40149, 27]), (7, e0 .iadd), (8, e0 (.istore 5)), (10, e0 (.iconst 0)), (11, e0 (.istore 6)), (13, e0 (.iload_n 1)), (14, e0 (.iconst 4)), (15, .if_icmp .ne 74, 89, 0, 0, 0, [])]),
  (38, [(18, e0 (.iconst 0)), (19, e0 (.istore 7)), (21, e0 (.iconst 0)), (22, e0 (.istore 8)), (24, e0 (.iload 8)), (26, e0 .i2l), (27, e0 (.aload_n 0)), (28, .getfield 7, 7, 0, 2220, 0, [40056]), (31, e0 (.bipush 64)), (33, e0 .laload), (34, e0 .lcmp), (35, .ifCond .ge 43, 78, 0, 0, 0, [])]),
  (58, [(38, e0 (.iload 7)), (40, .ifCond .ne 25, 65, 0, 0, 0, []), (43, e0 (.iload 4)), (45, e0 (.iload 8)), (47, e0 .ishr), (48, e0 (.iconst 1)), (49, e0 .iand), (50, e0 (.iconst 1)), (51, .if_icmp .ne 18, 69, 0, 0, 0, []), (54, e0 (.aload_n 0)), (55, e0 (.iload 8)), (57, e0 (.iconst 2))]),
  (84, [(58, .invokevirtual 97, 117, 2, 72, 0, [40203, 10008, 40206, 40205, 34]), (61, e0 (.iconst 1)), (62, .if_icmp .ne 7, 69, 0, 0, 0, []), (65, e0 (.iconst 1)), (66, .goto 4, 70, 0, 0, 0, []), (69, e0 (.iconst 0)), (70, e0 (.istore 7)), (72, e0 (.iinc 8 1)), (75, .goto (-51), 24, 0, 0, 0, []), (78, e0 (.iload 7)), (80, .ifCond .ne 7, 87, 0, 0, 0, []), (83, e0 (.iconst 1))]),
  (107, [(84, .goto 4, 88, 0, 0, 0, []), (87, e0 (.iconst 0)), (88, e0 .ireturn), (89, e0 (.aload_n 0)), (90, e0 (.iload 4)), (92, .invokevirtual 143, 140, 1, 72, 0, [50013, 10008, 50016, 50015, 43]), (95, e0 (.istore 7)), (97, e0 (.iload_n 3)), (98, e0 (.istore 8)), (100, e0 (.iload 8)), (102, e0 (.iload 5)), (104, .if_icmp .ge 133, 237, 0, 0, 0, [])]),
  (130, [(107, e0 (.iload_n 1)), (108, e0 (.iconst 3)), (109, .if_icmp .ne 30, 139, 0, 0, 0, []), (112, e0 (.iload 6)), (114, .ifCond .ne 15, 129, 0, 0, 0, []), (117, e0 (.iload 7)), (119, e0 (.aload_n 0)), (120, e0 (.iload_n 2)), (121, e0 (.iload 8)), (123, .invokevirtual 94, 131, 2, 72, 0, [40182, 10008, 40185, 40184, 30]), (126, .if_icmp .ge 7, 133, 0, 0, 0, []), (129, e0 (.iconst 1))]),
  (152, [(130, .goto 4, 134, 0, 0, 0, []), (133, e0 (.iconst 0)), (134, e0 (.istore 6)), (136, .goto 95, 231, 0, 0, 0, []), (139, e0 (.iconst 0)), (140, e0 (.istore 9)), (142, e0 (.iconst 0)), (143, e0 (.istore 10)), (145, e0 (.iload 10)), (147, e0 .i2l), (148, e0 (.aload_n 0)), (149, .getfield 7, 7, 0, 2220, 0, [40056])]),
  (174, [(152, e0 (.bipush 64)), (154, e0 .laload), (155, e0 .lcmp), (156, .ifCond .ge 58, 214, 0, 0, 0, []), (159, e0 (.iload 9)), (161, .ifCond .ne 40, 201, 0, 0, 0, []), (164, e0 (.iload 4)), (166, e0 (.iload 10)), (168, e0 .ishr), (169, e0 (.iconst 1)), (170, e0 .iand), (171, .ifCond .ne 34, 205, 0, 0, 0, [])]),
  (201, [(174, e0 (.aload_n 0)), (175, e0 (.iload 10)), (177, .invokevirtual 113, 135, 1, 72, 0, [40195, 10008, 40198, 40197, 32]), (180, e0 (.iload 8)), (182, .invokestatic 100, 133, 2, 0, 0, [40207, 10008, 40209, 40208]), (185, .ifCond .ne 20, 205, 0, 0, 0, []), (188, e0 (.aload_n 0)), (189, e0 (.iload 10)), (191, e0 (.bipush 7)), (193, .invokevirtual 97, 117, 2, 72, 0, [40203, 10008, 40206, 40205, 34]), (196, e0 (.iload 8)), (198, .if_icmp .le 7, 205, 0, 0, 0, [])]),
  (228, [(201, e0 (.iconst 1)), (202, .goto 4, 206, 0, 0, 0, []), (205, e0 (.iconst 0)), (206, e0 (.istore 9)), (208, e0 (.iinc 10 1)), (211, .goto (-66), 145, 0, 0, 0, []), (214, e0 (.iload 6)), (216, .ifCond .ne 8, 224, 0, 0, 0, []), (219, e0 (.iload 9)), (221, .ifCond .ne 7, 228, 0, 0, 0, []), (224, e0 (.iconst 1)), (225, .goto 4, 229, 0, 0, 0, [])]),
  (253, [(228, e0 (.iconst 0)), (229, e0 (.istore 6)), (231, e0 (.iinc 8 1)), (234, .goto (-134), 100, 0, 0, 0, []), (237, e0 (.iload 6)), (239, .ifCond .eq 24, 263, 0, 0, 0, []), (242, e0 (.iload_n 1)), (243, e0 (.iconst 3)), (244, .if_icmp .eq 15, 259, 0, 0, 0, []), (247, e0 (.aload_n 0)), (248, .getfield 7, 7, 0, 2220, 0, [40056]), (251, e0 (.bipush 61))]),
  (100000, [(253, e0 .laload), (254, e0 (.lconst 1)), (255, e0 .lcmp), (256, .ifCond .ne 7, 263, 0, 0, 0, []), (259, e0 (.iconst 1)), (260, .goto 4, 264, 0, 0, 0, []), (263, e0 (.iconst 0)), (264, e0 .ireturn)])]
def in_148 : MI := (⟨"HarbourTugsModel", "failsTogether", "(IIII)Z"⟩, prog_9_method_35_code, 11, some .boolean, 2, 0, 0, 45, es_148)
-- 149: HarbourTugsModel failsBy (IIII)Z
def es_149 : List (Nat × List (Nat × Ent)) := [(16, [(0, e0 (.iload_n 1)), (1, e0 (.iconst 1)), (2, .if_icmp .eq 20, 22, 0, 0, 0, []), (5, e0 (.iload_n 1)), (6, e0 (.iconst 2)), (7, .if_icmp .eq 15, 22, 0, 0, 0, []), (10, e0 (.iload_n 1)), (11, e0 (.bipush 9)), (13, .if_icmp .eq 9, 22, 0, 0, 0, [])]),
  (30, [(16, e0 (.iload_n 1)), (17, e0 (.bipush 12)), (19, .if_icmp .ne 11, 30, 0, 0, 0, []), (22, e0 (.aload_n 0)), (23, e0 (.iload_n 1)), (24, e0 (.iload_n 2)), (25, e0 (.iload_n 3)), (26, .invokevirtual 146, 147, 3, 72, 0, [40234, 10008, 40237, 40236, 39]), (29, e0 .ireturn)]),
  (46, [(30, e0 (.iload_n 1)), (31, e0 (.iconst 3)), (32, .if_icmp .eq 14, 46, 0, 0, 0, []), (35, e0 (.iload_n 1)), (36, e0 (.iconst 4)), (37, .if_icmp .eq 9, 46, 0, 0, 0, []), (40, e0 (.iload_n 1)), (41, e0 (.bipush 10)), (43, .if_icmp .ne 13, 56, 0, 0, 0, [])]),
  (59, [(46, e0 (.aload_n 0)), (47, e0 (.iload_n 1)), (48, e0 (.iload_n 2)), (49, e0 (.iload_n 3)), (50, e0 (.iload 4)), (52, .invokevirtual 149, 148, 4, 72, 0, [50009, 10008, 50012, 50011, 42]), (55, e0 .ireturn), (56, e0 (.iconst 0)), (57, e0 (.istore 5))]),
  (73, [(59, e0 (.iconst 0)), (60, e0 (.istore 6)), (62, e0 (.iload 6)), (64, e0 .i2l), (65, e0 (.aload_n 0)), (66, .getfield 7, 7, 0, 2220, 0, [40056]), (69, e0 (.bipush 64)), (71, e0 .laload), (72, e0 .lcmp)]),
  (89, [(73, .ifCond .ge 44, 117, 0, 0, 0, []), (76, e0 (.iload 5)), (78, .ifCond .ne 26, 104, 0, 0, 0, []), (81, e0 (.iload 4)), (83, e0 (.iload 6)), (85, e0 .ishr), (86, e0 (.iconst 1)), (87, e0 .iand), (88, e0 (.iconst 1))]),
  (105, [(89, .if_icmp .ne 19, 108, 0, 0, 0, []), (92, e0 (.aload_n 0)), (93, e0 (.iload_n 1)), (94, e0 (.iload 6)), (96, e0 (.iload_n 2)), (97, e0 (.iload_n 3)), (98, .invokevirtual 153, 145, 4, 72, 0, [50017, 10008, 50020, 50019, 44]), (101, .ifCond .eq 7, 108, 0, 0, 0, []), (104, e0 (.iconst 1))]),
  (100000, [(105, .goto 4, 109, 0, 0, 0, []), (108, e0 (.iconst 0)), (109, e0 (.istore 5)), (111, e0 (.iinc 6 1)), (114, .goto (-52), 62, 0, 0, 0, []), (117, e0 (.iload 5)), (119, e0 .ireturn)])]
def in_149 : MI := (⟨"HarbourTugsModel", "failsBy", "(IIII)Z"⟩, prog_9_method_36_code, 7, some .boolean, 5, 0, 0, 120, es_149)
-- 150: HarbourTugsModel whyNot (III)I
def es_150 : List (Nat × List (Nat × Ent)) := [(10, [(0, e0 (.iconst 1)), (1, e0 (.istore 4)), (3, e0 (.iload 4)), (5, e0 (.bipush 13)), (7, .if_icmp .ge 21, 28, 0, 0, 0, [])]),
  (16, [(10, e0 (.aload_n 0)), (11, e0 (.iload 4)), (13, e0 (.iload_n 1)), (14, e0 (.iload_n 2)), (15, e0 (.iload_n 3))]),
  (30, [(16, .invokevirtual 156, 149, 4, 72, 0, [40230, 10008, 40233, 40232, 38]), (19, .ifCond .ne 9, 28, 0, 0, 0, []), (22, e0 (.iinc 4 1)), (25, .goto (-22), 3, 0, 0, 0, []), (28, e0 (.iload 4))]),
  (41, [(30, e0 (.bipush 13)), (32, .if_icmp .ne 7, 39, 0, 0, 0, []), (35, e0 (.iconst 0)), (36, .goto 5, 41, 0, 0, 0, []), (39, e0 (.iload 4))]),
  (100000, [(41, e0 .ireturn)])]
def in_150 : MI := (⟨"HarbourTugsModel", "whyNot", "(III)I"⟩, prog_9_method_37_code, 5, some .int, 6, 0, 0, 146, es_150)
-- 151: HarbourTugsModel isSet (I)Z
def es_151 : List (Nat × List (Nat × Ent)) := [(4, [(0, e0 (.iload_n 1)), (1, e0 .i2l), (2, e0 (.lconst 1)), (3, e0 (.lconst 1))]),
  (11, [(4, e0 (.aload_n 0)), (5, .getfield 7, 7, 0, 2220, 0, [40056]), (8, e0 (.bipush 64)), (10, e0 .laload)]),
  (15, [(11, e0 .l2i), (12, e0 .lshl), (13, e0 (.lconst 1)), (14, e0 .lsub)]),
  (100000, [(15, .invokestatic 46, 115, 3, 0, 0, [40117, 10008, 40119, 40118]), (18, e0 .ireturn)])]
def in_151 : MI := (⟨"HarbourTugsModel", "isSet", "(I)Z"⟩, prog_9_method_38_code, 2, some .boolean, 1, 0, 0, 25, es_151)
-- 152: HarbourTugsModel may (III)I
def es_152 : List (Nat × List (Nat × Ent)) := [(9, [(0, e0 (.aload_n 0)), (1, e0 (.iload_n 1)), (2, .invokevirtual 91, 120, 1, 72, 0, [40178, 10008, 40181, 40180, 29]), (5, .ifCond .eq 18, 23, 0, 0, 0, []), (8, e0 (.iload_n 2))]),
  (20, [(9, .invokestatic 54, 116, 1, 0, 0, [40125, 10008, 40127, 40126]), (12, .ifCond .eq 11, 23, 0, 0, 0, []), (15, e0 (.aload_n 0)), (16, e0 (.iload_n 3)), (17, .invokevirtual 159, 151, 1, 72, 0, [40222, 10008, 40225, 40224, 36])]),
  (27, [(20, .ifCond .ne 5, 25, 0, 0, 0, []), (23, e0 (.iconst (-1))), (24, e0 .ireturn), (25, e0 (.aload_n 0)), (26, e0 (.iload_n 1))]),
  (39, [(27, .invokevirtual 71, 125, 1, 72, 0, [40143, 10008, 40146, 40145, 26]), (30, .ifCond .eq 8, 38, 0, 0, 0, []), (33, e0 (.bipush (-2))), (35, .goto 10, 45, 0, 0, 0, []), (38, e0 (.aload_n 0))]),
  (100000, [(39, e0 (.iload_n 1)), (40, e0 (.iload_n 2)), (41, e0 (.iload_n 3)), (42, .invokevirtual 162, 150, 3, 72, 0, [40226, 10008, 40229, 40228, 37]), (45, e0 .ireturn)])]
def in_152 : MI := (⟨"HarbourTugsModel", "may", "(III)I"⟩, prog_9_method_39_code, 4, some .int, 7, 0, 0, 170, es_152)
-- 153: HarbourTugsModel lays (III)V
def es_153 : List (Nat × List (Nat × Ent)) := [(15, [(0, e0 (.aload_n 0)), (1, .getfield 7, 7, 0, 2220, 0, [40056]), (4, e0 (.sipush 130)), (7, e0 (.bipush 11)), (9, e0 (.iload_n 1)), (10, e0 .imul), (11, e0 .iadd), (12, e0 (.bipush 7)), (14, e0 .iadd)]),
  (29, [(15, e0 (.iload_n 2)), (16, e0 .i2l), (17, e0 .lastore), (18, e0 (.aload_n 0)), (19, .getfield 7, 7, 0, 2220, 0, [40056]), (22, e0 (.sipush 130)), (25, e0 (.bipush 11)), (27, e0 (.iload_n 1)), (28, e0 .imul)]),
  (41, [(29, e0 .iadd), (30, e0 (.bipush 8)), (32, e0 .iadd), (33, e0 (.iload_n 3)), (34, e0 .i2l), (35, e0 .lastore), (36, e0 (.iconst 0)), (37, e0 (.istore 4)), (39, e0 (.iload 4))]),
  (57, [(41, e0 .i2l), (42, e0 (.aload_n 0)), (43, .getfield 7, 7, 0, 2220, 0, [40056]), (46, e0 (.bipush 64)), (48, e0 .laload), (49, e0 .lcmp), (50, .ifCond .ge 54, 104, 0, 0, 0, []), (53, e0 (.aload_n 0)), (54, .getfield 7, 7, 0, 2220, 0, [40056])]),
  (70, [(57, e0 (.bipush 70)), (59, e0 (.bipush 10)), (61, e0 (.iload 4)), (63, e0 .imul), (64, e0 .iadd), (65, e0 (.bipush 8)), (67, e0 .iadd), (68, e0 .dup2), (69, e0 .laload)]),
  (82, [(70, e0 (.iload_n 3)), (71, e0 (.iload 4)), (73, e0 .ishr), (74, e0 (.iconst 1)), (75, e0 .iand), (76, e0 (.iconst 1)), (77, .if_icmp .ne 18, 95, 0, 0, 0, []), (80, e0 (.iload_n 2)), (81, e0 (.iload_n 2))]),
  (97, [(82, e0 (.aload_n 0)), (83, e0 (.iload_n 1)), (84, e0 (.iconst 3)), (85, .invokevirtual 62, 118, 2, 72, 0, [40147, 10008, 40150, 40149, 27]), (88, e0 .iadd), (89, .invokestatic 128, 134, 2, 0, 0, [50006, 10008, 50008, 50007]), (92, .goto 4, 96, 0, 0, 0, []), (95, e0 (.lconst 0)), (96, e0 .lor)]),
  (100000, [(97, e0 .lastore), (98, e0 (.iinc 4 1)), (101, .goto (-62), 39, 0, 0, 0, []), (104, e0 .return_)])]
def in_153 : MI := (⟨"HarbourTugsModel", "lays", "(III)V"⟩, prog_9_method_40_code, 5, none, 1, 0, 0, 22, es_153)
-- 154: HarbourTugsModel lay (III)I
def es_154 : List (Nat × List (Nat × Ent)) := [(9, [(0, e0 (.aload_n 0)), (1, e0 (.iload_n 1)), (2, e0 (.iload_n 2)), (3, e0 (.iload_n 3)), (4, .invokevirtual 166, 152, 3, 72, 0, [50037, 10008, 40221, 40219, 40220]), (7, e0 (.istore 4))]),
  (24, [(9, e0 (.iload 4)), (11, .ifCond .eq 16, 27, 0, 0, 0, []), (14, e0 (.iload 4)), (16, .ifCond .le 8, 24, 0, 0, 0, []), (19, e0 (.bipush (-2))), (21, .goto 5, 26, 0, 0, 0, [])]),
  (31, [(24, e0 (.iload 4)), (26, e0 .ireturn), (27, e0 (.aload_n 0)), (28, e0 (.iload_n 1)), (29, e0 (.iload_n 2)), (30, e0 (.iload_n 3))]),
  (42, [(31, .invokevirtual 169, 153, 3, 72, 0, [50038, 10008, 50041, 50040, 48]), (34, e0 (.aload_n 0)), (35, .getfield 7, 7, 0, 2220, 0, [40056]), (38, e0 (.bipush 66)), (40, e0 .dup2), (41, e0 .laload)]),
  (100000, [(42, e0 (.lconst 1)), (43, e0 .ladd), (44, e0 .lastore), (45, e0 (.iconst 0)), (46, e0 .ireturn)])]
def in_154 : MI := (⟨"HarbourTugsModel", "lay", "(III)I"⟩, prog_9_method_41_code, 5, some .int, 8, 0, 0, 193, es_154)
-- 155: HarbourTugsModel takes (II)I
def es_155 : List (Nat × List (Nat × Ent)) := [(17, [(0, e0 (.iconst 0)), (1, e0 (.istore_n 3)), (2, e0 (.aload_n 0)), (3, e0 (.iload_n 1)), (4, e0 (.bipush 7)), (6, .invokevirtual 62, 118, 2, 72, 0, [40147, 10008, 40150, 40149, 27]), (9, e0 (.iload_n 2)), (10, .if_icmp .ge 7, 17, 0, 0, 0, []), (13, e0 (.iload_n 2)), (14, .goto 10, 24, 0, 0, 0, [])]),
  (33, [(17, e0 (.aload_n 0)), (18, e0 (.iload_n 1)), (19, e0 (.bipush 7)), (21, .invokevirtual 62, 118, 2, 72, 0, [40147, 10008, 40150, 40149, 27]), (24, e0 (.istore 4)), (26, e0 (.iconst 0)), (27, e0 (.istore 5)), (29, e0 (.iload 5)), (31, e0 .i2l), (32, e0 (.aload_n 0))]),
  (53, [(33, .getfield 7, 7, 0, 2220, 0, [40056]), (36, e0 (.bipush 64)), (38, e0 .laload), (39, e0 .lcmp), (40, .ifCond .ge 67, 107, 0, 0, 0, []), (43, e0 (.aload_n 0)), (44, e0 (.iload_n 1)), (45, e0 (.iload 5)), (47, .invokevirtual 120, 143, 2, 72, 0, [50029, 10008, 50032, 50031, 47]), (50, .ifCond .eq 51, 101, 0, 0, 0, [])]),
  (69, [(53, e0 (.aload_n 0)), (54, .getfield 7, 7, 0, 2220, 0, [40056]), (57, e0 (.bipush 70)), (59, e0 (.bipush 10)), (61, e0 (.iload 5)), (63, e0 .imul), (64, e0 .iadd), (65, e0 (.bipush 8)), (67, e0 .iadd), (68, e0 .dup2)]),
  (86, [(69, e0 .laload), (70, e0 (.iload 4)), (72, e0 (.aload_n 0)), (73, e0 (.iload_n 1)), (74, .invokevirtual 124, 142, 1, 72, 0, [50002, 10008, 50005, 50004, 41]), (77, e0 (.iconst 1)), (78, e0 .iadd), (79, .invokestatic 128, 134, 2, 0, 0, [50006, 10008, 50008, 50007]), (82, .ldc2_w 111, 0, 0, 0, (-1), [40194]), (85, e0 .lxor)]),
  (99, [(86, e0 .land), (87, e0 .lastore), (88, e0 (.iload_n 3)), (89, e0 (.aload_n 0)), (90, e0 (.iload_n 1)), (91, .invokevirtual 124, 142, 1, 72, 0, [50002, 10008, 50005, 50004, 41]), (94, e0 (.iconst 1)), (95, e0 .iadd), (96, e0 (.iload 4)), (98, e0 .isub)]),
  (118, [(99, e0 .iadd), (100, e0 (.istore_n 3)), (101, e0 (.iinc 5 1)), (104, .goto (-75), 29, 0, 0, 0, []), (107, e0 (.aload_n 0)), (108, .getfield 7, 7, 0, 2220, 0, [40056]), (111, e0 (.sipush 130)), (114, e0 (.bipush 11)), (116, e0 (.iload_n 1)), (117, e0 .imul)]),
  (136, [(118, e0 .iadd), (119, e0 (.bipush 7)), (121, e0 .iadd), (122, .ldc2_w 89, 0, 0, 0, (-4), [40173]), (125, e0 .lastore), (126, e0 (.aload_n 0)), (127, .getfield 7, 7, 0, 2220, 0, [40056]), (130, e0 (.sipush 130)), (133, e0 (.bipush 11)), (135, e0 (.iload_n 1))]),
  (100000, [(136, e0 .imul), (137, e0 .iadd), (138, e0 (.bipush 8)), (140, e0 .iadd), (141, e0 (.lconst 0)), (142, e0 .lastore), (143, e0 (.iload_n 3)), (144, e0 .ireturn)])]
def in_155 : MI := (⟨"HarbourTugsModel", "takes", "(II)I"⟩, prog_9_method_42_code, 6, some .int, 3, 0, 0, 65, es_155)
-- 156: HarbourTugsModel off (I)I
def es_156 : List (Nat × List (Nat × Ent)) := [(9, [(0, e0 (.aload_n 0)), (1, e0 (.iload_n 1)), (2, .invokevirtual 91, 120, 1, 72, 0, [40178, 10008, 40181, 40180, 29]), (5, .ifCond .ne 5, 10, 0, 0, 0, []), (8, e0 (.iconst (-1)))]),
  (18, [(9, e0 .ireturn), (10, e0 (.aload_n 0)), (11, e0 (.iload_n 1)), (12, .invokevirtual 71, 125, 1, 72, 0, [40143, 10008, 40146, 40145, 26]), (15, .ifCond .ne 6, 21, 0, 0, 0, [])]),
  (25, [(18, e0 (.bipush (-2))), (20, e0 .ireturn), (21, e0 (.aload_n 0)), (22, e0 (.iload_n 1)), (23, e0 (.bipush 7))]),
  (32, [(25, .invokevirtual 62, 118, 2, 72, 0, [40147, 10008, 40150, 40149, 27]), (28, e0 (.istore_n 2)), (29, e0 (.aload_n 0)), (30, e0 (.iload_n 1)), (31, e0 (.iconst 0))]),
  (100000, [(32, .invokevirtual 173, 155, 2, 72, 0, [50046, 10008, 50049, 50048, 49]), (35, e0 .pop), (36, e0 (.iload_n 2)), (37, e0 .ireturn)])]
def in_156 : MI := (⟨"HarbourTugsModel", "off", "(I)I"⟩, prog_9_method_43_code, 3, some .int, 4, 0, 0, 90, es_156)
-- 157: HarbourTugsModel bits (I)I
def es_157 : List (Nat × List (Nat × Ent)) := [(5, [(0, e0 (.iconst 0)), (1, e0 (.istore_n 1)), (2, e0 (.iconst 0)), (3, e0 (.istore_n 2)), (4, e0 (.iload_n 2))]),
  (13, [(5, e0 (.bipush 8)), (7, .if_icmp .ge 17, 24, 0, 0, 0, []), (10, e0 (.iload_n 1)), (11, e0 (.iload_n 0)), (12, e0 (.iload_n 2))]),
  (18, [(13, e0 .ishr), (14, e0 (.iconst 1)), (15, e0 .iand), (16, e0 .iadd), (17, e0 (.istore_n 1))]),
  (100000, [(18, e0 (.iinc 2 1)), (21, .goto (-17), 4, 0, 0, 0, []), (24, e0 (.iload_n 1)), (25, e0 .ireturn)])]
def in_157 : MI := (⟨"HarbourTugsModel", "bits", "(I)I"⟩, prog_9_method_44_code, 3, some .int, 0, 0, 0, 0, es_157)
-- 158: HarbourTugsModel isBetter (II)Z
def es_158 : List (Nat × List (Nat × Ent)) := [(11, [(0, e0 (.iload_n 1)), (1, .invokestatic 176, 157, 1, 0, 0, [50062, 10008, 50064, 50063]), (4, e0 (.iload_n 2)), (5, .invokestatic 176, 157, 1, 0, 0, [50062, 10008, 50064, 50063]), (8, .if_icmp .eq 20, 28, 0, 0, 0, [])]),
  (22, [(11, e0 (.iload_n 1)), (12, .invokestatic 176, 157, 1, 0, 0, [50062, 10008, 50064, 50063]), (15, e0 (.iload_n 2)), (16, .invokestatic 176, 157, 1, 0, 0, [50062, 10008, 50064, 50063]), (19, .if_icmp .ge 7, 26, 0, 0, 0, [])]),
  (29, [(22, e0 (.iconst 1)), (23, .goto 4, 27, 0, 0, 0, []), (26, e0 (.iconst 0)), (27, e0 .ireturn), (28, e0 (.aload_n 0))]),
  (38, [(29, e0 (.iload_n 1)), (30, .invokevirtual 143, 140, 1, 72, 0, [50013, 10008, 50016, 50015, 43]), (33, e0 (.aload_n 0)), (34, e0 (.iload_n 2)), (35, .invokevirtual 143, 140, 1, 72, 0, [50013, 10008, 50016, 50015, 43])]),
  (100000, [(38, .if_icmp .ge 7, 45, 0, 0, 0, []), (41, e0 (.iconst 1)), (42, .goto 4, 46, 0, 0, 0, []), (45, e0 (.iconst 0)), (46, e0 .ireturn)])]
def in_158 : MI := (⟨"HarbourTugsModel", "isBetter", "(II)Z"⟩, prog_9_method_45_code, 3, some .boolean, 2, 0, 0, 45, es_158)
-- 159: HarbourTugsModel finds (I)Z
def es_159 : List (Nat × List (Nat × Ent)) := [(22, [(0, e0 (.aload_n 0)), (1, e0 (.iconst 0)), (2, .putfield 179, 7, 11, 0, 0, [40067]), (5, e0 (.iconst 0)), (6, e0 (.istore_n 2)), (7, e0 (.iload_n 2)), (8, e0 (.bipush 48)), (10, .if_icmp .ge 274, 284, 0, 0, 0, []), (13, e0 (.aload_n 0)), (14, .getfield 179, 7, 11, 0, 0, [40067]), (17, .ifCond .ne 267, 284, 0, 0, 0, []), (20, e0 (.aload_n 0)), (21, e0 (.iconst 1))]),
  (44, [(22, e0 (.iload_n 1)), (23, e0 (.iload_n 2)), (24, .invokevirtual 146, 147, 3, 72, 0, [40234, 10008, 40237, 40236, 39]), (27, .ifCond .ne 251, 278, 0, 0, 0, []), (30, e0 (.aload_n 0)), (31, e0 (.iconst 2)), (32, e0 (.iload_n 1)), (33, e0 (.iload_n 2)), (34, .invokevirtual 146, 147, 3, 72, 0, [40234, 10008, 40237, 40236, 39]), (37, .ifCond .ne 241, 278, 0, 0, 0, []), (40, e0 (.aload_n 0)), (41, e0 (.bipush 9)), (43, e0 (.iload_n 1))]),
  (67, [(44, e0 (.iload_n 2)), (45, .invokevirtual 146, 147, 3, 72, 0, [40234, 10008, 40237, 40236, 39]), (48, .ifCond .ne 230, 278, 0, 0, 0, []), (51, e0 (.aload_n 0)), (52, e0 (.bipush 12)), (54, e0 (.iload_n 1)), (55, e0 (.iload_n 2)), (56, .invokevirtual 146, 147, 3, 72, 0, [40234, 10008, 40237, 40236, 39]), (59, .ifCond .ne 219, 278, 0, 0, 0, []), (62, e0 (.iconst 0)), (63, e0 (.istore_n 3)), (64, e0 (.iconst 0)), (65, e0 (.istore 4))]),
  (87, [(67, e0 (.iload 4)), (69, e0 .i2l), (70, e0 (.aload_n 0)), (71, .getfield 7, 7, 0, 2220, 0, [40056]), (74, e0 (.bipush 64)), (76, e0 .laload), (77, e0 .lcmp), (78, .ifCond .ge 96, 174, 0, 0, 0, []), (81, e0 (.aload_n 0)), (82, e0 (.iconst 5)), (83, e0 (.iload 4)), (85, e0 (.iload_n 1)), (86, e0 (.iload_n 2))]),
  (112, [(87, .invokevirtual 153, 145, 4, 72, 0, [50017, 10008, 50020, 50019, 44]), (90, .ifCond .ne 59, 149, 0, 0, 0, []), (93, e0 (.aload_n 0)), (94, e0 (.bipush 8)), (96, e0 (.iload 4)), (98, e0 (.iload_n 1)), (99, e0 (.iload_n 2)), (100, .invokevirtual 153, 145, 4, 72, 0, [50017, 10008, 50020, 50019, 44]), (103, .ifCond .ne 46, 149, 0, 0, 0, []), (106, e0 (.aload_n 0)), (107, e0 (.bipush 6)), (109, e0 (.iload 4)), (111, e0 (.iload_n 1))]),
  (137, [(112, e0 (.iload_n 2)), (113, .invokevirtual 153, 145, 4, 72, 0, [50017, 10008, 50020, 50019, 44]), (116, .ifCond .ne 33, 149, 0, 0, 0, []), (119, e0 (.aload_n 0)), (120, e0 (.bipush 7)), (122, e0 (.iload 4)), (124, e0 (.iload_n 1)), (125, e0 (.iload_n 2)), (126, .invokevirtual 153, 145, 4, 72, 0, [50017, 10008, 50020, 50019, 44]), (129, .ifCond .ne 20, 149, 0, 0, 0, []), (132, e0 (.aload_n 0)), (133, e0 (.bipush 11)), (135, e0 (.iload 4))]),
  (161, [(137, e0 (.iload_n 1)), (138, e0 (.iload_n 2)), (139, .invokevirtual 153, 145, 4, 72, 0, [50017, 10008, 50020, 50019, 44]), (142, .ifCond .ne 7, 149, 0, 0, 0, []), (145, e0 (.iconst 1)), (146, .goto 4, 150, 0, 0, 0, []), (149, e0 (.iconst 0)), (150, e0 (.istore 5)), (152, e0 (.iload_n 3)), (153, e0 (.iload 5)), (155, .ifCond .eq 10, 165, 0, 0, 0, []), (158, e0 (.iconst 1)), (159, e0 (.iload 4))]),
  (185, [(161, e0 .ishl), (162, .goto 4, 166, 0, 0, 0, []), (165, e0 (.iconst 0)), (166, e0 .ior), (167, e0 (.istore_n 3)), (168, e0 (.iinc 4 1)), (171, .goto (-104), 67, 0, 0, 0, []), (174, e0 (.iconst 1)), (175, e0 (.istore 4)), (177, e0 (.iload 4)), (179, e0 (.iload_n 3)), (180, .if_icmp .gt 98, 278, 0, 0, 0, []), (183, e0 (.iload 4))]),
  (209, [(185, e0 (.iload_n 3)), (186, e0 (.iconst (-1))), (187, e0 .ixor), (188, e0 .iand), (189, .ifCond .ne 27, 216, 0, 0, 0, []), (192, e0 (.aload_n 0)), (193, .getfield 179, 7, 11, 0, 0, [40067]), (196, .ifCond .eq 16, 212, 0, 0, 0, []), (199, e0 (.aload_n 0)), (200, e0 (.iload 4)), (202, e0 (.aload_n 0)), (203, .getfield 179, 7, 11, 0, 0, [40067]), (206, .invokevirtual 183, 158, 2, 72, 0, [50058, 10008, 50061, 50060, 51])]),
  (233, [(209, .ifCond .eq 7, 216, 0, 0, 0, []), (212, e0 (.iconst 1)), (213, .goto 4, 217, 0, 0, 0, []), (216, e0 (.iconst 0)), (217, e0 (.istore 5)), (219, e0 (.iload 5)), (221, .ifCond .eq 51, 272, 0, 0, 0, []), (224, e0 (.aload_n 0)), (225, e0 (.iconst 3)), (226, e0 (.iload_n 1)), (227, e0 (.iload_n 2)), (228, e0 (.iload 4)), (230, .invokevirtual 149, 148, 4, 72, 0, [50009, 10008, 50012, 50011, 42])]),
  (255, [(233, .ifCond .ne 39, 272, 0, 0, 0, []), (236, e0 (.aload_n 0)), (237, e0 (.iconst 4)), (238, e0 (.iload_n 1)), (239, e0 (.iload_n 2)), (240, e0 (.iload 4)), (242, .invokevirtual 149, 148, 4, 72, 0, [50009, 10008, 50012, 50011, 42]), (245, .ifCond .ne 27, 272, 0, 0, 0, []), (248, e0 (.aload_n 0)), (249, e0 (.bipush 10)), (251, e0 (.iload_n 1)), (252, e0 (.iload_n 2)), (253, e0 (.iload 4))]),
  (285, [(255, .invokevirtual 149, 148, 4, 72, 0, [50009, 10008, 50012, 50011, 42]), (258, .ifCond .ne 14, 272, 0, 0, 0, []), (261, e0 (.aload_n 0)), (262, e0 (.iload 4)), (264, .putfield 179, 7, 11, 0, 0, [40067]), (267, e0 (.aload_n 0)), (268, e0 (.iload_n 2)), (269, .putfield 186, 7, 10, 0, 0, [40066]), (272, e0 (.iinc 4 1)), (275, .goto (-98), 177, 0, 0, 0, []), (278, e0 (.iinc 2 1)), (281, .goto (-274), 7, 0, 0, 0, []), (284, e0 (.aload_n 0))]),
  (100000, [(285, .getfield 179, 7, 11, 0, 0, [40067]), (288, .ifCond .le 7, 295, 0, 0, 0, []), (291, e0 (.iconst 1)), (292, .goto 4, 296, 0, 0, 0, []), (295, e0 (.iconst 0)), (296, e0 .ireturn)])]
def in_159 : MI := (⟨"HarbourTugsModel", "finds", "(I)Z"⟩, prog_9_method_46_code, 6, some .boolean, 5, 0, 0, 120, es_159)
-- 160: HarbourTugsModel best (II)I
def es_160 : List (Nat × List (Nat × Ent)) := [(10, [(0, e0 (.aload_n 0)), (1, e0 (.iload_n 1)), (2, .invokevirtual 91, 120, 1, 72, 0, [40178, 10008, 40181, 40180, 29]), (5, .ifCond .eq 13, 18, 0, 0, 0, []), (8, e0 (.iload_n 2)), (9, e0 .i2l)]),
  (20, [(10, e0 (.lconst 0)), (11, e0 (.lconst 1)), (12, .invokestatic 46, 115, 3, 0, 0, [40117, 10008, 40119, 40118]), (15, .ifCond .ne 5, 20, 0, 0, 0, []), (18, e0 (.iconst (-1))), (19, e0 .ireturn)]),
  (31, [(20, e0 (.aload_n 0)), (21, e0 (.iload_n 1)), (22, .invokevirtual 71, 125, 1, 72, 0, [40143, 10008, 40146, 40145, 26]), (25, .ifCond .eq 6, 31, 0, 0, 0, []), (28, e0 (.bipush (-2))), (30, e0 .ireturn)]),
  (44, [(31, e0 (.aload_n 0)), (32, e0 (.iload_n 1)), (33, .invokevirtual 189, 159, 1, 72, 0, [50054, 10008, 50057, 50056, 50]), (36, .ifCond .ne 8, 44, 0, 0, 0, []), (39, e0 (.bipush (-4))), (41, .goto 18, 59, 0, 0, 0, [])]),
  (56, [(44, e0 (.iload_n 2)), (45, .ifCond .ne 10, 55, 0, 0, 0, []), (48, e0 (.aload_n 0)), (49, .getfield 186, 7, 10, 0, 0, [40066]), (52, .goto 7, 59, 0, 0, 0, []), (55, e0 (.aload_n 0))]),
  (100000, [(56, .getfield 179, 7, 11, 0, 0, [40067]), (59, e0 .ireturn)])]
def in_160 : MI := (⟨"HarbourTugsModel", "best", "(II)I"⟩, prog_9_method_47_code, 3, some .int, 6, 0, 0, 145, es_160)
-- 161: HarbourTugsModel job (II)I
def es_161 : List (Nat × List (Nat × Ent)) := [(10, [(0, e0 (.aload_n 0)), (1, e0 (.iload_n 1)), (2, .invokevirtual 91, 120, 1, 72, 0, [40178, 10008, 40181, 40180, 29]), (5, .ifCond .eq 13, 18, 0, 0, 0, []), (8, e0 (.iload_n 2)), (9, e0 .i2l)]),
  (20, [(10, e0 (.lconst 0)), (11, e0 (.lconst 1)), (12, .invokestatic 46, 115, 3, 0, 0, [40117, 10008, 40119, 40118]), (15, .ifCond .ne 5, 20, 0, 0, 0, []), (18, e0 (.iconst (-1))), (19, e0 .ireturn)]),
  (33, [(20, e0 (.aload_n 0)), (21, e0 (.iload_n 1)), (22, .invokevirtual 71, 125, 1, 72, 0, [40143, 10008, 40146, 40145, 26]), (25, .ifCond .ne 8, 33, 0, 0, 0, []), (28, e0 (.bipush (-4))), (30, .goto 24, 54, 0, 0, 0, [])]),
  (44, [(33, e0 (.iload_n 2)), (34, .ifCond .ne 13, 47, 0, 0, 0, []), (37, e0 (.aload_n 0)), (38, e0 (.iload_n 1)), (39, e0 (.bipush 7)), (41, .invokevirtual 62, 118, 2, 72, 0, [40147, 10008, 40150, 40149, 27])]),
  (100000, [(44, .goto 10, 54, 0, 0, 0, []), (47, e0 (.aload_n 0)), (48, e0 (.iload_n 1)), (49, e0 (.bipush 8)), (51, .invokevirtual 62, 118, 2, 72, 0, [40147, 10008, 40150, 40149, 27]), (54, e0 .ireturn)])]
def in_161 : MI := (⟨"HarbourTugsModel", "job", "(II)I"⟩, prog_9_method_48_code, 3, some .int, 2, 0, 0, 46, es_161)
-- 162: HarbourTugsModel asides ()V
def es_162 : List (Nat × List (Nat × Ent)) := [(14, [(0, e0 (.iconst 0)), (1, e0 (.istore_n 1)), (2, e0 (.iload_n 1)), (3, e0 (.bipush 6)), (5, .if_icmp .ge 30, 35, 0, 0, 0, []), (8, e0 (.aload_n 0)), (9, .getfield 35, 7, 12, 2024, 0, [40068]), (12, e0 (.iload_n 1)), (13, e0 (.aload_n 0))]),
  (28, [(14, .getfield 7, 7, 0, 2220, 0, [40056]), (17, e0 (.bipush 70)), (19, e0 (.bipush 10)), (21, e0 (.iload_n 1)), (22, e0 .imul), (23, e0 .iadd), (24, e0 (.bipush 8)), (26, e0 .iadd), (27, e0 .laload)]),
  (44, [(28, e0 .lastore), (29, e0 (.iinc 1 1)), (32, .goto (-30), 2, 0, 0, 0, []), (35, e0 (.iconst 0)), (36, e0 (.istore_n 1)), (37, e0 (.iload_n 1)), (38, e0 (.bipush 8)), (40, .if_icmp .ge 63, 103, 0, 0, 0, []), (43, e0 (.aload_n 0))]),
  (60, [(44, .getfield 35, 7, 12, 2024, 0, [40068]), (47, e0 (.bipush 6)), (49, e0 (.iconst 2)), (50, e0 (.iload_n 1)), (51, e0 .imul), (52, e0 .iadd), (53, e0 (.aload_n 0)), (54, .getfield 7, 7, 0, 2220, 0, [40056]), (57, e0 (.sipush 130))]),
  (71, [(60, e0 (.bipush 11)), (62, e0 (.iload_n 1)), (63, e0 .imul), (64, e0 .iadd), (65, e0 (.bipush 7)), (67, e0 .iadd), (68, e0 .laload), (69, e0 .lastore), (70, e0 (.aload_n 0))]),
  (87, [(71, .getfield 35, 7, 12, 2024, 0, [40068]), (74, e0 (.bipush 7)), (76, e0 (.iconst 2)), (77, e0 (.iload_n 1)), (78, e0 .imul), (79, e0 .iadd), (80, e0 (.aload_n 0)), (81, .getfield 7, 7, 0, 2220, 0, [40056]), (84, e0 (.sipush 130))]),
  (100, [(87, e0 (.bipush 11)), (89, e0 (.iload_n 1)), (90, e0 .imul), (91, e0 .iadd), (92, e0 (.bipush 8)), (94, e0 .iadd), (95, e0 .laload), (96, e0 .lastore), (97, e0 (.iinc 1 1))]),
  (100000, [(100, .goto (-63), 37, 0, 0, 0, []), (103, e0 .return_)])]
def in_162 : MI := (⟨"HarbourTugsModel", "asides", "()V"⟩, prog_9_method_49_code, 2, none, 0, 0, 0, 0, es_162)
-- 163: HarbourTugsModel returns ()V
def es_163 : List (Nat × List (Nat × Ent)) := [(16, [(0, e0 (.iconst 0)), (1, e0 (.istore_n 1)), (2, e0 (.iload_n 1)), (3, e0 (.bipush 6)), (5, .if_icmp .ge 30, 35, 0, 0, 0, []), (8, e0 (.aload_n 0)), (9, .getfield 7, 7, 0, 2220, 0, [40056]), (12, e0 (.bipush 70)), (14, e0 (.bipush 10))]),
  (28, [(16, e0 (.iload_n 1)), (17, e0 .imul), (18, e0 .iadd), (19, e0 (.bipush 8)), (21, e0 .iadd), (22, e0 (.aload_n 0)), (23, .getfield 35, 7, 12, 2024, 0, [40068]), (26, e0 (.iload_n 1)), (27, e0 .laload)]),
  (44, [(28, e0 .lastore), (29, e0 (.iinc 1 1)), (32, .goto (-30), 2, 0, 0, 0, []), (35, e0 (.iconst 0)), (36, e0 (.istore_n 1)), (37, e0 (.iload_n 1)), (38, e0 (.bipush 8)), (40, .if_icmp .ge 63, 103, 0, 0, 0, []), (43, e0 (.aload_n 0))]),
  (59, [(44, .getfield 7, 7, 0, 2220, 0, [40056]), (47, e0 (.sipush 130)), (50, e0 (.bipush 11)), (52, e0 (.iload_n 1)), (53, e0 .imul), (54, e0 .iadd), (55, e0 (.bipush 7)), (57, e0 .iadd), (58, e0 (.aload_n 0))]),
  (71, [(59, .getfield 35, 7, 12, 2024, 0, [40068]), (62, e0 (.bipush 6)), (64, e0 (.iconst 2)), (65, e0 (.iload_n 1)), (66, e0 .imul), (67, e0 .iadd), (68, e0 .laload), (69, e0 .lastore), (70, e0 (.aload_n 0))]),
  (86, [(71, .getfield 7, 7, 0, 2220, 0, [40056]), (74, e0 (.sipush 130)), (77, e0 (.bipush 11)), (79, e0 (.iload_n 1)), (80, e0 .imul), (81, e0 .iadd), (82, e0 (.bipush 8)), (84, e0 .iadd), (85, e0 (.aload_n 0))]),
  (100, [(86, .getfield 35, 7, 12, 2024, 0, [40068]), (89, e0 (.bipush 7)), (91, e0 (.iconst 2)), (92, e0 (.iload_n 1)), (93, e0 .imul), (94, e0 .iadd), (95, e0 .laload), (96, e0 .lastore), (97, e0 (.iinc 1 1))]),
  (100000, [(100, .goto (-63), 37, 0, 0, 0, []), (103, e0 .return_)])]
def in_163 : MI := (⟨"HarbourTugsModel", "returns", "()V"⟩, prog_9_method_50_code, 2, none, 0, 0, 0, 0, es_163)
-- 164: HarbourTugsModel empties ()V
def es_164 : List (Nat × List (Nat × Ent)) := [(14, [(0, e0 (.iconst 0)), (1, e0 (.istore_n 1)), (2, e0 (.iload_n 1)), (3, e0 (.bipush 6)), (5, .if_icmp .ge 25, 30, 0, 0, 0, []), (8, e0 (.aload_n 0)), (9, .getfield 7, 7, 0, 2220, 0, [40056]), (12, e0 (.bipush 70))]),
  (24, [(14, e0 (.bipush 10)), (16, e0 (.iload_n 1)), (17, e0 .imul), (18, e0 .iadd), (19, e0 (.bipush 8)), (21, e0 .iadd), (22, e0 (.lconst 0)), (23, e0 .lastore)]),
  (38, [(24, e0 (.iinc 1 1)), (27, .goto (-25), 2, 0, 0, 0, []), (30, e0 (.iconst 0)), (31, e0 (.istore_n 1)), (32, e0 (.iload_n 1)), (33, e0 .i2l), (34, e0 (.aload_n 0)), (35, .getfield 7, 7, 0, 2220, 0, [40056])]),
  (54, [(38, e0 (.bipush 65)), (40, e0 .laload), (41, e0 .lcmp), (42, .ifCond .ge 45, 87, 0, 0, 0, []), (45, e0 (.aload_n 0)), (46, .getfield 7, 7, 0, 2220, 0, [40056]), (49, e0 (.sipush 130)), (52, e0 (.bipush 11))]),
  (65, [(54, e0 (.iload_n 1)), (55, e0 .imul), (56, e0 .iadd), (57, e0 (.bipush 7)), (59, e0 .iadd), (60, .ldc2_w 89, 0, 0, 0, (-4), [40173]), (63, e0 .lastore), (64, e0 (.aload_n 0))]),
  (79, [(65, .getfield 7, 7, 0, 2220, 0, [40056]), (68, e0 (.sipush 130)), (71, e0 (.bipush 11)), (73, e0 (.iload_n 1)), (74, e0 .imul), (75, e0 .iadd), (76, e0 (.bipush 8)), (78, e0 .iadd)]),
  (100000, [(79, e0 (.lconst 0)), (80, e0 .lastore), (81, e0 (.iinc 1 1)), (84, .goto (-52), 32, 0, 0, 0, []), (87, e0 .return_)])]
def in_164 : MI := (⟨"HarbourTugsModel", "empties", "()V"⟩, prog_9_method_51_code, 2, none, 0, 0, 0, 0, es_164)
-- 165: HarbourTugsModel waited (I)I
def es_165 : List (Nat × List (Nat × Ent)) := [(6, [(0, e0 (.iconst 0)), (1, e0 (.istore_n 2)), (2, e0 (.iconst 0)), (3, e0 (.istore_n 3)), (4, e0 (.iload_n 3)), (5, e0 (.iload_n 1))]),
  (16, [(6, .if_icmp .ge 46, 52, 0, 0, 0, []), (9, e0 (.iload_n 2)), (10, e0 (.aload_n 0)), (11, e0 (.iload_n 3)), (12, e0 (.iconst 4)), (13, .invokevirtual 62, 118, 2, 72, 0, [40147, 10008, 40150, 40149, 27])]),
  (26, [(16, e0 (.aload_n 0)), (17, e0 (.iload_n 3)), (18, .invokevirtual 71, 125, 1, 72, 0, [40143, 10008, 40146, 40145, 26]), (21, .ifCond .eq 13, 34, 0, 0, 0, []), (24, e0 (.aload_n 0)), (25, e0 (.iload_n 3))]),
  (38, [(26, e0 (.bipush 7)), (28, .invokevirtual 62, 118, 2, 72, 0, [40147, 10008, 40150, 40149, 27]), (31, .goto 5, 36, 0, 0, 0, []), (34, e0 (.bipush 60)), (36, e0 (.aload_n 0)), (37, e0 (.iload_n 3))]),
  (46, [(38, e0 (.iconst 2)), (39, .invokevirtual 62, 118, 2, 72, 0, [40147, 10008, 40150, 40149, 27]), (42, e0 .isub), (43, e0 .imul), (44, e0 .iadd), (45, e0 (.istore_n 2))]),
  (100000, [(46, e0 (.iinc 3 1)), (49, .goto (-45), 4, 0, 0, 0, []), (52, e0 (.iload_n 2)), (53, e0 .ireturn)])]
def in_165 : MI := (⟨"HarbourTugsModel", "waited", "(I)I"⟩, prog_9_method_52_code, 4, some .int, 2, 0, 0, 43, es_165)
-- 166: HarbourTugsModel ordered (II)I
def es_166 : List (Nat × List (Nat × Ent)) := [(12, [(0, e0 (.iconst 1)), (1, e0 (.istore_n 2)), (2, e0 (.iconst 2)), (3, e0 (.istore_n 3)), (4, e0 (.iload_n 3)), (5, e0 (.iload_n 0)), (6, .if_icmp .ge 13, 19, 0, 0, 0, []), (9, e0 (.iload_n 2)), (10, e0 (.iload_n 3)), (11, e0 .imul)]),
  (28, [(12, e0 (.istore_n 2)), (13, e0 (.iinc 3 1)), (16, .goto (-12), 4, 0, 0, 0, []), (19, e0 (.iload_n 1)), (20, e0 (.istore_n 3)), (21, e0 (.iconst 0)), (22, e0 (.istore 4)), (24, e0 (.iconst 0)), (25, e0 (.istore 5)), (27, e0 (.iconst 0))]),
  (43, [(28, e0 (.istore 6)), (30, e0 (.iload 6)), (32, e0 (.iload_n 0)), (33, .if_icmp .ge 106, 139, 0, 0, 0, []), (36, e0 (.iload_n 3)), (37, e0 (.iload_n 2)), (38, e0 .idiv), (39, e0 (.istore 7)), (41, e0 (.iload_n 3)), (42, e0 (.iload_n 2))]),
  (56, [(43, e0 .irem), (44, e0 (.istore_n 3)), (45, e0 (.iload 6)), (47, e0 (.iload_n 0)), (48, e0 (.iconst 1)), (49, e0 .isub), (50, .if_icmp .ge 14, 64, 0, 0, 0, []), (53, e0 (.iload_n 2)), (54, e0 (.iload_n 0)), (55, e0 (.iconst 1))]),
  (71, [(56, e0 .isub), (57, e0 (.iload 6)), (59, e0 .isub), (60, e0 .idiv), (61, .goto 4, 65, 0, 0, 0, []), (64, e0 (.iconst 1)), (65, e0 (.istore_n 2)), (66, e0 (.iconst 0)), (67, e0 (.istore 8)), (69, e0 (.iload 4))]),
  (89, [(71, e0 (.iload 8)), (73, e0 .ishr), (74, e0 (.iconst 1)), (75, e0 .iand), (76, e0 (.iconst 1)), (77, .if_icmp .eq 8, 85, 0, 0, 0, []), (80, e0 (.iload 7)), (82, .ifCond .le 30, 112, 0, 0, 0, []), (85, e0 (.iload 7)), (87, e0 (.iload 4))]),
  (104, [(89, e0 (.iload 8)), (91, e0 .ishr), (92, e0 (.iconst 1)), (93, e0 .iand), (94, e0 (.iconst 1)), (95, .if_icmp .ne 7, 102, 0, 0, 0, []), (98, e0 (.iconst 0)), (99, .goto 4, 103, 0, 0, 0, []), (102, e0 (.iconst 1)), (103, e0 .isub)]),
  (123, [(104, e0 (.istore 7)), (106, e0 (.iinc 8 1)), (109, .goto (-40), 69, 0, 0, 0, []), (112, e0 (.iload 4)), (114, e0 (.iconst 1)), (115, e0 (.iload 8)), (117, e0 .ishl), (118, e0 .ior), (119, e0 (.istore 4)), (121, e0 (.iload 5))]),
  (141, [(123, e0 (.iload 8)), (125, e0 (.iconst 3)), (126, e0 (.iload 6)), (128, e0 .imul), (129, e0 .ishl), (130, e0 .ior), (131, e0 (.istore 5)), (133, e0 (.iinc 6 1)), (136, .goto (-106), 30, 0, 0, 0, []), (139, e0 (.iload 5))]),
  (100000, [(141, e0 .ireturn)])]
def in_166 : MI := (⟨"HarbourTugsModel", "ordered", "(II)I"⟩, prog_9_method_53_code, 9, some .int, 0, 0, 0, 0, es_166)
-- 167: HarbourTugsModel plans (II)I
def es_167 : List (Nat × List (Nat × Ent)) := [(8, [(0, e0 (.iconst 0)), (1, e0 (.istore_n 3)), (2, e0 (.iconst 0)), (3, e0 (.istore 4)), (5, e0 (.iload 4)), (7, e0 (.iload_n 1))]),
  (17, [(8, .if_icmp .ge 46, 54, 0, 0, 0, []), (11, e0 (.iload_n 2)), (12, e0 (.iconst 3)), (13, e0 (.iload 4)), (15, e0 .imul), (16, e0 .ishr)]),
  (28, [(17, e0 (.bipush 7)), (19, e0 .iand), (20, e0 (.istore 5)), (22, e0 (.aload_n 0)), (23, e0 (.iload 5)), (25, .invokevirtual 189, 159, 1, 72, 0, [50054, 10008, 50057, 50056, 50])]),
  (39, [(28, .ifCond .eq 20, 48, 0, 0, 0, []), (31, e0 (.aload_n 0)), (32, e0 (.iload 5)), (34, e0 (.aload_n 0)), (35, .getfield 186, 7, 10, 0, 0, [40066]), (38, e0 (.aload_n 0))]),
  (55, [(39, .getfield 179, 7, 11, 0, 0, [40067]), (42, .invokevirtual 169, 153, 3, 72, 0, [50038, 10008, 50041, 50040, 48]), (45, e0 (.iinc 3 1)), (48, e0 (.iinc 4 1)), (51, .goto (-46), 5, 0, 0, 0, []), (54, e0 (.iload_n 3))]),
  (100000, [(55, e0 .ireturn)])]
def in_167 : MI := (⟨"HarbourTugsModel", "plans", "(II)I"⟩, prog_9_method_54_code, 6, some .int, 6, 0, 0, 145, es_167)
-- 168: HarbourTugsModel isMany (I)Z
def es_168 : List (Nat × List (Nat × Ent)) := [(9, [(0, e0 (.iload_n 1)), (1, e0 .i2l), (2, e0 (.lconst 1)), (3, .ldc2_w 83, 0, 0, 0, 4, [40170]), (6, .invokestatic 46, 115, 3, 0, 0, [40117, 10008, 40119, 40118])]),
  (18, [(9, .ifCond .eq 20, 29, 0, 0, 0, []), (12, e0 (.iload_n 1)), (13, e0 .i2l), (14, e0 (.aload_n 0)), (15, .getfield 7, 7, 0, 2220, 0, [40056])]),
  (26, [(18, e0 (.bipush 65)), (20, e0 .laload), (21, e0 .lcmp), (22, .ifCond .gt 7, 29, 0, 0, 0, []), (25, e0 (.iconst 1))]),
  (100000, [(26, .goto 4, 30, 0, 0, 0, []), (29, e0 (.iconst 0)), (30, e0 .ireturn)])]
def in_168 : MI := (⟨"HarbourTugsModel", "isMany", "(I)Z"⟩, prog_9_method_55_code, 2, some .boolean, 1, 0, 0, 25, es_168)
-- 169: HarbourTugsModel bestOrder (I)I
def es_169 : List (Nat × List (Nat × Ent)) := [(10, [(0, e0 (.iconst 1)), (1, e0 (.istore_n 2)), (2, e0 (.iconst 2)), (3, e0 (.istore_n 3)), (4, e0 (.iload_n 3)), (5, e0 (.iload_n 1)), (6, .if_icmp .gt 13, 19, 0, 0, 0, []), (9, e0 (.iload_n 2))]),
  (24, [(10, e0 (.iload_n 3)), (11, e0 .imul), (12, e0 (.istore_n 2)), (13, e0 (.iinc 3 1)), (16, .goto (-12), 4, 0, 0, 0, []), (19, e0 (.aload_n 0)), (20, .invokevirtual 192, 162, 0, 72, 0, [50081, 10008, 50084, 50083, 54]), (23, e0 (.iconst 0))]),
  (37, [(24, e0 (.istore_n 3)), (25, e0 (.aload_n 0)), (26, .ldc 195, 0, 0, 0, 999999, [50085]), (28, .putfield 196, 7, 13, 0, 0, [40069]), (31, e0 (.iconst 0)), (32, e0 (.istore 4)), (34, e0 (.iload 4)), (36, e0 (.iload_n 2))]),
  (53, [(37, .if_icmp .ge 78, 115, 0, 0, 0, []), (40, e0 (.iload_n 1)), (41, e0 (.iload 4)), (43, .invokestatic 199, 166, 2, 0, 0, [50086, 10008, 50088, 50087]), (46, e0 (.istore 5)), (48, e0 (.aload_n 0)), (49, .invokevirtual 202, 164, 0, 72, 0, [50089, 10008, 50092, 50091, 55]), (52, e0 (.aload_n 0))]),
  (67, [(53, e0 (.iload_n 1)), (54, e0 (.iload 5)), (56, .invokevirtual 205, 167, 2, 72, 0, [50093, 10008, 50096, 50095, 56]), (59, e0 .pop), (60, e0 (.aload_n 0)), (61, e0 (.iload_n 1)), (62, .invokevirtual 208, 165, 1, 72, 0, [50097, 10008, 50100, 50099, 57]), (65, e0 (.istore 6))]),
  (83, [(67, e0 (.iload 6)), (69, e0 (.aload_n 0)), (70, .getfield 196, 7, 13, 0, 0, [40069]), (73, .if_icmp .ge 8, 81, 0, 0, 0, []), (76, e0 (.iload 5)), (78, .goto 4, 82, 0, 0, 0, []), (81, e0 (.iload_n 3)), (82, e0 (.istore_n 3))]),
  (99, [(83, e0 (.aload_n 0)), (84, e0 (.iload 6)), (86, e0 (.aload_n 0)), (87, .getfield 196, 7, 13, 0, 0, [40069]), (90, .if_icmp .ge 8, 98, 0, 0, 0, []), (93, e0 (.iload 6)), (95, .goto 7, 102, 0, 0, 0, []), (98, e0 (.aload_n 0))]),
  (100000, [(99, .getfield 196, 7, 13, 0, 0, [40069]), (102, .putfield 196, 7, 13, 0, 0, [40069]), (105, e0 (.aload_n 0)), (106, .invokevirtual 211, 163, 0, 72, 0, [50101, 10008, 50104, 50103, 58]), (109, e0 (.iinc 4 1)), (112, .goto (-78), 34, 0, 0, 0, []), (115, e0 (.iload_n 3)), (116, e0 .ireturn)])]
def in_169 : MI := (⟨"HarbourTugsModel", "bestOrder", "(I)I"⟩, prog_9_method_56_code, 7, some .int, 7, 0, 0, 170, es_169)
-- 170: HarbourTugsModel order (II)I
def es_170 : List (Nat × List (Nat × Ent)) := [(10, [(0, e0 (.aload_n 0)), (1, e0 (.iload_n 1)), (2, .invokevirtual 214, 168, 1, 72, 0, [50073, 10008, 50076, 50075, 52]), (5, .ifCond .eq 8, 13, 0, 0, 0, []), (8, e0 (.iload_n 2)), (9, e0 (.iconst (-1)))]),
  (20, [(10, .if_icmp .ge 5, 15, 0, 0, 0, []), (13, e0 (.iconst (-1))), (14, e0 .ireturn), (15, e0 (.aload_n 0)), (16, e0 (.iload_n 1)), (17, .invokevirtual 217, 169, 1, 72, 0, [50077, 10008, 50080, 50079, 53])]),
  (32, [(20, e0 (.istore_n 3)), (21, e0 (.iload_n 2)), (22, .ifCond .ge 10, 32, 0, 0, 0, []), (25, e0 (.aload_n 0)), (26, .getfield 196, 7, 13, 0, 0, [40069]), (29, .goto 21, 50, 0, 0, 0, [])]),
  (40, [(32, e0 (.iload_n 2)), (33, e0 (.iload_n 1)), (34, .if_icmp .ge 14, 48, 0, 0, 0, []), (37, e0 (.iload_n 3)), (38, e0 (.iconst 3)), (39, e0 (.iload_n 2))]),
  (50, [(40, e0 .imul), (41, e0 .ishr), (42, e0 (.bipush 7)), (44, e0 .iand), (45, .goto 5, 50, 0, 0, 0, []), (48, e0 (.bipush (-4)))]),
  (100000, [(50, e0 .ireturn)])]
def in_170 : MI := (⟨"HarbourTugsModel", "order", "(II)I"⟩, prog_9_method_57_code, 4, some .int, 8, 0, 0, 196, es_170)
-- 171: HarbourTugsModel layOrder (I)I
def es_171 : List (Nat × List (Nat × Ent)) := [(10, [(0, e0 (.aload_n 0)), (1, e0 (.iload_n 1)), (2, .invokevirtual 214, 168, 1, 72, 0, [50073, 10008, 50076, 50075, 52]), (5, .ifCond .ne 5, 10, 0, 0, 0, []), (8, e0 (.iconst (-1))), (9, e0 .ireturn)]),
  (20, [(10, e0 (.aload_n 0)), (11, e0 (.iload_n 1)), (12, .invokevirtual 217, 169, 1, 72, 0, [50077, 10008, 50080, 50079, 53]), (15, e0 (.istore_n 2)), (16, e0 (.aload_n 0)), (17, .invokevirtual 202, 164, 0, 72, 0, [50089, 10008, 50092, 50091, 55])]),
  (28, [(20, e0 (.aload_n 0)), (21, e0 (.iload_n 1)), (22, e0 (.iload_n 2)), (23, .invokevirtual 205, 167, 2, 72, 0, [50093, 10008, 50096, 50095, 56]), (26, e0 (.istore_n 3)), (27, e0 (.aload_n 0))]),
  (37, [(28, .getfield 7, 7, 0, 2220, 0, [40056]), (31, e0 (.bipush 66)), (33, e0 .dup2), (34, e0 .laload), (35, e0 (.iload_n 3)), (36, e0 .i2l)]),
  (100000, [(37, e0 .ladd), (38, e0 .lastore), (39, e0 (.iload_n 3)), (40, e0 .ireturn)])]
def in_171 : MI := (⟨"HarbourTugsModel", "layOrder", "(I)I"⟩, prog_9_method_58_code, 4, some .int, 8, 0, 0, 196, es_171)
-- 172: HarbourTugsModel tries (II)I
def es_172 : List (Nat × List (Nat × Ent)) := [(9, [(0, e0 (.iconst 0)), (1, e0 (.istore_n 3)), (2, e0 (.iload_n 3)), (3, e0 (.iload_n 1)), (4, .if_icmp .ge 25, 29, 0, 0, 0, []), (7, e0 (.iload_n 2)), (8, e0 (.iload_n 3))]),
  (18, [(9, e0 .ishr), (10, e0 (.iconst 1)), (11, e0 .iand), (12, e0 (.iconst 1)), (13, .if_icmp .ne 10, 23, 0, 0, 0, []), (16, e0 (.aload_n 0)), (17, e0 (.iload_n 3))]),
  (31, [(18, e0 (.iconst 0)), (19, .invokevirtual 173, 155, 2, 72, 0, [50046, 10008, 50049, 50048, 49]), (22, e0 .pop), (23, e0 (.iinc 3 1)), (26, .goto (-24), 2, 0, 0, 0, []), (29, e0 (.iconst 0)), (30, e0 (.istore_n 3))]),
  (43, [(31, e0 (.iconst 0)), (32, e0 (.istore 4)), (34, e0 (.iload 4)), (36, e0 (.iload_n 1)), (37, .if_icmp .ge 44, 81, 0, 0, 0, []), (40, e0 (.aload_n 0)), (41, e0 (.iload 4))]),
  (59, [(43, .invokevirtual 71, 125, 1, 72, 0, [40143, 10008, 40146, 40145, 26]), (46, .ifCond .ne 29, 75, 0, 0, 0, []), (49, e0 (.aload_n 0)), (50, e0 (.iload 4)), (52, .invokevirtual 189, 159, 1, 72, 0, [50054, 10008, 50057, 50056, 50]), (55, .ifCond .eq 20, 75, 0, 0, 0, []), (58, e0 (.aload_n 0))]),
  (75, [(59, e0 (.iload 4)), (61, e0 (.aload_n 0)), (62, .getfield 186, 7, 10, 0, 0, [40066]), (65, e0 (.aload_n 0)), (66, .getfield 179, 7, 11, 0, 0, [40067]), (69, .invokevirtual 169, 153, 3, 72, 0, [50038, 10008, 50041, 50040, 48]), (72, e0 (.iinc 3 1))]),
  (100000, [(75, e0 (.iinc 4 1)), (78, .goto (-44), 34, 0, 0, 0, []), (81, e0 (.iload_n 3)), (82, e0 .ireturn)])]
def in_172 : MI := (⟨"HarbourTugsModel", "tries", "(II)I"⟩, prog_9_method_59_code, 5, some .int, 6, 0, 0, 145, es_172)
-- 173: HarbourTugsModel mends (I)V
def es_173 : List (Nat × List (Nat × Ent)) := [(15, [(0, e0 (.iconst 0)), (1, e0 (.istore_n 2)), (2, e0 (.iconst 0)), (3, e0 (.istore_n 3)), (4, e0 (.iload_n 3)), (5, e0 (.iload_n 1)), (6, .if_icmp .ge 27, 33, 0, 0, 0, []), (9, e0 (.iload_n 2)), (10, e0 (.aload_n 0)), (11, e0 (.iload_n 3)), (12, .invokevirtual 71, 125, 1, 72, 0, [40143, 10008, 40146, 40145, 26])]),
  (34, [(15, .ifCond .eq 9, 24, 0, 0, 0, []), (18, e0 (.iconst 1)), (19, e0 (.iload_n 3)), (20, e0 .ishl), (21, .goto 4, 25, 0, 0, 0, []), (24, e0 (.iconst 0)), (25, e0 .ior), (26, e0 (.istore_n 2)), (27, e0 (.iinc 3 1)), (30, .goto (-26), 4, 0, 0, 0, []), (33, e0 (.aload_n 0))]),
  (51, [(34, .invokevirtual 192, 162, 0, 72, 0, [50081, 10008, 50084, 50083, 54]), (37, e0 (.aload_n 0)), (38, e0 (.iconst (-1))), (39, .putfield 220, 7, 14, 0, 0, [40070]), (42, e0 (.iconst 0)), (43, e0 (.istore_n 3)), (44, e0 (.iload_n 3)), (45, e0 (.iconst 1)), (46, e0 (.iload_n 1)), (47, e0 .ishl), (48, .if_icmp .ge 167, 215, 0, 0, 0, [])]),
  (66, [(51, e0 (.iload_n 3)), (52, e0 (.iload_n 2)), (53, e0 (.iconst (-1))), (54, e0 .ixor), (55, e0 .iand), (56, .ifCond .ne 153, 209, 0, 0, 0, []), (59, e0 (.aload_n 0)), (60, e0 (.iload_n 1)), (61, e0 (.iload_n 3)), (62, .invokevirtual 223, 172, 2, 72, 0, [50118, 10008, 50121, 50120, 60]), (65, e0 .pop)]),
  (86, [(66, e0 (.iconst 0)), (67, e0 (.istore 4)), (69, e0 (.iconst 0)), (70, e0 (.istore 5)), (72, e0 (.iload 5)), (74, e0 (.iload_n 1)), (75, .if_icmp .ge 28, 103, 0, 0, 0, []), (78, e0 (.iload 4)), (80, e0 (.aload_n 0)), (81, e0 (.iload 5)), (83, .invokevirtual 71, 125, 1, 72, 0, [40143, 10008, 40146, 40145, 26])]),
  (108, [(86, .ifCond .eq 7, 93, 0, 0, 0, []), (89, e0 (.iconst 1)), (90, .goto 4, 94, 0, 0, 0, []), (93, e0 (.iconst 0)), (94, e0 .iadd), (95, e0 (.istore 4)), (97, e0 (.iinc 5 1)), (100, .goto (-28), 72, 0, 0, 0, []), (103, e0 (.aload_n 0)), (104, e0 (.iload_n 1)), (105, .invokevirtual 208, 165, 1, 72, 0, [50097, 10008, 50100, 50099, 57])]),
  (131, [(108, e0 (.istore 5)), (110, e0 (.iload 4)), (112, e0 (.aload_n 0)), (113, .getfield 220, 7, 14, 0, 0, [40070]), (116, .if_icmp .ne 18, 134, 0, 0, 0, []), (119, e0 (.iload_n 3)), (120, .invokestatic 176, 157, 1, 0, 0, [50062, 10008, 50064, 50063]), (123, e0 (.aload_n 0)), (124, .getfield 226, 7, 15, 0, 0, [40071]), (127, .if_icmp .ne 7, 134, 0, 0, 0, []), (130, e0 (.iconst 1))]),
  (155, [(131, .goto 4, 135, 0, 0, 0, []), (134, e0 (.iconst 0)), (135, e0 (.istore 6)), (137, e0 (.iload 4)), (139, e0 (.aload_n 0)), (140, .getfield 220, 7, 14, 0, 0, [40070]), (143, .if_icmp .gt 37, 180, 0, 0, 0, []), (146, e0 (.iload 4)), (148, e0 (.aload_n 0)), (149, .getfield 220, 7, 14, 0, 0, [40070]), (152, .if_icmp .ne 14, 166, 0, 0, 0, [])]),
  (180, [(155, e0 (.iload_n 3)), (156, .invokestatic 176, 157, 1, 0, 0, [50062, 10008, 50064, 50063]), (159, e0 (.aload_n 0)), (160, .getfield 226, 7, 15, 0, 0, [40071]), (163, .if_icmp .lt 17, 180, 0, 0, 0, []), (166, e0 (.iload 6)), (168, .ifCond .eq 37, 205, 0, 0, 0, []), (171, e0 (.iload 5)), (173, e0 (.aload_n 0)), (174, .getfield 229, 7, 16, 0, 0, [40072]), (177, .if_icmp .ge 28, 205, 0, 0, 0, [])]),
  (201, [(180, e0 (.aload_n 0)), (181, e0 (.iload 4)), (183, .putfield 220, 7, 14, 0, 0, [40070]), (186, e0 (.aload_n 0)), (187, e0 (.iload_n 3)), (188, .invokestatic 176, 157, 1, 0, 0, [50062, 10008, 50064, 50063]), (191, .putfield 226, 7, 15, 0, 0, [40071]), (194, e0 (.aload_n 0)), (195, e0 (.iload 5)), (197, .putfield 229, 7, 16, 0, 0, [40072]), (200, e0 (.aload_n 0))]),
  (100000, [(201, e0 (.iload_n 3)), (202, .putfield 232, 7, 17, 0, 0, [40073]), (205, e0 (.aload_n 0)), (206, .invokevirtual 211, 163, 0, 72, 0, [50101, 10008, 50104, 50103, 58]), (209, e0 (.iinc 3 1)), (212, .goto (-168), 44, 0, 0, 0, []), (215, e0 .return_)])]
def in_173 : MI := (⟨"HarbourTugsModel", "mends", "(I)V"⟩, prog_9_method_60_code, 7, none, 7, 0, 0, 169, es_173)
-- 174: HarbourTugsModel mended (II)I
def es_174 : List (Nat × List (Nat × Ent)) := [(10, [(0, e0 (.aload_n 0)), (1, e0 (.iload_n 1)), (2, .invokevirtual 214, 168, 1, 72, 0, [50073, 10008, 50076, 50075, 52]), (5, .ifCond .eq 15, 20, 0, 0, 0, []), (8, e0 (.iload_n 2)), (9, e0 .i2l)]),
  (22, [(10, e0 (.lconst 0)), (11, .ldc2_w 235, 0, 0, 0, 3, [50113]), (14, .invokestatic 46, 115, 3, 0, 0, [40117, 10008, 40119, 40118]), (17, .ifCond .ne 5, 22, 0, 0, 0, []), (20, e0 (.iconst (-1))), (21, e0 .ireturn)]),
  (32, [(22, e0 (.aload_n 0)), (23, e0 (.iload_n 1)), (24, .invokevirtual 237, 173, 1, 72, 0, [50114, 10008, 50117, 50116, 59]), (27, e0 (.iload_n 2)), (28, .ifCond .ne 10, 38, 0, 0, 0, []), (31, e0 (.aload_n 0))]),
  (44, [(32, .getfield 220, 7, 14, 0, 0, [40070]), (35, .goto 31, 66, 0, 0, 0, []), (38, e0 (.iload_n 2)), (39, e0 (.iconst 1)), (40, .if_icmp .ne 10, 50, 0, 0, 0, []), (43, e0 (.aload_n 0))]),
  (56, [(44, .getfield 226, 7, 15, 0, 0, [40071]), (47, .goto 19, 66, 0, 0, 0, []), (50, e0 (.iload_n 2)), (51, e0 (.iconst 2)), (52, .if_icmp .ne 10, 62, 0, 0, 0, []), (55, e0 (.aload_n 0))]),
  (100000, [(56, .getfield 229, 7, 16, 0, 0, [40072]), (59, .goto 7, 66, 0, 0, 0, []), (62, e0 (.aload_n 0)), (63, .getfield 232, 7, 17, 0, 0, [40073]), (66, e0 .ireturn)])]
def in_174 : MI := (⟨"HarbourTugsModel", "mended", "(II)I"⟩, prog_9_method_61_code, 3, some .int, 8, 0, 0, 195, es_174)
-- 175: HarbourTugsModel layMended (I)I
def es_175 : List (Nat × List (Nat × Ent)) := [(9, [(0, e0 (.aload_n 0)), (1, e0 (.iload_n 1)), (2, .invokevirtual 214, 168, 1, 72, 0, [50073, 10008, 50076, 50075, 52]), (5, .ifCond .ne 5, 10, 0, 0, 0, []), (8, e0 (.iconst (-1)))]),
  (16, [(9, e0 .ireturn), (10, e0 (.aload_n 0)), (11, e0 (.iload_n 1)), (12, .invokevirtual 237, 173, 1, 72, 0, [50114, 10008, 50117, 50116, 59]), (15, e0 (.aload_n 0))]),
  (24, [(16, .getfield 7, 7, 0, 2220, 0, [40056]), (19, e0 (.bipush 66)), (21, e0 .dup2), (22, e0 .laload), (23, e0 (.aload_n 0))]),
  (33, [(24, e0 (.iload_n 1)), (25, e0 (.aload_n 0)), (26, .getfield 232, 7, 17, 0, 0, [40073]), (29, .invokevirtual 223, 172, 2, 72, 0, [50118, 10008, 50121, 50120, 60]), (32, e0 .i2l)]),
  (100000, [(33, e0 .ladd), (34, e0 .lastore), (35, e0 (.aload_n 0)), (36, .getfield 220, 7, 14, 0, 0, [40070]), (39, e0 .ireturn)])]
def in_175 : MI := (⟨"HarbourTugsModel", "layMended", "(I)I"⟩, prog_9_method_62_code, 2, some .int, 8, 0, 0, 195, es_175)
-- 176: HarbourTugsModel goesOn (III)Z
def es_176 : List (Nat × List (Nat × Ent)) := [(11, [(0, e0 (.aload_n 0)), (1, e0 (.iload_n 1)), (2, e0 (.bipush 8)), (4, .invokevirtual 62, 118, 2, 72, 0, [40147, 10008, 40150, 40149, 27]), (7, e0 (.iconst 1)), (8, e0 (.iload_n 2)), (9, e0 .ishl), (10, e0 (.iconst (-1)))]),
  (23, [(11, e0 .ixor), (12, e0 .iand), (13, e0 (.istore 4)), (15, e0 (.aload_n 0)), (16, e0 (.iload_n 1)), (17, e0 (.bipush 7)), (19, .invokevirtual 62, 118, 2, 72, 0, [40147, 10008, 40150, 40149, 27]), (22, e0 (.iload_n 3))]),
  (39, [(23, .if_icmp .ge 12, 35, 0, 0, 0, []), (26, e0 (.iload 4)), (28, .ifCond .eq 7, 35, 0, 0, 0, []), (31, e0 (.iconst 1)), (32, .goto 4, 36, 0, 0, 0, []), (35, e0 (.iconst 0)), (36, e0 (.istore 5)), (38, e0 (.iload_n 3))]),
  (56, [(39, e0 (.istore 6)), (41, e0 (.iload 6)), (43, e0 (.aload_n 0)), (44, e0 (.iload_n 1)), (45, .invokevirtual 124, 142, 1, 72, 0, [50002, 10008, 50005, 50004, 41]), (48, .if_icmp .gt 39, 87, 0, 0, 0, []), (51, e0 (.iload 5)), (53, .ifCond .eq 25, 78, 0, 0, 0, [])]),
  (68, [(56, e0 (.iconst 2)), (57, e0 (.aload_n 0)), (58, e0 (.iload 4)), (60, .invokevirtual 143, 140, 1, 72, 0, [50013, 10008, 50016, 50015, 43]), (63, e0 .imul), (64, e0 (.aload_n 0)), (65, e0 (.iload_n 1)), (66, e0 (.iload 6))]),
  (87, [(68, .invokevirtual 94, 131, 2, 72, 0, [40182, 10008, 40185, 40184, 30]), (71, .if_icmp .lt 7, 78, 0, 0, 0, []), (74, e0 (.iconst 1)), (75, .goto 4, 79, 0, 0, 0, []), (78, e0 (.iconst 0)), (79, e0 (.istore 5)), (81, e0 (.iinc 6 1)), (84, .goto (-43), 41, 0, 0, 0, [])]),
  (100000, [(87, e0 (.iload 5)), (89, e0 .ireturn)])]
def in_176 : MI := (⟨"HarbourTugsModel", "goesOn", "(III)Z"⟩, prog_9_method_63_code, 7, some .boolean, 2, 0, 0, 45, es_176)
-- 177: HarbourTugsModel breaks (II)I
def es_177 : List (Nat × List (Nat × Ent)) := [(24, [(0, e0 (.aload_n 0)), (1, e0 (.iload_n 1)), (2, .invokevirtual 108, 119, 1, 72, 0, [40190, 10008, 40193, 40192, 31]), (5, .ifCond .eq 10, 15, 0, 0, 0, []), (8, e0 (.iload_n 2)), (9, .invokestatic 54, 116, 1, 0, 0, [40125, 10008, 40127, 40126]), (12, .ifCond .ne 5, 17, 0, 0, 0, []), (15, e0 (.iconst (-1))), (16, e0 .ireturn), (17, e0 (.aload_n 0)), (18, e0 (.iload_n 1)), (19, e0 (.bipush 7)), (21, .invokevirtual 97, 117, 2, 72, 0, [40203, 10008, 40206, 40205, 34])]),
  (45, [(24, e0 (.iload_n 2)), (25, .if_icmp .gt 6, 31, 0, 0, 0, []), (28, e0 (.bipush (-2))), (30, e0 .ireturn), (31, e0 (.iconst 0)), (32, e0 (.istore_n 3)), (33, e0 (.iconst 0)), (34, e0 (.istore 4)), (36, e0 (.iload 4)), (38, e0 .i2l), (39, e0 (.aload_n 0)), (40, .getfield 7, 7, 0, 2220, 0, [40056]), (43, e0 (.bipush 65))]),
  (70, [(45, e0 .laload), (46, e0 .lcmp), (47, .ifCond .ge 146, 193, 0, 0, 0, []), (50, e0 (.aload_n 0)), (51, e0 (.iload 4)), (53, e0 (.iload_n 1)), (54, .invokevirtual 120, 143, 2, 72, 0, [50029, 10008, 50032, 50031, 47]), (57, .ifCond .eq 130, 187, 0, 0, 0, []), (60, e0 (.aload_n 0)), (61, e0 (.iload 4)), (63, .invokevirtual 124, 142, 1, 72, 0, [50002, 10008, 50005, 50004, 41]), (66, e0 (.iload_n 2)), (67, .if_icmp .lt 120, 187, 0, 0, 0, [])]),
  (92, [(70, e0 (.aload_n 0)), (71, e0 (.iload 4)), (73, e0 (.iload_n 1)), (74, e0 (.iload_n 2)), (75, .invokevirtual 241, 176, 3, 72, 0, [50130, 10008, 50133, 50132, 61]), (78, .ifCond .eq 88, 166, 0, 0, 0, []), (81, e0 (.aload_n 0)), (82, .getfield 7, 7, 0, 2220, 0, [40056]), (85, e0 (.bipush 70)), (87, e0 (.bipush 10)), (89, e0 (.iload_n 1)), (90, e0 .imul), (91, e0 .iadd)]),
  (113, [(92, e0 (.bipush 8)), (94, e0 .iadd), (95, e0 .dup2), (96, e0 .laload), (97, e0 (.iload_n 2)), (98, e0 (.aload_n 0)), (99, e0 (.iload 4)), (101, .invokevirtual 124, 142, 1, 72, 0, [50002, 10008, 50005, 50004, 41]), (104, e0 (.iconst 1)), (105, e0 .iadd), (106, .invokestatic 128, 134, 2, 0, 0, [50006, 10008, 50008, 50007]), (109, .ldc2_w 111, 0, 0, 0, (-1), [40194]), (112, e0 .lxor)]),
  (132, [(113, e0 .land), (114, e0 .lastore), (115, e0 (.aload_n 0)), (116, .getfield 7, 7, 0, 2220, 0, [40056]), (119, e0 (.bipush 68)), (121, e0 .dup2), (122, e0 .laload), (123, e0 (.aload_n 0)), (124, e0 (.iload 4)), (126, .invokevirtual 124, 142, 1, 72, 0, [50002, 10008, 50005, 50004, 41]), (129, e0 (.iconst 1)), (130, e0 .iadd), (131, e0 (.iload_n 2))]),
  (152, [(132, e0 .isub), (133, e0 .i2l), (134, e0 .ladd), (135, e0 .lastore), (136, e0 (.aload_n 0)), (137, .getfield 7, 7, 0, 2220, 0, [40056]), (140, e0 (.sipush 130)), (143, e0 (.bipush 11)), (145, e0 (.iload 4)), (147, e0 .imul), (148, e0 .iadd), (149, e0 (.bipush 8)), (151, e0 .iadd)]),
  (172, [(152, e0 .dup2), (153, e0 .laload), (154, e0 (.lconst 1)), (155, e0 (.iload_n 1)), (156, e0 .lshl), (157, .ldc2_w 111, 0, 0, 0, (-1), [40194]), (160, e0 .lxor), (161, e0 .land), (162, e0 .lastore), (163, .goto 24, 187, 0, 0, 0, []), (166, e0 (.aload_n 0)), (167, .getfield 7, 7, 0, 2220, 0, [40056]), (170, e0 (.bipush 68))]),
  (194, [(172, e0 .dup2), (173, e0 .laload), (174, e0 (.aload_n 0)), (175, e0 (.iload 4)), (177, e0 (.iload_n 2)), (178, .invokevirtual 173, 155, 2, 72, 0, [50046, 10008, 50049, 50048, 49]), (181, e0 .i2l), (182, e0 .ladd), (183, e0 .lastore), (184, e0 (.iinc 3 1)), (187, e0 (.iinc 4 1)), (190, .goto (-154), 36, 0, 0, 0, []), (193, e0 (.aload_n 0))]),
  (214, [(194, .getfield 7, 7, 0, 2220, 0, [40056]), (197, e0 (.bipush 70)), (199, e0 (.bipush 10)), (201, e0 (.iload_n 1)), (202, e0 .imul), (203, e0 .iadd), (204, e0 (.bipush 7)), (206, e0 .iadd), (207, e0 (.iload_n 2)), (208, e0 .i2l), (209, e0 .lastore), (210, e0 (.aload_n 0)), (211, .getfield 7, 7, 0, 2220, 0, [40056])]),
  (232, [(214, e0 (.bipush 70)), (216, e0 (.bipush 10)), (218, e0 (.iload_n 1)), (219, e0 .imul), (220, e0 .iadd), (221, e0 (.bipush 9)), (223, e0 .iadd), (224, e0 .dup2), (225, e0 .laload), (226, e0 (.iconst 0)), (227, e0 (.iload_n 2)), (228, .invokestatic 128, 134, 2, 0, 0, [50006, 10008, 50008, 50007]), (231, e0 .land)]),
  (100000, [(232, e0 .lastore), (233, e0 (.aload_n 0)), (234, .getfield 7, 7, 0, 2220, 0, [40056]), (237, e0 (.bipush 67)), (239, e0 .dup2), (240, e0 .laload), (241, e0 (.iload_n 3)), (242, e0 .i2l), (243, e0 .ladd), (244, e0 .lastore), (245, e0 (.iload_n 3)), (246, e0 .ireturn)])]
def in_177 : MI := (⟨"HarbourTugsModel", "breaks", "(II)I"⟩, prog_9_method_64_code, 5, some .int, 4, 0, 0, 90, es_177)
-- 178: HarbourTugsModel mend (I)I
def es_178 : List (Nat × List (Nat × Ent)) := [(10, [(0, e0 (.aload_n 0)), (1, e0 (.iload_n 1)), (2, .invokevirtual 108, 119, 1, 72, 0, [40190, 10008, 40193, 40192, 31]), (5, .ifCond .ne 5, 10, 0, 0, 0, []), (8, e0 (.iconst (-1))), (9, e0 .ireturn)]),
  (22, [(10, e0 (.aload_n 0)), (11, e0 (.iload_n 1)), (12, e0 (.bipush 7)), (14, .invokevirtual 97, 117, 2, 72, 0, [40203, 10008, 40206, 40205, 34]), (17, e0 (.bipush 48)), (19, .if_icmp .ne 7, 26, 0, 0, 0, [])]),
  (32, [(22, e0 (.iconst 0)), (23, .goto 4, 27, 0, 0, 0, []), (26, e0 (.iconst 1)), (27, e0 (.istore_n 2)), (28, e0 (.aload_n 0)), (29, .getfield 7, 7, 0, 2220, 0, [40056])]),
  (41, [(32, e0 (.bipush 70)), (34, e0 (.bipush 10)), (36, e0 (.iload_n 1)), (37, e0 .imul), (38, e0 .iadd), (39, e0 (.bipush 7))]),
  (100000, [(41, e0 .iadd), (42, .ldc2_w 77, 0, 0, 0, 48, [40163]), (45, e0 .lastore), (46, e0 (.iload_n 2)), (47, e0 .ireturn)])]
def in_178 : MI := (⟨"HarbourTugsModel", "mend", "(I)I"⟩, prog_9_method_65_code, 3, some .int, 2, 0, 0, 46, es_178)
-- 179: HarbourTugsModel storm (II)I
def es_179 : List (Nat × List (Nat × Ent)) := [(19, [(0, e0 (.iload_n 1)), (1, .invokestatic 54, 116, 1, 0, 0, [40125, 10008, 40127, 40126]), (4, .ifCond .eq 15, 19, 0, 0, 0, []), (7, e0 (.iload_n 2)), (8, .invokestatic 54, 116, 1, 0, 0, [40125, 10008, 40127, 40126]), (11, .ifCond .eq 8, 19, 0, 0, 0, []), (14, e0 (.iload_n 1)), (15, e0 (.iload_n 2)), (16, .if_icmp .le 5, 21, 0, 0, 0, [])]),
  (30, [(19, e0 (.iconst (-1))), (20, e0 .ireturn), (21, e0 (.iconst 0)), (22, e0 (.istore_n 3)), (23, e0 (.iconst 0)), (24, e0 (.istore 4)), (26, e0 (.iload 4)), (28, e0 .i2l), (29, e0 (.aload_n 0))]),
  (49, [(30, .getfield 7, 7, 0, 2220, 0, [40056]), (33, e0 (.bipush 65)), (35, e0 .laload), (36, e0 .lcmp), (37, .ifCond .ge 61, 98, 0, 0, 0, []), (40, e0 (.aload_n 0)), (41, e0 (.iload 4)), (43, .invokevirtual 71, 125, 1, 72, 0, [40143, 10008, 40146, 40145, 26]), (46, .ifCond .eq 46, 92, 0, 0, 0, [])]),
  (67, [(49, e0 (.aload_n 0)), (50, e0 (.iload 4)), (52, e0 (.bipush 7)), (54, .invokevirtual 62, 118, 2, 72, 0, [40147, 10008, 40150, 40149, 27]), (57, e0 (.iload_n 2)), (58, .if_icmp .gt 34, 92, 0, 0, 0, []), (61, e0 (.aload_n 0)), (62, e0 (.iload 4)), (64, .invokevirtual 124, 142, 1, 72, 0, [50002, 10008, 50005, 50004, 41])]),
  (82, [(67, e0 (.iload_n 1)), (68, .if_icmp .lt 24, 92, 0, 0, 0, []), (71, e0 (.aload_n 0)), (72, .getfield 7, 7, 0, 2220, 0, [40056]), (75, e0 (.bipush 69)), (77, e0 .dup2), (78, e0 .laload), (79, e0 (.aload_n 0)), (80, e0 (.iload 4))]),
  (99, [(82, e0 (.iload_n 1)), (83, .invokevirtual 173, 155, 2, 72, 0, [50046, 10008, 50049, 50048, 49]), (86, e0 .i2l), (87, e0 .ladd), (88, e0 .lastore), (89, e0 (.iinc 3 1)), (92, e0 (.iinc 4 1)), (95, .goto (-69), 26, 0, 0, 0, []), (98, e0 (.aload_n 0))]),
  (113, [(99, .getfield 7, 7, 0, 2220, 0, [40056]), (102, e0 (.bipush 63)), (104, e0 .dup2), (105, e0 .laload), (106, e0 (.iload_n 1)), (107, e0 (.iload_n 2)), (108, e0 (.iconst 1)), (109, e0 .iadd), (110, .invokestatic 128, 134, 2, 0, 0, [50006, 10008, 50008, 50007])]),
  (125, [(113, e0 .lor), (114, e0 .lastore), (115, e0 (.aload_n 0)), (116, .getfield 7, 7, 0, 2220, 0, [40056]), (119, e0 (.bipush 67)), (121, e0 .dup2), (122, e0 .laload), (123, e0 (.iload_n 3)), (124, e0 .i2l)]),
  (100000, [(125, e0 .ladd), (126, e0 .lastore), (127, e0 (.iload_n 3)), (128, e0 .ireturn)])]
def in_179 : MI := (⟨"HarbourTugsModel", "storm", "(II)I"⟩, prog_9_method_66_code, 5, some .int, 4, 0, 0, 90, es_179)
-- 180: HarbourTugsModel hoursIn (J)I
def es_180 : List (Nat × List (Nat × Ent)) := [(7, [(0, e0 (.iconst 0)), (1, e0 (.istore_n 3)), (2, e0 (.iconst 0)), (3, e0 (.istore 4)), (5, e0 (.iload 4))]),
  (16, [(7, e0 (.bipush 48)), (9, .if_icmp .ge 26, 35, 0, 0, 0, []), (12, e0 (.iload_n 3)), (13, e0 (.lload_n 1)), (14, e0 (.iload 4))]),
  (27, [(16, .invokestatic 100, 133, 2, 0, 0, [40207, 10008, 40209, 40208]), (19, .ifCond .eq 7, 26, 0, 0, 0, []), (22, e0 (.iconst 1)), (23, .goto 4, 27, 0, 0, 0, []), (26, e0 (.iconst 0))]),
  (36, [(27, e0 .iadd), (28, e0 (.istore_n 3)), (29, e0 (.iinc 4 1)), (32, .goto (-27), 5, 0, 0, 0, []), (35, e0 (.iload_n 3))]),
  (100000, [(36, e0 .ireturn)])]
def in_180 : MI := (⟨"HarbourTugsModel", "hoursIn", "(J)I"⟩, prog_9_method_67_code, 5, some .int, 1, 0, 0, 22, es_180)
-- 181: HarbourTugsModel calm ()I
def es_181 : List (Nat × List (Nat × Ent)) := [(7, [(0, e0 (.aload_n 0)), (1, e0 (.aload_n 0)), (2, .getfield 7, 7, 0, 2220, 0, [40056]), (5, e0 (.bipush 63))]),
  (13, [(7, e0 .laload), (8, .invokevirtual 244, 180, 1, 72, 0, [50146, 10008, 50149, 50148, 62]), (11, e0 (.istore_n 1)), (12, e0 (.aload_n 0))]),
  (20, [(13, .getfield 7, 7, 0, 2220, 0, [40056]), (16, e0 (.bipush 63)), (18, e0 (.lconst 0)), (19, e0 .lastore)]),
  (100000, [(20, e0 (.iload_n 1)), (21, e0 .ireturn)])]
def in_181 : MI := (⟨"HarbourTugsModel", "calm", "()I"⟩, prog_9_method_68_code, 2, some .int, 2, 0, 0, 46, es_181)
-- 182: HarbourTugsModel priceRule (IIII)I
def es_182 : List (Nat × List (Nat × Ent)) := [(15, [(0, e0 (.iload_n 1)), (1, e0 .i2l), (2, e0 (.lconst 0)), (3, .ldc2_w 58, 0, 0, 0, 6, [40133]), (6, .invokestatic 46, 115, 3, 0, 0, [40117, 10008, 40119, 40118]), (9, .ifCond .eq 60, 69, 0, 0, 0, []), (12, e0 (.iload_n 2)), (13, e0 .i2l), (14, e0 (.lconst 0))]),
  (34, [(15, .ldc2_w 248, 0, 0, 0, 400, [50154]), (18, .invokestatic 46, 115, 3, 0, 0, [40117, 10008, 40119, 40118]), (21, .ifCond .eq 48, 69, 0, 0, 0, []), (24, e0 (.iload_n 3)), (25, e0 .i2l), (26, e0 (.lconst 0)), (27, e0 (.lconst 1)), (28, .invokestatic 46, 115, 3, 0, 0, [40117, 10008, 40119, 40118]), (31, .ifCond .eq 38, 69, 0, 0, 0, [])]),
  (54, [(34, e0 (.iload 4)), (36, e0 .i2l), (37, e0 (.iload_n 3)), (38, .ifCond .ne 9, 47, 0, 0, 0, []), (41, .ldc2_w 250, 0, 0, 0, (-1000), [50155]), (44, .goto 6, 50, 0, 0, 0, []), (47, .ldc2_w 252, 0, 0, 0, (-100), [50156]), (50, e0 (.iload_n 3)), (51, .ifCond .ne 9, 60, 0, 0, 0, [])]),
  (75, [(54, .ldc2_w 254, 0, 0, 0, 100000, [50157]), (57, .goto 6, 63, 0, 0, 0, []), (60, .ldc2_w 256, 0, 0, 0, 1000, [50158]), (63, .invokestatic 46, 115, 3, 0, 0, [40117, 10008, 40119, 40118]), (66, .ifCond .ne 5, 71, 0, 0, 0, []), (69, e0 (.iconst (-1))), (70, e0 .ireturn), (71, e0 (.aload_n 0)), (72, .getfield 258, 7, 5, 0, 0, [40061])]),
  (92, [(75, e0 (.bipush 12)), (77, .if_icmp .ne 6, 83, 0, 0, 0, []), (80, e0 (.bipush (-3))), (82, e0 .ireturn), (83, e0 (.aload_n 0)), (84, .getfield 23, 7, 6, 1014, 0, [40062]), (87, e0 (.aload_n 0)), (88, .getfield 258, 7, 5, 0, 0, [40061]), (91, e0 (.iload_n 1))]),
  (107, [(92, e0 .iastore), (93, e0 (.aload_n 0)), (94, .getfield 26, 7, 7, 1014, 0, [40063]), (97, e0 (.aload_n 0)), (98, .getfield 258, 7, 5, 0, 0, [40061]), (101, e0 (.iload_n 2)), (102, e0 .iastore), (103, e0 (.aload_n 0)), (104, .getfield 29, 7, 8, 1014, 0, [40064])]),
  (123, [(107, e0 (.aload_n 0)), (108, .getfield 258, 7, 5, 0, 0, [40061]), (111, e0 (.iload_n 3)), (112, e0 .iastore), (113, e0 (.aload_n 0)), (114, .getfield 32, 7, 9, 1014, 0, [40065]), (117, e0 (.aload_n 0)), (118, .getfield 258, 7, 5, 0, 0, [40061]), (121, e0 (.iload 4))]),
  (138, [(123, e0 .iastore), (124, e0 (.aload_n 0)), (125, e0 .dup), (126, .getfield 258, 7, 5, 0, 0, [40061]), (129, e0 (.iconst 1)), (130, e0 .iadd), (131, .putfield 258, 7, 5, 0, 0, [40061]), (134, e0 (.aload_n 0)), (135, .getfield 258, 7, 5, 0, 0, [40061])]),
  (100000, [(138, e0 .ireturn)])]
def in_182 : MI := (⟨"HarbourTugsModel", "priceRule", "(IIII)I"⟩, prog_9_method_69_code, 5, some .int, 1, 0, 0, 25, es_182)
-- 183: HarbourTugsModel passes (II)Z
def es_183 : List (Nat × List (Nat × Ent)) := [(16, [(0, e0 (.aload_n 0)), (1, e0 (.iload_n 2)), (2, e0 (.bipush 7)), (4, .invokevirtual 62, 118, 2, 72, 0, [40147, 10008, 40150, 40149, 27]), (7, e0 (.istore_n 3)), (8, e0 (.aload_n 0)), (9, .getfield 26, 7, 7, 1014, 0, [40063]), (12, e0 (.iload_n 1)), (13, e0 .iaload), (14, e0 (.istore 4))]),
  (65, [(16, e0 (.aload_n 0)), (17, .getfield 23, 7, 6, 1014, 0, [40062]), (20, e0 (.iload_n 1)), (21, e0 .iaload), (22, .tableswitch 146 0 5 #[38, 40, 57, 79, 103, 124], 168, 0, 38, 0, [60, 62, 79, 101, 125, 146]), (60, e0 (.iconst 1)), (61, e0 .ireturn), (62, e0 (.aload_n 0)), (63, e0 (.iload_n 2)), (64, e0 (.iconst 0))]),
  (85, [(65, .invokevirtual 62, 118, 2, 72, 0, [40147, 10008, 40150, 40149, 27]), (68, e0 (.iload 4)), (70, .if_icmp .lt 7, 77, 0, 0, 0, []), (73, e0 (.iconst 1)), (74, .goto 4, 78, 0, 0, 0, []), (77, e0 (.iconst 0)), (78, e0 .ireturn), (79, e0 (.aload_n 0)), (80, .getfield 7, 7, 0, 2220, 0, [40056]), (83, e0 (.bipush 12))]),
  (100, [(85, e0 (.iload_n 3)), (86, e0 .iadd), (87, e0 .laload), (88, e0 (.iload 4)), (90, e0 .i2l), (91, e0 .lcmp), (92, .ifCond .lt 7, 99, 0, 0, 0, []), (95, e0 (.iconst 1)), (96, .goto 4, 100, 0, 0, 0, []), (99, e0 (.iconst 0))]),
  (116, [(100, e0 .ireturn), (101, e0 (.iload_n 3)), (102, e0 (.bipush 24)), (104, e0 .irem), (105, e0 (.bipush 6)), (107, .if_icmp .lt 12, 119, 0, 0, 0, []), (110, e0 (.iload_n 3)), (111, e0 (.bipush 24)), (113, e0 .irem), (114, e0 (.bipush 20))]),
  (135, [(116, .if_icmp .lt 7, 123, 0, 0, 0, []), (119, e0 (.iconst 1)), (120, .goto 4, 124, 0, 0, 0, []), (123, e0 (.iconst 0)), (124, e0 .ireturn), (125, e0 (.aload_n 0)), (126, e0 (.iload_n 2)), (127, e0 (.bipush 8)), (129, .invokevirtual 62, 118, 2, 72, 0, [40147, 10008, 40150, 40149, 27]), (132, .invokestatic 176, 157, 1, 0, 0, [50062, 10008, 50064, 50063])]),
  (151, [(135, e0 (.iload 4)), (137, .if_icmp .lt 7, 144, 0, 0, 0, []), (140, e0 (.iconst 1)), (141, .goto 4, 145, 0, 0, 0, []), (144, e0 (.iconst 0)), (145, e0 .ireturn), (146, e0 (.aload_n 0)), (147, e0 (.aload_n 0)), (148, e0 (.iload_n 2)), (149, e0 (.bipush 8))]),
  (170, [(151, .invokevirtual 62, 118, 2, 72, 0, [40147, 10008, 40150, 40149, 27]), (154, .invokevirtual 143, 140, 1, 72, 0, [50013, 10008, 50016, 50015, 43]), (157, e0 (.iload 4)), (159, .if_icmp .lt 7, 166, 0, 0, 0, []), (162, e0 (.iconst 1)), (163, .goto 4, 167, 0, 0, 0, []), (166, e0 (.iconst 0)), (167, e0 .ireturn), (168, e0 (.iload_n 3)), (169, e0 (.aload_n 0))]),
  (100000, [(170, e0 (.iload_n 2)), (171, e0 (.iconst 2)), (172, .invokevirtual 62, 118, 2, 72, 0, [40147, 10008, 40150, 40149, 27]), (175, e0 .isub), (176, e0 (.iload 4)), (178, .if_icmp .lt 7, 185, 0, 0, 0, []), (181, e0 (.iconst 1)), (182, .goto 4, 186, 0, 0, 0, []), (185, e0 (.iconst 0)), (186, e0 .ireturn)])]
def in_183 : MI := (⟨"HarbourTugsModel", "passes", "(II)Z"⟩, prog_9_method_70_code, 5, some .boolean, 2, 0, 0, 45, es_183)
-- 184: HarbourTugsModel price (I)J
def es_184 : List (Nat × List (Nat × Ent)) := [(14, [(0, e0 (.aload_n 0)), (1, e0 (.iload_n 1)), (2, .invokevirtual 91, 120, 1, 72, 0, [40178, 10008, 40181, 40180, 29]), (5, .ifCond .ne 7, 12, 0, 0, 0, []), (8, .ldc2_w 261, 0, 0, 0, (-1000000001), [50163]), (11, e0 .lreturn), (12, e0 (.aload_n 0)), (13, e0 (.iload_n 1))]),
  (29, [(14, .invokevirtual 71, 125, 1, 72, 0, [40143, 10008, 40146, 40145, 26]), (17, .ifCond .ne 7, 24, 0, 0, 0, []), (20, .ldc2_w 263, 0, 0, 0, (-1000000002), [50164]), (23, e0 .lreturn), (24, e0 (.lconst 0)), (25, e0 (.lstore_n 2)), (26, e0 (.iconst 0)), (27, e0 (.istore 4))]),
  (45, [(29, e0 (.iload 4)), (31, e0 (.aload_n 0)), (32, .getfield 258, 7, 5, 0, 0, [40061]), (35, .if_icmp .ge 57, 92, 0, 0, 0, []), (38, e0 (.aload_n 0)), (39, e0 (.iload 4)), (41, e0 (.iload_n 1)), (42, .invokevirtual 265, 183, 2, 72, 0, [50165, 10008, 50168, 50167, 63])]),
  (60, [(45, .ifCond .eq 41, 86, 0, 0, 0, []), (48, e0 (.lload_n 2)), (49, e0 (.aload_n 0)), (50, .getfield 29, 7, 8, 1014, 0, [40064]), (53, e0 (.iload 4)), (55, e0 .iaload), (56, .ifCond .ne 14, 70, 0, 0, 0, []), (59, e0 (.aload_n 0))]),
  (75, [(60, .getfield 32, 7, 9, 1014, 0, [40065]), (63, e0 (.iload 4)), (65, e0 .iaload), (66, e0 .i2l), (67, .goto 17, 84, 0, 0, 0, []), (70, e0 (.lload_n 2)), (71, e0 (.aload_n 0)), (72, .getfield 32, 7, 9, 1014, 0, [40065])]),
  (86, [(75, e0 (.iload 4)), (77, e0 .iaload), (78, e0 .i2l), (79, e0 .lmul), (80, .ldc2_w 268, 0, 0, 0, 100, [50169]), (83, e0 .ldiv), (84, e0 .ladd), (85, e0 (.lstore_n 2))]),
  (100000, [(86, e0 (.iinc 4 1)), (89, .goto (-60), 29, 0, 0, 0, []), (92, e0 (.lload_n 2)), (93, e0 .lreturn)])]
def in_184 : MI := (⟨"HarbourTugsModel", "price", "(I)J"⟩, prog_9_method_71_code, 5, some .long, 3, 0, 0, 69, es_184)
-- 185: HarbourTugsModel pool (II)I
def es_185 : List (Nat × List (Nat × Ent)) := [(16, [(0, e0 (.iload_n 1)), (1, e0 .i2l), (2, e0 (.lconst 0)), (3, e0 (.lconst 1)), (4, .invokestatic 46, 115, 3, 0, 0, [40117, 10008, 40119, 40118]), (7, .ifCond .eq 15, 22, 0, 0, 0, []), (10, e0 (.iload_n 2)), (11, e0 .i2l), (12, e0 (.lconst 0)), (13, .ldc2_w 270, 0, 0, 0, 1000000, [50174])]),
  (32, [(16, .invokestatic 46, 115, 3, 0, 0, [40117, 10008, 40119, 40118]), (19, .ifCond .ne 5, 24, 0, 0, 0, []), (22, e0 (.iconst (-1))), (23, e0 .ireturn), (24, e0 (.lconst 0)), (25, e0 (.lstore_n 3)), (26, e0 (.lconst 0)), (27, e0 (.lstore 5)), (29, e0 (.iconst 0)), (30, e0 (.istore 7))]),
  (49, [(32, e0 (.iload 7)), (34, e0 .i2l), (35, e0 (.aload_n 0)), (36, .getfield 7, 7, 0, 2220, 0, [40056]), (39, e0 (.bipush 64)), (41, e0 .laload), (42, e0 .lcmp), (43, .ifCond .ge 58, 101, 0, 0, 0, []), (46, e0 (.aload_n 0)), (47, e0 (.iload 7))]),
  (66, [(49, e0 (.iconst 1)), (50, .invokevirtual 97, 117, 2, 72, 0, [40203, 10008, 40206, 40205, 34]), (53, e0 .i2l), (54, e0 (.aload_n 0)), (55, e0 (.aload_n 0)), (56, e0 (.iload 7)), (58, .invokevirtual 113, 135, 1, 72, 0, [40195, 10008, 40198, 40197, 32]), (61, .invokevirtual 244, 180, 1, 72, 0, [50146, 10008, 50149, 50148, 62]), (64, e0 .i2l), (65, e0 .lmul)]),
  (82, [(66, e0 (.lstore 8)), (68, e0 (.lload_n 3)), (69, e0 (.lload 8)), (71, e0 .ladd), (72, e0 (.lstore_n 3)), (73, e0 (.lload 5)), (75, e0 (.aload_n 0)), (76, e0 (.iload 7)), (78, e0 (.iconst 0)), (79, .invokevirtual 97, 117, 2, 72, 0, [40203, 10008, 40206, 40205, 34])]),
  (102, [(82, e0 (.iconst 1)), (83, .if_icmp .ne 8, 91, 0, 0, 0, []), (86, e0 (.lload 8)), (88, .goto 4, 92, 0, 0, 0, []), (91, e0 (.lconst 0)), (92, e0 .ladd), (93, e0 (.lstore 5)), (95, e0 (.iinc 7 1)), (98, .goto (-66), 32, 0, 0, 0, []), (101, e0 (.lload_n 3))]),
  (117, [(102, e0 (.lconst 0)), (103, e0 .lcmp), (104, .ifCond .ne 7, 111, 0, 0, 0, []), (107, e0 (.iconst 0)), (108, .goto 11, 119, 0, 0, 0, []), (111, e0 (.iload_n 2)), (112, e0 .i2l), (113, e0 (.lload 5)), (115, e0 .lmul), (116, e0 (.lload_n 3))]),
  (134, [(117, e0 .ldiv), (118, e0 .l2i), (119, e0 (.istore 7)), (121, e0 (.iload_n 1)), (122, e0 (.iconst 1)), (123, .if_icmp .ne 8, 131, 0, 0, 0, []), (126, e0 (.iload 7)), (128, .goto 7, 135, 0, 0, 0, []), (131, e0 (.iload_n 2)), (132, e0 (.iload 7))]),
  (100000, [(134, e0 .isub), (135, e0 .ireturn)])]
def in_185 : MI := (⟨"HarbourTugsModel", "pool", "(II)I"⟩, prog_9_method_72_code, 10, some .int, 2, 0, 0, 46, es_185)
-- 186: HarbourTugsModel work (II)J
def es_186 : List (Nat × List (Nat × Ent)) := [(9, [(0, e0 (.aload_n 0)), (1, e0 (.iload_n 1)), (2, .invokevirtual 108, 119, 1, 72, 0, [40190, 10008, 40193, 40192, 31]), (5, .ifCond .eq 13, 18, 0, 0, 0, []), (8, e0 (.iload_n 2))]),
  (18, [(9, e0 .i2l), (10, e0 (.lconst 0)), (11, e0 (.lconst 1)), (12, .invokestatic 46, 115, 3, 0, 0, [40117, 10008, 40119, 40118]), (15, .ifCond .ne 9, 24, 0, 0, 0, [])]),
  (29, [(18, .ldc2_w 111, 0, 0, 0, (-1), [40194]), (21, .goto 20, 41, 0, 0, 0, []), (24, e0 (.iload_n 2)), (25, .ifCond .ne 11, 36, 0, 0, 0, []), (28, e0 (.aload_n 0))]),
  (38, [(29, e0 (.iload_n 1)), (30, .invokevirtual 113, 135, 1, 72, 0, [40195, 10008, 40198, 40197, 32]), (33, .goto 8, 41, 0, 0, 0, []), (36, e0 (.aload_n 0)), (37, e0 (.iload_n 1))]),
  (100000, [(38, .invokevirtual 104, 136, 1, 72, 0, [40210, 10008, 40213, 40212, 35]), (41, e0 .lreturn)])]
def in_186 : MI := (⟨"HarbourTugsModel", "work", "(II)J"⟩, prog_9_method_73_code, 3, some .long, 2, 0, 0, 46, es_186)
-- 187: HarbourTugsModel berthOf (I)I
def es_187 : List (Nat × List (Nat × Ent)) := [(10, [(0, e0 (.aload_n 0)), (1, e0 (.iload_n 1)), (2, e0 (.bipush 6)), (4, .invokevirtual 97, 117, 2, 72, 0, [40203, 10008, 40206, 40205, 34]), (7, e0 (.istore_n 2)), (8, e0 (.iconst (-1))), (9, e0 (.istore_n 3))]),
  (22, [(10, e0 (.iconst 0)), (11, e0 (.istore 4)), (13, e0 (.iload 4)), (15, e0 .i2l), (16, e0 (.aload_n 0)), (17, .getfield 7, 7, 0, 2220, 0, [40056]), (20, e0 (.bipush 65))]),
  (34, [(22, e0 .laload), (23, e0 .lcmp), (24, .ifCond .ge 45, 69, 0, 0, 0, []), (27, e0 (.aload_n 0)), (28, e0 (.iload 4)), (30, e0 (.iload_n 1)), (31, .invokevirtual 120, 143, 2, 72, 0, [50029, 10008, 50032, 50031, 47])]),
  (48, [(34, .ifCond .eq 29, 63, 0, 0, 0, []), (37, e0 (.aload_n 0)), (38, e0 (.iload 4)), (40, .invokevirtual 124, 142, 1, 72, 0, [50002, 10008, 50005, 50004, 41]), (43, e0 (.iload_n 3)), (44, .if_icmp .le 19, 63, 0, 0, 0, []), (47, e0 (.aload_n 0))]),
  (62, [(48, e0 (.iload 4)), (50, .invokevirtual 124, 142, 1, 72, 0, [50002, 10008, 50005, 50004, 41]), (53, e0 (.istore_n 3)), (54, e0 (.aload_n 0)), (55, e0 (.iload 4)), (57, e0 (.bipush 6)), (59, .invokevirtual 62, 118, 2, 72, 0, [40147, 10008, 40150, 40149, 27])]),
  (100000, [(62, e0 (.istore_n 2)), (63, e0 (.iinc 4 1)), (66, .goto (-53), 13, 0, 0, 0, []), (69, e0 (.iload_n 2)), (70, e0 .ireturn)])]
def in_187 : MI := (⟨"HarbourTugsModel", "berthOf", "(I)I"⟩, prog_9_method_74_code, 5, some .int, 3, 0, 0, 65, es_187)
-- 188: HarbourTugsModel about (II)I
def es_188 : List (Nat × List (Nat × Ent)) := [(14, [(0, e0 (.aload_n 0)), (1, e0 (.iload_n 1)), (2, .invokevirtual 108, 119, 1, 72, 0, [40190, 10008, 40193, 40192, 31]), (5, .ifCond .eq 15, 20, 0, 0, 0, []), (8, e0 (.iload_n 2)), (9, e0 .i2l), (10, e0 (.lconst 0)), (11, .ldc2_w 272, 0, 0, 0, 7, [50183])]),
  (70, [(14, .invokestatic 46, 115, 3, 0, 0, [40117, 10008, 40119, 40118]), (17, .ifCond .ne 6, 23, 0, 0, 0, []), (20, e0 (.bipush (-100))), (22, e0 .ireturn), (23, e0 (.iload_n 2)), (24, .tableswitch 112 0 6 #[44, 51, 58, 65, 72, 79, 87], 136, 0, 44, 0, [68, 75, 82, 89, 96, 103, 111]), (68, e0 (.aload_n 0)), (69, e0 (.iload_n 1))]),
  (82, [(70, e0 (.iconst 0)), (71, .invokevirtual 97, 117, 2, 72, 0, [40203, 10008, 40206, 40205, 34]), (74, e0 .ireturn), (75, e0 (.aload_n 0)), (76, e0 (.iload_n 1)), (77, e0 (.iconst 1)), (78, .invokevirtual 97, 117, 2, 72, 0, [40203, 10008, 40206, 40205, 34]), (81, e0 .ireturn)]),
  (92, [(82, e0 (.aload_n 0)), (83, e0 (.iload_n 1)), (84, e0 (.iconst 2)), (85, .invokevirtual 97, 117, 2, 72, 0, [40203, 10008, 40206, 40205, 34]), (88, e0 .ireturn), (89, e0 (.aload_n 0)), (90, e0 (.iload_n 1)), (91, e0 (.iconst 4))]),
  (104, [(92, .invokevirtual 97, 117, 2, 72, 0, [40203, 10008, 40206, 40205, 34]), (95, e0 .ireturn), (96, e0 (.aload_n 0)), (97, e0 (.iload_n 1)), (98, e0 (.iconst 5)), (99, .invokevirtual 97, 117, 2, 72, 0, [40203, 10008, 40206, 40205, 34]), (102, e0 .ireturn), (103, e0 (.aload_n 0))]),
  (118, [(104, e0 (.iload_n 1)), (105, e0 (.bipush 6)), (107, .invokevirtual 97, 117, 2, 72, 0, [40203, 10008, 40206, 40205, 34]), (110, e0 .ireturn), (111, e0 (.aload_n 0)), (112, e0 (.iload_n 1)), (113, e0 (.bipush 7)), (115, .invokevirtual 97, 117, 2, 72, 0, [40203, 10008, 40206, 40205, 34])]),
  (135, [(118, e0 (.bipush 48)), (120, .if_icmp .ne 8, 128, 0, 0, 0, []), (123, e0 (.bipush (-4))), (125, .goto 10, 135, 0, 0, 0, []), (128, e0 (.aload_n 0)), (129, e0 (.iload_n 1)), (130, e0 (.bipush 7)), (132, .invokevirtual 97, 117, 2, 72, 0, [40203, 10008, 40206, 40205, 34])]),
  (100000, [(135, e0 .ireturn), (136, e0 (.aload_n 0)), (137, e0 (.iload_n 1)), (138, .invokevirtual 274, 187, 1, 72, 0, [50184, 10008, 50187, 50186, 64]), (141, e0 .ireturn)])]
def in_188 : MI := (⟨"HarbourTugsModel", "about", "(II)I"⟩, prog_9_method_75_code, 3, some .int, 4, 0, 0, 89, es_188)
-- 189: HarbourTugsModel keep ()I
def es_189 : List (Nat × List (Nat × Ent)) := [(11, [(0, e0 (.aload_n 0)), (1, .getfield 277, 7, 2, 0, 0, [40058]), (4, e0 (.iconst 3)), (5, .if_icmp .ne 6, 11, 0, 0, 0, []), (8, e0 (.bipush (-3))), (10, e0 .ireturn)]),
  (21, [(11, e0 (.iconst 0)), (12, e0 (.istore_n 1)), (13, e0 (.iload_n 1)), (14, e0 (.sipush 218)), (17, .if_icmp .ge 30, 47, 0, 0, 0, []), (20, e0 (.aload_n 0))]),
  (33, [(21, .getfield 13, 7, 1, 2656, 0, [40057]), (24, e0 (.sipush 218)), (27, e0 (.aload_n 0)), (28, .getfield 277, 7, 2, 0, 0, [40058]), (31, e0 .imul), (32, e0 (.iload_n 1))]),
  (41, [(33, e0 .iadd), (34, e0 (.aload_n 0)), (35, .getfield 7, 7, 0, 2220, 0, [40056]), (38, e0 (.iload_n 1)), (39, e0 .laload), (40, e0 .lastore)]),
  (53, [(41, e0 (.iinc 1 1)), (44, .goto (-31), 13, 0, 0, 0, []), (47, e0 (.aload_n 0)), (48, e0 .dup), (49, .getfield 277, 7, 2, 0, 0, [40058]), (52, e0 (.iconst 1))]),
  (100000, [(53, e0 .iadd), (54, .putfield 277, 7, 2, 0, 0, [40058]), (57, e0 (.aload_n 0)), (58, .getfield 277, 7, 2, 0, 0, [40058]), (61, e0 .ireturn)])]
def in_189 : MI := (⟨"HarbourTugsModel", "keep", "()I"⟩, prog_9_method_76_code, 2, some .int, 0, 0, 0, 0, es_189)
-- 190: HarbourTugsModel back ()I
def es_190 : List (Nat × List (Nat × Ent)) := [(11, [(0, e0 (.aload_n 0)), (1, .getfield 277, 7, 2, 0, 0, [40058]), (4, .ifCond .ne 6, 10, 0, 0, 0, []), (7, e0 (.bipush (-2))), (9, e0 .ireturn), (10, e0 (.aload_n 0))]),
  (21, [(11, e0 .dup), (12, .getfield 277, 7, 2, 0, 0, [40058]), (15, e0 (.iconst 1)), (16, e0 .isub), (17, .putfield 277, 7, 2, 0, 0, [40058]), (20, e0 (.iconst 0))]),
  (33, [(21, e0 (.istore_n 1)), (22, e0 (.iload_n 1)), (23, e0 (.sipush 218)), (26, .if_icmp .ge 30, 56, 0, 0, 0, []), (29, e0 (.aload_n 0)), (30, .getfield 7, 7, 0, 2220, 0, [40056])]),
  (45, [(33, e0 (.iload_n 1)), (34, e0 (.aload_n 0)), (35, .getfield 13, 7, 1, 2656, 0, [40057]), (38, e0 (.sipush 218)), (41, e0 (.aload_n 0)), (42, .getfield 277, 7, 2, 0, 0, [40058])]),
  (53, [(45, e0 .imul), (46, e0 (.iload_n 1)), (47, e0 .iadd), (48, e0 .laload), (49, e0 .lastore), (50, e0 (.iinc 1 1))]),
  (100000, [(53, .goto (-31), 22, 0, 0, 0, []), (56, e0 (.aload_n 0)), (57, .getfield 277, 7, 2, 0, 0, [40058]), (60, e0 .ireturn)])]
def in_190 : MI := (⟨"HarbourTugsModel", "back", "()I"⟩, prog_9_method_77_code, 2, some .int, 0, 0, 0, 0, es_190)
-- 191: HarbourTugsModel count (I)I
def es_191 : List (Nat × List (Nat × Ent)) := [(12, [(0, e0 (.iconst 0)), (1, e0 (.istore_n 2)), (2, e0 (.iconst 0)), (3, e0 (.istore_n 3)), (4, e0 (.iload_n 3)), (5, e0 .i2l), (6, e0 (.aload_n 0)), (7, .getfield 7, 7, 0, 2220, 0, [40056]), (10, e0 (.bipush 65))]),
  (27, [(12, e0 .laload), (13, e0 .lcmp), (14, .ifCond .ge 25, 39, 0, 0, 0, []), (17, e0 (.iload_n 2)), (18, e0 (.aload_n 0)), (19, e0 (.iload_n 3)), (20, .invokevirtual 71, 125, 1, 72, 0, [40143, 10008, 40146, 40145, 26]), (23, .ifCond .eq 7, 30, 0, 0, 0, []), (26, e0 (.iconst 1))]),
  (97, [(27, .goto 4, 31, 0, 0, 0, []), (30, e0 (.iconst 0)), (31, e0 .iadd), (32, e0 (.istore_n 2)), (33, e0 (.iinc 3 1)), (36, .goto (-32), 4, 0, 0, 0, []), (39, e0 (.iload_n 1)), (40, .tableswitch 134 0 9 #[56, 65, 74, 76, 88, 97, 106, 115, 124, 129], 174, 0, 56, 0, [96, 105, 114, 116, 128, 137, 146, 155, 164, 169]), (96, e0 (.aload_n 0))]),
  (112, [(97, .getfield 7, 7, 0, 2220, 0, [40056]), (100, e0 (.bipush 64)), (102, e0 .laload), (103, e0 .l2i), (104, e0 .ireturn), (105, e0 (.aload_n 0)), (106, .getfield 7, 7, 0, 2220, 0, [40056]), (109, e0 (.bipush 65)), (111, e0 .laload)]),
  (124, [(112, e0 .l2i), (113, e0 .ireturn), (114, e0 (.iload_n 2)), (115, e0 .ireturn), (116, e0 (.aload_n 0)), (117, e0 (.aload_n 0)), (118, .getfield 7, 7, 0, 2220, 0, [40056]), (121, e0 (.bipush 63)), (123, e0 .laload)]),
  (138, [(124, .invokevirtual 244, 180, 1, 72, 0, [50146, 10008, 50149, 50148, 62]), (127, e0 .ireturn), (128, e0 (.aload_n 0)), (129, .getfield 7, 7, 0, 2220, 0, [40056]), (132, e0 (.bipush 66)), (134, e0 .laload), (135, e0 .l2i), (136, e0 .ireturn), (137, e0 (.aload_n 0))]),
  (153, [(138, .getfield 7, 7, 0, 2220, 0, [40056]), (141, e0 (.bipush 67)), (143, e0 .laload), (144, e0 .l2i), (145, e0 .ireturn), (146, e0 (.aload_n 0)), (147, .getfield 7, 7, 0, 2220, 0, [40056]), (150, e0 (.bipush 68)), (152, e0 .laload)]),
  (165, [(153, e0 .l2i), (154, e0 .ireturn), (155, e0 (.aload_n 0)), (156, .getfield 7, 7, 0, 2220, 0, [40056]), (159, e0 (.bipush 69)), (161, e0 .laload), (162, e0 .l2i), (163, e0 .ireturn), (164, e0 (.aload_n 0))]),
  (100000, [(165, .getfield 258, 7, 5, 0, 0, [40061]), (168, e0 .ireturn), (169, e0 (.aload_n 0)), (170, .getfield 277, 7, 2, 0, 0, [40058]), (173, e0 .ireturn), (174, e0 (.iconst (-1))), (175, e0 .ireturn)])]
def in_191 : MI := (⟨"HarbourTugsModel", "count", "(I)I"⟩, prog_9_method_78_code, 4, some .int, 2, 0, 0, 46, es_191)
-- 192: java/lang/Long bitCount (J)I
def es_192 : List (Nat × List (Nat × Ent)) := [(9, [(0, e0 (.lload_n 0)), (1, e0 (.lload_n 0)), (2, e0 (.iconst 1)), (3, e0 .lushr), (4, .ldc2_w 314, 0, 0, 0, 6148914691236517205, [30009]), (7, e0 .land), (8, e0 .lsub)]),
  (18, [(9, e0 (.lstore_n 0)), (10, e0 (.lload_n 0)), (11, .ldc2_w 316, 0, 0, 0, 3689348814741910323, [30010]), (14, e0 .land), (15, e0 (.lload_n 0)), (16, e0 (.iconst 2)), (17, e0 .lushr)]),
  (27, [(18, .ldc2_w 316, 0, 0, 0, 3689348814741910323, [30010]), (21, e0 .land), (22, e0 .ladd), (23, e0 (.lstore_n 0)), (24, e0 (.lload_n 0)), (25, e0 (.lload_n 0)), (26, e0 (.iconst 4))]),
  (36, [(27, e0 .lushr), (28, e0 .ladd), (29, .ldc2_w 318, 0, 0, 0, 1085102592571150095, [30011]), (32, e0 .land), (33, e0 (.lstore_n 0)), (34, e0 (.lload_n 0)), (35, e0 (.lload_n 0))]),
  (45, [(36, e0 (.bipush 8)), (38, e0 .lushr), (39, e0 .ladd), (40, e0 (.lstore_n 0)), (41, e0 (.lload_n 0)), (42, e0 (.lload_n 0)), (43, e0 (.bipush 16))]),
  (53, [(45, e0 .lushr), (46, e0 .ladd), (47, e0 (.lstore_n 0)), (48, e0 (.lload_n 0)), (49, e0 (.lload_n 0)), (50, e0 (.bipush 32)), (52, e0 .lushr)]),
  (100000, [(53, e0 .ladd), (54, e0 (.lstore_n 0)), (55, e0 (.lload_n 0)), (56, e0 .l2i), (57, e0 (.bipush 127)), (59, e0 .iand), (60, e0 .ireturn)])]
def in_192 : MI := (⟨"java/lang/Long", "bitCount", "(J)I"⟩, prog_11_method_50_code, 2, some .int, 0, 0, 0, 0, es_192)
-- 193: java/lang/Integer bitCount (I)I
def es_193 : List (Nat × List (Nat × Ent)) := [(9, [(0, e0 (.iload_n 0)), (1, e0 (.iload_n 0)), (2, e0 (.iconst 1)), (3, e0 .iushr), (4, .ldc_w 265, 0, 0, 0, 1431655765, [30085]), (7, e0 .iand), (8, e0 .isub)]),
  (18, [(9, e0 (.istore_n 0)), (10, e0 (.iload_n 0)), (11, .ldc_w 266, 0, 0, 0, 858993459, [30086]), (14, e0 .iand), (15, e0 (.iload_n 0)), (16, e0 (.iconst 2)), (17, e0 .iushr)]),
  (27, [(18, .ldc_w 266, 0, 0, 0, 858993459, [30086]), (21, e0 .iand), (22, e0 .iadd), (23, e0 (.istore_n 0)), (24, e0 (.iload_n 0)), (25, e0 (.iload_n 0)), (26, e0 (.iconst 4))]),
  (36, [(27, e0 .iushr), (28, e0 .iadd), (29, .ldc_w 267, 0, 0, 0, 252645135, [30087]), (32, e0 .iand), (33, e0 (.istore_n 0)), (34, e0 (.iload_n 0)), (35, e0 (.iload_n 0))]),
  (45, [(36, e0 (.bipush 8)), (38, e0 .iushr), (39, e0 .iadd), (40, e0 (.istore_n 0)), (41, e0 (.iload_n 0)), (42, e0 (.iload_n 0)), (43, e0 (.bipush 16))]),
  (100000, [(45, e0 .iushr), (46, e0 .iadd), (47, e0 (.istore_n 0)), (48, e0 (.iload_n 0)), (49, e0 (.bipush 63)), (51, e0 .iand), (52, e0 .ireturn)])]
def in_193 : MI := (⟨"java/lang/Integer", "bitCount", "(I)I"⟩, prog_10_method_49_code, 1, some .int, 0, 0, 0, 0, es_193)
-- 194: HarbourTugsLaw law ([I)Z
def es_194 : List (Nat × List (Nat × Ent)) := [(180, [(0, .new 7, 6, 0, 6, 0, [10013, 10014, 10001]), (3, e0 .dup), (4, .invokespecial 9, 73, 0, 4, 0, [10015, 10001, 10017, 10016]), (7, e0 (.astore_n 1)), (8, .new 10, 7, 0, 18, 0, [40047, 40048, 10008]), (11, e0 .dup), (12, .invokespecial 12, 114, 0, 4, 0, [40049, 10008, 40051, 40050]), (15, e0 (.astore_n 2)), (16, e0 (.iconst 0)), (17, e0 (.istore_n 3)), (18, e0 (.iload_n 3)), (19, e0 (.aload_n 0)), (20, e0 .arraylength), (21, e0 (.bipush 8)), (23, e0 .isub), (24, .if_icmp .gt 1215, 1239, 0, 0, 0, []), (27, e0 (.aload_n 0)), (28, e0 (.iload_n 3)), (29, e0 .iaload), (30, e0 (.bipush 31)), (32, e0 .iand), (33, .tableswitch 1200 0 30 #[139, 172, 205, 238, 281, 314, 401, 488, 521, 554, 587, 630, 673, 696, 729, 762, 795, 818, 851, 874, 907, 930, 963, 976, 1029, 1052, 1085, 1118, 1151, 1164, 1177], 1233, 0, 139, 0, [172, 205, 238, 271, 314, 347, 434, 521, 554, 587, 620, 663, 706, 729, 762, 795, 828, 851, 884, 907, 940, 963, 996, 1009, 1062, 1085, 1118, 1151, 1184, 1197, 1210]), (172, e0 (.aload_n 1)), (173, e0 (.aload_n 0)), (174, e0 (.iload_n 3)), (175, e0 (.iconst 1)), (176, e0 .iadd), (177, e0 .iaload), (178, e0 (.aload_n 0)), (179, e0 (.iload_n 3))]),
  (216, [(180, e0 (.iconst 2)), (181, e0 .iadd), (182, e0 .iaload), (183, .invokevirtual 13, 74, 2, 62, 0, [20052, 10001, 20055, 20053, 20054]), (186, e0 .pop), (187, e0 (.aload_n 2)), (188, e0 (.aload_n 0)), (189, e0 (.iload_n 3)), (190, e0 (.iconst 1)), (191, e0 .iadd), (192, e0 .iaload), (193, e0 (.aload_n 0)), (194, e0 (.iload_n 3)), (195, e0 (.iconst 2)), (196, e0 .iadd), (197, e0 .iaload), (198, .invokevirtual 17, 122, 2, 72, 0, [40112, 10008, 40115, 40113, 40114]), (201, e0 .pop), (202, .goto 1031, 1233, 0, 0, 0, []), (205, e0 (.aload_n 1)), (206, e0 (.aload_n 0)), (207, e0 (.iload_n 3)), (208, e0 (.iconst 1)), (209, e0 .iadd), (210, e0 .iaload), (211, e0 (.aload_n 0)), (212, e0 (.iload_n 3)), (213, e0 (.iconst 2)), (214, e0 .iadd), (215, e0 .iaload)]),
  (254, [(216, .invokevirtual 18, 75, 2, 62, 0, [20059, 10001, 20062, 20060, 20061]), (219, e0 .pop), (220, e0 (.aload_n 2)), (221, e0 (.aload_n 0)), (222, e0 (.iload_n 3)), (223, e0 (.iconst 1)), (224, e0 .iadd), (225, e0 .iaload), (226, e0 (.aload_n 0)), (227, e0 (.iload_n 3)), (228, e0 (.iconst 2)), (229, e0 .iadd), (230, e0 .iaload), (231, .invokevirtual 21, 123, 2, 72, 0, [40121, 10008, 40124, 40122, 40123]), (234, e0 .pop), (235, .goto 998, 1233, 0, 0, 0, []), (238, e0 (.aload_n 1)), (239, e0 (.aload_n 0)), (240, e0 (.iload_n 3)), (241, e0 (.iconst 1)), (242, e0 .iadd), (243, e0 .iaload), (244, e0 (.aload_n 0)), (245, e0 (.iload_n 3)), (246, e0 (.iconst 2)), (247, e0 .iadd), (248, e0 .iaload), (249, .invokevirtual 22, 76, 2, 62, 0, [20066, 10001, 20069, 20067, 20068]), (252, e0 .pop), (253, e0 (.aload_n 2))]),
  (290, [(254, e0 (.aload_n 0)), (255, e0 (.iload_n 3)), (256, e0 (.iconst 1)), (257, e0 .iadd), (258, e0 .iaload), (259, e0 (.aload_n 0)), (260, e0 (.iload_n 3)), (261, e0 (.iconst 2)), (262, e0 .iadd), (263, e0 .iaload), (264, .invokevirtual 25, 124, 2, 72, 0, [40129, 10008, 40132, 40130, 40131]), (267, e0 .pop), (268, .goto 965, 1233, 0, 0, 0, []), (271, e0 (.aload_n 1)), (272, e0 (.aload_n 0)), (273, e0 (.iload_n 3)), (274, e0 (.iconst 1)), (275, e0 .iadd), (276, e0 .iaload), (277, e0 (.aload_n 0)), (278, e0 (.iload_n 3)), (279, e0 (.iconst 2)), (280, e0 .iadd), (281, e0 .iaload), (282, e0 (.aload_n 0)), (283, e0 (.iload_n 3)), (284, e0 (.iconst 3)), (285, e0 .iadd), (286, e0 .iaload), (287, .invokevirtual 26, 77, 3, 62, 0, [20070, 10001, 20073, 20071, 20072])]),
  (324, [(290, e0 .pop), (291, e0 (.aload_n 2)), (292, e0 (.aload_n 0)), (293, e0 (.iload_n 3)), (294, e0 (.iconst 1)), (295, e0 .iadd), (296, e0 .iaload), (297, e0 (.aload_n 0)), (298, e0 (.iload_n 3)), (299, e0 (.iconst 2)), (300, e0 .iadd), (301, e0 .iaload), (302, e0 (.aload_n 0)), (303, e0 (.iload_n 3)), (304, e0 (.iconst 3)), (305, e0 .iadd), (306, e0 .iaload), (307, .invokevirtual 30, 126, 3, 72, 0, [40135, 10008, 40138, 40136, 40137]), (310, e0 .pop), (311, .goto 922, 1233, 0, 0, 0, []), (314, e0 (.aload_n 1)), (315, e0 (.aload_n 0)), (316, e0 (.iload_n 3)), (317, e0 (.iconst 1)), (318, e0 .iadd), (319, e0 .iaload), (320, e0 (.aload_n 0)), (321, e0 (.iload_n 3)), (322, e0 (.iconst 2)), (323, e0 .iadd)]),
  (360, [(324, e0 .iaload), (325, .invokevirtual 31, 78, 2, 62, 0, [20085, 10001, 20088, 20086, 20087]), (328, e0 .pop), (329, e0 (.aload_n 2)), (330, e0 (.aload_n 0)), (331, e0 (.iload_n 3)), (332, e0 (.iconst 1)), (333, e0 .iadd), (334, e0 .iaload), (335, e0 (.aload_n 0)), (336, e0 (.iload_n 3)), (337, e0 (.iconst 2)), (338, e0 .iadd), (339, e0 .iaload), (340, .invokevirtual 34, 128, 2, 72, 0, [40151, 10008, 40154, 40152, 40153]), (343, e0 .pop), (344, .goto 889, 1233, 0, 0, 0, []), (347, e0 (.aload_n 1)), (348, e0 (.aload_n 0)), (349, e0 (.iload_n 3)), (350, e0 (.iconst 1)), (351, e0 .iadd), (352, e0 .iaload), (353, e0 (.aload_n 0)), (354, e0 (.iload_n 3)), (355, e0 (.iconst 2)), (356, e0 .iadd), (357, e0 .iaload), (358, e0 (.aload_n 0)), (359, e0 (.iload_n 3))]),
  (394, [(360, e0 (.iconst 3)), (361, e0 .iadd), (362, e0 .iaload), (363, e0 (.aload_n 0)), (364, e0 (.iload_n 3)), (365, e0 (.iconst 4)), (366, e0 .iadd), (367, e0 .iaload), (368, e0 (.aload_n 0)), (369, e0 (.iload_n 3)), (370, e0 (.iconst 5)), (371, e0 .iadd), (372, e0 .iaload), (373, e0 (.aload_n 0)), (374, e0 (.iload_n 3)), (375, e0 (.bipush 6)), (377, e0 .iadd), (378, e0 .iaload), (379, e0 (.aload_n 0)), (380, e0 (.iload_n 3)), (381, e0 (.bipush 7)), (383, e0 .iadd), (384, e0 .iaload), (385, .invokevirtual 35, 79, 7, 62, 0, [20094, 10001, 20097, 20095, 20096]), (388, e0 .pop), (389, e0 (.aload_n 2)), (390, e0 (.aload_n 0)), (391, e0 (.iload_n 3)), (392, e0 (.iconst 1)), (393, e0 .iadd)]),
  (426, [(394, e0 .iaload), (395, e0 (.aload_n 0)), (396, e0 (.iload_n 3)), (397, e0 (.iconst 2)), (398, e0 .iadd), (399, e0 .iaload), (400, e0 (.aload_n 0)), (401, e0 (.iload_n 3)), (402, e0 (.iconst 3)), (403, e0 .iadd), (404, e0 .iaload), (405, e0 (.aload_n 0)), (406, e0 (.iload_n 3)), (407, e0 (.iconst 4)), (408, e0 .iadd), (409, e0 .iaload), (410, e0 (.aload_n 0)), (411, e0 (.iload_n 3)), (412, e0 (.iconst 5)), (413, e0 .iadd), (414, e0 .iaload), (415, e0 (.aload_n 0)), (416, e0 (.iload_n 3)), (417, e0 (.bipush 6)), (419, e0 .iadd), (420, e0 .iaload), (421, e0 (.aload_n 0)), (422, e0 (.iload_n 3)), (423, e0 (.bipush 7)), (425, e0 .iadd)]),
  (460, [(426, e0 .iaload), (427, .invokevirtual 39, 129, 7, 72, 0, [40159, 10008, 40162, 40160, 40161]), (430, e0 .pop), (431, .goto 802, 1233, 0, 0, 0, []), (434, e0 (.aload_n 1)), (435, e0 (.aload_n 0)), (436, e0 (.iload_n 3)), (437, e0 (.iconst 1)), (438, e0 .iadd), (439, e0 .iaload), (440, e0 (.aload_n 0)), (441, e0 (.iload_n 3)), (442, e0 (.iconst 2)), (443, e0 .iadd), (444, e0 .iaload), (445, e0 (.aload_n 0)), (446, e0 (.iload_n 3)), (447, e0 (.iconst 3)), (448, e0 .iadd), (449, e0 .iaload), (450, e0 (.aload_n 0)), (451, e0 (.iload_n 3)), (452, e0 (.iconst 4)), (453, e0 .iadd), (454, e0 .iaload), (455, e0 (.aload_n 0)), (456, e0 (.iload_n 3)), (457, e0 (.iconst 5)), (458, e0 .iadd), (459, e0 .iaload)]),
  (494, [(460, e0 (.aload_n 0)), (461, e0 (.iload_n 3)), (462, e0 (.bipush 6)), (464, e0 .iadd), (465, e0 .iaload), (466, e0 (.aload_n 0)), (467, e0 (.iload_n 3)), (468, e0 (.bipush 7)), (470, e0 .iadd), (471, e0 .iaload), (472, .invokevirtual 40, 80, 7, 62, 0, [20102, 10001, 20105, 20103, 20104]), (475, e0 .pop), (476, e0 (.aload_n 2)), (477, e0 (.aload_n 0)), (478, e0 (.iload_n 3)), (479, e0 (.iconst 1)), (480, e0 .iadd), (481, e0 .iaload), (482, e0 (.aload_n 0)), (483, e0 (.iload_n 3)), (484, e0 (.iconst 2)), (485, e0 .iadd), (486, e0 .iaload), (487, e0 (.aload_n 0)), (488, e0 (.iload_n 3)), (489, e0 (.iconst 3)), (490, e0 .iadd), (491, e0 .iaload), (492, e0 (.aload_n 0)), (493, e0 (.iload_n 3))]),
  (530, [(494, e0 (.iconst 4)), (495, e0 .iadd), (496, e0 .iaload), (497, e0 (.aload_n 0)), (498, e0 (.iload_n 3)), (499, e0 (.iconst 5)), (500, e0 .iadd), (501, e0 .iaload), (502, e0 (.aload_n 0)), (503, e0 (.iload_n 3)), (504, e0 (.bipush 6)), (506, e0 .iadd), (507, e0 .iaload), (508, e0 (.aload_n 0)), (509, e0 (.iload_n 3)), (510, e0 (.bipush 7)), (512, e0 .iadd), (513, e0 .iaload), (514, .invokevirtual 43, 130, 7, 72, 0, [40165, 10008, 40168, 40166, 40167]), (517, e0 .pop), (518, .goto 715, 1233, 0, 0, 0, []), (521, e0 (.aload_n 1)), (522, e0 (.aload_n 0)), (523, e0 (.iload_n 3)), (524, e0 (.iconst 1)), (525, e0 .iadd), (526, e0 .iaload), (527, e0 (.aload_n 0)), (528, e0 (.iload_n 3)), (529, e0 (.iconst 2))]),
  (568, [(530, e0 .iadd), (531, e0 .iaload), (532, .invokevirtual 44, 81, 2, 62, 0, [20114, 10001, 20117, 20115, 20116]), (535, e0 .pop), (536, e0 (.aload_n 2)), (537, e0 (.aload_n 0)), (538, e0 (.iload_n 3)), (539, e0 (.iconst 1)), (540, e0 .iadd), (541, e0 .iaload), (542, e0 (.aload_n 0)), (543, e0 (.iload_n 3)), (544, e0 (.iconst 2)), (545, e0 .iadd), (546, e0 .iaload), (547, .invokevirtual 47, 132, 2, 72, 0, [40174, 10008, 40177, 40175, 40176]), (550, e0 .pop), (551, .goto 682, 1233, 0, 0, 0, []), (554, e0 (.aload_n 1)), (555, e0 (.aload_n 0)), (556, e0 (.iload_n 3)), (557, e0 (.iconst 1)), (558, e0 .iadd), (559, e0 .iaload), (560, e0 (.aload_n 0)), (561, e0 (.iload_n 3)), (562, e0 (.iconst 2)), (563, e0 .iadd), (564, e0 .iaload), (565, .invokevirtual 48, 82, 2, 62, 0, [20127, 10001, 20130, 20128, 20129])]),
  (604, [(568, e0 .pop), (569, e0 (.aload_n 2)), (570, e0 (.aload_n 0)), (571, e0 (.iload_n 3)), (572, e0 (.iconst 1)), (573, e0 .iadd), (574, e0 .iaload), (575, e0 (.aload_n 0)), (576, e0 (.iload_n 3)), (577, e0 (.iconst 2)), (578, e0 .iadd), (579, e0 .iaload), (580, .invokevirtual 51, 139, 2, 72, 0, [40214, 10008, 40217, 40215, 40216]), (583, e0 .pop), (584, .goto 649, 1233, 0, 0, 0, []), (587, e0 (.aload_n 1)), (588, e0 (.aload_n 0)), (589, e0 (.iload_n 3)), (590, e0 (.iconst 1)), (591, e0 .iadd), (592, e0 .iaload), (593, e0 (.aload_n 0)), (594, e0 (.iload_n 3)), (595, e0 (.iconst 2)), (596, e0 .iadd), (597, e0 .iaload), (598, .invokevirtual 52, 83, 2, 62, 0, [20151, 10001, 20154, 20152, 20153]), (601, e0 .pop), (602, e0 (.aload_n 2)), (603, e0 (.aload_n 0))]),
  (640, [(604, e0 (.iload_n 3)), (605, e0 (.iconst 1)), (606, e0 .iadd), (607, e0 .iaload), (608, e0 (.aload_n 0)), (609, e0 (.iload_n 3)), (610, e0 (.iconst 2)), (611, e0 .iadd), (612, e0 .iaload), (613, .invokevirtual 55, 138, 2, 72, 0, [40186, 10008, 40189, 40187, 40188]), (616, e0 .pop), (617, .goto 616, 1233, 0, 0, 0, []), (620, e0 (.aload_n 1)), (621, e0 (.aload_n 0)), (622, e0 (.iload_n 3)), (623, e0 (.iconst 1)), (624, e0 .iadd), (625, e0 .iaload), (626, e0 (.aload_n 0)), (627, e0 (.iload_n 3)), (628, e0 (.iconst 2)), (629, e0 .iadd), (630, e0 .iaload), (631, e0 (.aload_n 0)), (632, e0 (.iload_n 3)), (633, e0 (.iconst 3)), (634, e0 .iadd), (635, e0 .iaload), (636, .invokevirtual 56, 84, 3, 62, 0, [20155, 10001, 20158, 20156, 20157]), (639, e0 .pop)]),
  (674, [(640, e0 (.aload_n 2)), (641, e0 (.aload_n 0)), (642, e0 (.iload_n 3)), (643, e0 (.iconst 1)), (644, e0 .iadd), (645, e0 .iaload), (646, e0 (.aload_n 0)), (647, e0 (.iload_n 3)), (648, e0 (.iconst 2)), (649, e0 .iadd), (650, e0 .iaload), (651, e0 (.aload_n 0)), (652, e0 (.iload_n 3)), (653, e0 (.iconst 3)), (654, e0 .iadd), (655, e0 .iaload), (656, .invokevirtual 59, 152, 3, 72, 0, [40218, 10008, 40221, 40219, 40220]), (659, e0 .pop), (660, .goto 573, 1233, 0, 0, 0, []), (663, e0 (.aload_n 1)), (664, e0 (.aload_n 0)), (665, e0 (.iload_n 3)), (666, e0 (.iconst 1)), (667, e0 .iadd), (668, e0 .iaload), (669, e0 (.aload_n 0)), (670, e0 (.iload_n 3)), (671, e0 (.iconst 2)), (672, e0 .iadd), (673, e0 .iaload)]),
  (710, [(674, e0 (.aload_n 0)), (675, e0 (.iload_n 3)), (676, e0 (.iconst 3)), (677, e0 .iadd), (678, e0 .iaload), (679, .invokevirtual 60, 85, 3, 62, 0, [30038, 10001, 30041, 30039, 30040]), (682, e0 .pop), (683, e0 (.aload_n 2)), (684, e0 (.aload_n 0)), (685, e0 (.iload_n 3)), (686, e0 (.iconst 1)), (687, e0 .iadd), (688, e0 .iaload), (689, e0 (.aload_n 0)), (690, e0 (.iload_n 3)), (691, e0 (.iconst 2)), (692, e0 .iadd), (693, e0 .iaload), (694, e0 (.aload_n 0)), (695, e0 (.iload_n 3)), (696, e0 (.iconst 3)), (697, e0 .iadd), (698, e0 .iaload), (699, .invokevirtual 63, 154, 3, 72, 0, [50033, 10008, 50036, 50034, 50035]), (702, e0 .pop), (703, .goto 530, 1233, 0, 0, 0, []), (706, e0 (.aload_n 1)), (707, e0 (.aload_n 0)), (708, e0 (.iload_n 3)), (709, e0 (.iconst 1))]),
  (748, [(710, e0 .iadd), (711, e0 .iaload), (712, .invokevirtual 64, 86, 1, 62, 0, [30046, 10001, 30049, 30047, 30048]), (715, e0 .pop), (716, e0 (.aload_n 2)), (717, e0 (.aload_n 0)), (718, e0 (.iload_n 3)), (719, e0 (.iconst 1)), (720, e0 .iadd), (721, e0 .iaload), (722, .invokevirtual 68, 156, 1, 72, 0, [50042, 10008, 50045, 50043, 50044]), (725, e0 .pop), (726, .goto 507, 1233, 0, 0, 0, []), (729, e0 (.aload_n 1)), (730, e0 (.aload_n 0)), (731, e0 (.iload_n 3)), (732, e0 (.iconst 1)), (733, e0 .iadd), (734, e0 .iaload), (735, e0 (.aload_n 0)), (736, e0 (.iload_n 3)), (737, e0 (.iconst 2)), (738, e0 .iadd), (739, e0 .iaload), (740, .invokevirtual 69, 87, 2, 62, 0, [30062, 10001, 30065, 30063, 30064]), (743, e0 .pop), (744, e0 (.aload_n 2)), (745, e0 (.aload_n 0)), (746, e0 (.iload_n 3)), (747, e0 (.iconst 1))]),
  (784, [(748, e0 .iadd), (749, e0 .iaload), (750, e0 (.aload_n 0)), (751, e0 (.iload_n 3)), (752, e0 (.iconst 2)), (753, e0 .iadd), (754, e0 .iaload), (755, .invokevirtual 72, 160, 2, 72, 0, [50050, 10008, 50053, 50051, 50052]), (758, e0 .pop), (759, .goto 474, 1233, 0, 0, 0, []), (762, e0 (.aload_n 1)), (763, e0 (.aload_n 0)), (764, e0 (.iload_n 3)), (765, e0 (.iconst 1)), (766, e0 .iadd), (767, e0 .iaload), (768, e0 (.aload_n 0)), (769, e0 (.iload_n 3)), (770, e0 (.iconst 2)), (771, e0 .iadd), (772, e0 .iaload), (773, .invokevirtual 73, 88, 2, 62, 0, [30088, 10001, 30091, 30089, 30090]), (776, e0 .pop), (777, e0 (.aload_n 2)), (778, e0 (.aload_n 0)), (779, e0 (.iload_n 3)), (780, e0 (.iconst 1)), (781, e0 .iadd), (782, e0 .iaload), (783, e0 (.aload_n 0))]),
  (820, [(784, e0 (.iload_n 3)), (785, e0 (.iconst 2)), (786, e0 .iadd), (787, e0 .iaload), (788, .invokevirtual 76, 161, 2, 72, 0, [50065, 10008, 50068, 50066, 50067]), (791, e0 .pop), (792, .goto 441, 1233, 0, 0, 0, []), (795, e0 (.aload_n 1)), (796, e0 (.aload_n 0)), (797, e0 (.iload_n 3)), (798, e0 (.iconst 1)), (799, e0 .iadd), (800, e0 .iaload), (801, e0 (.aload_n 0)), (802, e0 (.iload_n 3)), (803, e0 (.iconst 2)), (804, e0 .iadd), (805, e0 .iaload), (806, .invokevirtual 77, 89, 2, 62, 0, [30092, 10001, 30095, 30093, 30094]), (809, e0 .pop), (810, e0 (.aload_n 2)), (811, e0 (.aload_n 0)), (812, e0 (.iload_n 3)), (813, e0 (.iconst 1)), (814, e0 .iadd), (815, e0 .iaload), (816, e0 (.aload_n 0)), (817, e0 (.iload_n 3)), (818, e0 (.iconst 2)), (819, e0 .iadd)]),
  (860, [(820, e0 .iaload), (821, .invokevirtual 80, 170, 2, 72, 0, [50069, 10008, 50072, 50070, 50071]), (824, e0 .pop), (825, .goto 408, 1233, 0, 0, 0, []), (828, e0 (.aload_n 1)), (829, e0 (.aload_n 0)), (830, e0 (.iload_n 3)), (831, e0 (.iconst 1)), (832, e0 .iadd), (833, e0 .iaload), (834, .invokevirtual 81, 90, 1, 62, 0, [30150, 10001, 30153, 30151, 30152]), (837, e0 .pop), (838, e0 (.aload_n 2)), (839, e0 (.aload_n 0)), (840, e0 (.iload_n 3)), (841, e0 (.iconst 1)), (842, e0 .iadd), (843, e0 .iaload), (844, .invokevirtual 84, 171, 1, 72, 0, [50105, 10008, 50108, 50106, 50107]), (847, e0 .pop), (848, .goto 385, 1233, 0, 0, 0, []), (851, e0 (.aload_n 1)), (852, e0 (.aload_n 0)), (853, e0 (.iload_n 3)), (854, e0 (.iconst 1)), (855, e0 .iadd), (856, e0 .iaload), (857, e0 (.aload_n 0)), (858, e0 (.iload_n 3)), (859, e0 (.iconst 2))]),
  (898, [(860, e0 .iadd), (861, e0 .iaload), (862, .invokevirtual 85, 91, 2, 62, 0, [30156, 10001, 30159, 30157, 30158]), (865, e0 .pop), (866, e0 (.aload_n 2)), (867, e0 (.aload_n 0)), (868, e0 (.iload_n 3)), (869, e0 (.iconst 1)), (870, e0 .iadd), (871, e0 .iaload), (872, e0 (.aload_n 0)), (873, e0 (.iload_n 3)), (874, e0 (.iconst 2)), (875, e0 .iadd), (876, e0 .iaload), (877, .invokevirtual 88, 174, 2, 72, 0, [50109, 10008, 50112, 50110, 50111]), (880, e0 .pop), (881, .goto 352, 1233, 0, 0, 0, []), (884, e0 (.aload_n 1)), (885, e0 (.aload_n 0)), (886, e0 (.iload_n 3)), (887, e0 (.iconst 1)), (888, e0 .iadd), (889, e0 .iaload), (890, .invokevirtual 89, 92, 1, 62, 0, [30179, 10001, 30182, 30180, 30181]), (893, e0 .pop), (894, e0 (.aload_n 2)), (895, e0 (.aload_n 0)), (896, e0 (.iload_n 3)), (897, e0 (.iconst 1))]),
  (936, [(898, e0 .iadd), (899, e0 .iaload), (900, .invokevirtual 92, 175, 1, 72, 0, [50122, 10008, 50125, 50123, 50124]), (903, e0 .pop), (904, .goto 329, 1233, 0, 0, 0, []), (907, e0 (.aload_n 1)), (908, e0 (.aload_n 0)), (909, e0 (.iload_n 3)), (910, e0 (.iconst 1)), (911, e0 .iadd), (912, e0 .iaload), (913, e0 (.aload_n 0)), (914, e0 (.iload_n 3)), (915, e0 (.iconst 2)), (916, e0 .iadd), (917, e0 .iaload), (918, .invokevirtual 93, 93, 2, 62, 0, [30184, 10001, 30187, 30185, 30186]), (921, e0 .pop), (922, e0 (.aload_n 2)), (923, e0 (.aload_n 0)), (924, e0 (.iload_n 3)), (925, e0 (.iconst 1)), (926, e0 .iadd), (927, e0 .iaload), (928, e0 (.aload_n 0)), (929, e0 (.iload_n 3)), (930, e0 (.iconst 2)), (931, e0 .iadd), (932, e0 .iaload), (933, .invokevirtual 96, 177, 2, 72, 0, [50126, 10008, 50129, 50127, 50128])]),
  (974, [(936, e0 .pop), (937, .goto 296, 1233, 0, 0, 0, []), (940, e0 (.aload_n 1)), (941, e0 (.aload_n 0)), (942, e0 (.iload_n 3)), (943, e0 (.iconst 1)), (944, e0 .iadd), (945, e0 .iaload), (946, .invokevirtual 97, 94, 1, 62, 0, [30200, 10001, 30203, 30201, 30202]), (949, e0 .pop), (950, e0 (.aload_n 2)), (951, e0 (.aload_n 0)), (952, e0 (.iload_n 3)), (953, e0 (.iconst 1)), (954, e0 .iadd), (955, e0 .iaload), (956, .invokevirtual 100, 178, 1, 72, 0, [50134, 10008, 50137, 50135, 50136]), (959, e0 .pop), (960, .goto 273, 1233, 0, 0, 0, []), (963, e0 (.aload_n 1)), (964, e0 (.aload_n 0)), (965, e0 (.iload_n 3)), (966, e0 (.iconst 1)), (967, e0 .iadd), (968, e0 .iaload), (969, e0 (.aload_n 0)), (970, e0 (.iload_n 3)), (971, e0 (.iconst 2)), (972, e0 .iadd), (973, e0 .iaload)]),
  (1016, [(974, .invokevirtual 101, 95, 2, 62, 0, [30208, 10001, 30211, 30209, 30210]), (977, e0 .pop), (978, e0 (.aload_n 2)), (979, e0 (.aload_n 0)), (980, e0 (.iload_n 3)), (981, e0 (.iconst 1)), (982, e0 .iadd), (983, e0 .iaload), (984, e0 (.aload_n 0)), (985, e0 (.iload_n 3)), (986, e0 (.iconst 2)), (987, e0 .iadd), (988, e0 .iaload), (989, .invokevirtual 104, 179, 2, 72, 0, [50138, 10008, 50141, 50139, 50140]), (992, e0 .pop), (993, .goto 240, 1233, 0, 0, 0, []), (996, e0 (.aload_n 1)), (997, .invokevirtual 105, 96, 0, 62, 0, [30216, 10001, 30219, 30217, 30218]), (1000, e0 .pop), (1001, e0 (.aload_n 2)), (1002, .invokevirtual 109, 181, 0, 72, 0, [50142, 10008, 50145, 50143, 50144]), (1005, e0 .pop), (1006, .goto 227, 1233, 0, 0, 0, []), (1009, e0 (.aload_n 1)), (1010, e0 (.aload_n 0)), (1011, e0 (.iload_n 3)), (1012, e0 (.iconst 1)), (1013, e0 .iadd), (1014, e0 .iaload), (1015, e0 (.aload_n 0))]),
  (1048, [(1016, e0 (.iload_n 3)), (1017, e0 (.iconst 2)), (1018, e0 .iadd), (1019, e0 .iaload), (1020, e0 (.aload_n 0)), (1021, e0 (.iload_n 3)), (1022, e0 (.iconst 3)), (1023, e0 .iadd), (1024, e0 .iaload), (1025, e0 (.aload_n 0)), (1026, e0 (.iload_n 3)), (1027, e0 (.iconst 4)), (1028, e0 .iadd), (1029, e0 .iaload), (1030, .invokevirtual 110, 97, 4, 62, 0, [30221, 10001, 30224, 30222, 30223]), (1033, e0 .pop), (1034, e0 (.aload_n 2)), (1035, e0 (.aload_n 0)), (1036, e0 (.iload_n 3)), (1037, e0 (.iconst 1)), (1038, e0 .iadd), (1039, e0 .iaload), (1040, e0 (.aload_n 0)), (1041, e0 (.iload_n 3)), (1042, e0 (.iconst 2)), (1043, e0 .iadd), (1044, e0 .iaload), (1045, e0 (.aload_n 0)), (1046, e0 (.iload_n 3)), (1047, e0 (.iconst 3))]),
  (1088, [(1048, e0 .iadd), (1049, e0 .iaload), (1050, e0 (.aload_n 0)), (1051, e0 (.iload_n 3)), (1052, e0 (.iconst 4)), (1053, e0 .iadd), (1054, e0 .iaload), (1055, .invokevirtual 114, 182, 4, 72, 0, [50150, 10008, 50153, 50151, 50152]), (1058, e0 .pop), (1059, .goto 174, 1233, 0, 0, 0, []), (1062, e0 (.aload_n 1)), (1063, e0 (.aload_n 0)), (1064, e0 (.iload_n 3)), (1065, e0 (.iconst 1)), (1066, e0 .iadd), (1067, e0 .iaload), (1068, .invokevirtual 115, 98, 1, 62, 0, [30231, 10001, 30234, 30232, 30233]), (1071, e0 .pop2), (1072, e0 (.aload_n 2)), (1073, e0 (.aload_n 0)), (1074, e0 (.iload_n 3)), (1075, e0 (.iconst 1)), (1076, e0 .iadd), (1077, e0 .iaload), (1078, .invokevirtual 119, 184, 1, 72, 0, [50159, 10008, 50162, 50160, 50161]), (1081, e0 .pop2), (1082, .goto 151, 1233, 0, 0, 0, []), (1085, e0 (.aload_n 1)), (1086, e0 (.aload_n 0)), (1087, e0 (.iload_n 3))]),
  (1124, [(1088, e0 (.iconst 1)), (1089, e0 .iadd), (1090, e0 .iaload), (1091, e0 (.aload_n 0)), (1092, e0 (.iload_n 3)), (1093, e0 (.iconst 2)), (1094, e0 .iadd), (1095, e0 .iaload), (1096, .invokevirtual 120, 99, 2, 62, 0, [40008, 10001, 40011, 40009, 40010]), (1099, e0 .pop), (1100, e0 (.aload_n 2)), (1101, e0 (.aload_n 0)), (1102, e0 (.iload_n 3)), (1103, e0 (.iconst 1)), (1104, e0 .iadd), (1105, e0 .iaload), (1106, e0 (.aload_n 0)), (1107, e0 (.iload_n 3)), (1108, e0 (.iconst 2)), (1109, e0 .iadd), (1110, e0 .iaload), (1111, .invokevirtual 123, 185, 2, 72, 0, [50170, 10008, 50173, 50171, 50172]), (1114, e0 .pop), (1115, .goto 118, 1233, 0, 0, 0, []), (1118, e0 (.aload_n 1)), (1119, e0 (.aload_n 0)), (1120, e0 (.iload_n 3)), (1121, e0 (.iconst 1)), (1122, e0 .iadd), (1123, e0 .iaload)]),
  (1160, [(1124, e0 (.aload_n 0)), (1125, e0 (.iload_n 3)), (1126, e0 (.iconst 2)), (1127, e0 .iadd), (1128, e0 .iaload), (1129, .invokevirtual 124, 100, 2, 62, 0, [40017, 10001, 40020, 40018, 40019]), (1132, e0 .pop2), (1133, e0 (.aload_n 2)), (1134, e0 (.aload_n 0)), (1135, e0 (.iload_n 3)), (1136, e0 (.iconst 1)), (1137, e0 .iadd), (1138, e0 .iaload), (1139, e0 (.aload_n 0)), (1140, e0 (.iload_n 3)), (1141, e0 (.iconst 2)), (1142, e0 .iadd), (1143, e0 .iaload), (1144, .invokevirtual 128, 186, 2, 72, 0, [50175, 10008, 50178, 50176, 50177]), (1147, e0 .pop2), (1148, .goto 85, 1233, 0, 0, 0, []), (1151, e0 (.aload_n 1)), (1152, e0 (.aload_n 0)), (1153, e0 (.iload_n 3)), (1154, e0 (.iconst 1)), (1155, e0 .iadd), (1156, e0 .iaload), (1157, e0 (.aload_n 0)), (1158, e0 (.iload_n 3)), (1159, e0 (.iconst 2))]),
  (1206, [(1160, e0 .iadd), (1161, e0 .iaload), (1162, .invokevirtual 129, 101, 2, 62, 0, [40022, 10001, 40025, 40023, 40024]), (1165, e0 .pop), (1166, e0 (.aload_n 2)), (1167, e0 (.aload_n 0)), (1168, e0 (.iload_n 3)), (1169, e0 (.iconst 1)), (1170, e0 .iadd), (1171, e0 .iaload), (1172, e0 (.aload_n 0)), (1173, e0 (.iload_n 3)), (1174, e0 (.iconst 2)), (1175, e0 .iadd), (1176, e0 .iaload), (1177, .invokevirtual 132, 188, 2, 72, 0, [50179, 10008, 50182, 50180, 50181]), (1180, e0 .pop), (1181, .goto 52, 1233, 0, 0, 0, []), (1184, e0 (.aload_n 1)), (1185, .invokevirtual 133, 102, 0, 62, 0, [40030, 10001, 40033, 40031, 40032]), (1188, e0 .pop), (1189, e0 (.aload_n 2)), (1190, .invokevirtual 136, 189, 0, 72, 0, [50188, 10008, 50191, 50189, 50190]), (1193, e0 .pop), (1194, .goto 39, 1233, 0, 0, 0, []), (1197, e0 (.aload_n 1)), (1198, .invokevirtual 137, 103, 0, 62, 0, [40035, 10001, 40038, 40036, 40037]), (1201, e0 .pop), (1202, e0 (.aload_n 2)), (1203, .invokevirtual 140, 190, 0, 72, 0, [50192, 10008, 50195, 50193, 50194])]),
  (100000, [(1206, e0 .pop), (1207, .goto 26, 1233, 0, 0, 0, []), (1210, e0 (.aload_n 1)), (1211, e0 (.aload_n 0)), (1212, e0 (.iload_n 3)), (1213, e0 (.iconst 1)), (1214, e0 .iadd), (1215, e0 .iaload), (1216, .invokevirtual 141, 104, 1, 62, 0, [40039, 10001, 40042, 40040, 40041]), (1219, e0 (.aload_n 2)), (1220, e0 (.aload_n 0)), (1221, e0 (.iload_n 3)), (1222, e0 (.iconst 1)), (1223, e0 .iadd), (1224, e0 .iaload), (1225, .invokevirtual 144, 191, 1, 72, 0, [50196, 10008, 50199, 50197, 50198]), (1228, .if_icmp .eq 5, 1233, 0, 0, 0, []), (1231, e0 (.iconst 0)), (1232, e0 .ireturn), (1233, e0 (.iinc 3 8)), (1236, .goto (-1218), 18, 0, 0, 0, []), (1239, e0 (.iconst 1)), (1240, e0 .ireturn)])]
def in_194 : MI := (x, code, 4, some .boolean, 11, 600000, 7302250, 442, es_194)
def inL : MI := in_194
def mths : List MI := [in_0, in_1, in_2, in_3, in_4, in_5, in_6, in_7, in_8, in_9, in_10, in_11, in_12, in_13, in_14, in_15, in_16, in_17, in_18, in_19, in_20, in_21, in_22, in_23, in_24, in_25, in_26, in_27, in_28, in_29, in_30, in_31, in_32, in_33, in_34, in_35, in_36, in_37, in_38, in_39, in_40, in_41, in_42, in_43, in_44, in_45, in_46, in_47, in_48, in_49, in_50, in_51, in_52, in_53, in_54, in_55, in_56, in_57, in_58, in_59, in_60, in_61, in_62, in_63, in_64, in_65, in_66, in_67, in_68, in_69, in_70, in_71, in_72, in_73, in_74, in_75, in_76, in_77, in_78, in_79, in_80, in_81, in_82, in_83, in_84, in_85, in_86, in_87, in_88, in_89, in_90, in_91, in_92, in_93, in_94, in_95, in_96, in_97, in_98, in_99, in_100, in_101, in_102, in_103, in_104, in_105, in_106, in_107, in_108, in_109, in_110, in_111, in_112, in_113, in_114, in_115, in_116, in_117, in_118, in_119, in_120, in_121, in_122, in_123, in_124, in_125, in_126, in_127, in_128, in_129, in_130, in_131, in_132, in_133, in_134, in_135, in_136, in_137, in_138, in_139, in_140, in_141, in_142, in_143, in_144, in_145, in_146, in_147, in_148, in_149, in_150, in_151, in_152, in_153, in_154, in_155, in_156, in_157, in_158, in_159, in_160, in_161, in_162, in_163, in_164, in_165, in_166, in_167, in_168, in_169, in_170, in_171, in_172, in_173, in_174, in_175, in_176, in_177, in_178, in_179, in_180, in_181, in_182, in_183, in_184, in_185, in_186, in_187, in_188, in_189, in_190, in_191, in_192, in_193]
def mth (j : Nat) : Option MI := mths[j]?
