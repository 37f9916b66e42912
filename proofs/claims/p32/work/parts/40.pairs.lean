/-! a call of the program, then the same of the reference: what holds between two calls holds behind them -/
section
variable {g : Nat → Nat → Nat → Int32} {w : Nat → Nat → Nat → Int64} {p1 p2 p3 : Int32}
theorem pr_way (h : ST g w) : Ok (s_X6_way 0 p1 p2 g w) (fun _ => Ok (s_X7_way 0 p1 p2 g w) (fun _ => True)) :=
  ok_imp (a_X6_way (st_gd0 h)) (fun _ _ => ok_imp (a_X7_way (st_gd0 h)) (fun _ _ => trivial))
theorem pr_needs (h : ST g w) : Ok (s_X6_needs 0 p1 p2 g w) (fun _ => Ok (s_X7_needs 0 p1 p2 g w) (fun _ => True)) :=
  ok_imp (a_X6_needs (st_gd0 h)) (fun _ _ => ok_imp (a_X7_needs (st_gd0 h)) (fun _ _ => trivial))
theorem pr_fuel (h : ST g w) : Ok (s_X6_fuel 0 p1 p2 g w) (fun _ => Ok (s_X7_fuel 0 p1 p2 g w) (fun _ => True)) :=
  ok_imp (a_X6_fuel (st_gd0 h)) (fun _ _ => ok_imp (a_X7_fuel (st_gd0 h)) (fun _ _ => trivial))
theorem pr_job (h : ST g w) : Ok (s_X6_job 0 p1 p2 g w) (fun _ => Ok (s_X7_job 0 p1 p2 g w) (fun _ => True)) :=
  ok_imp (a_X6_job (st_gd0 h)) (fun _ _ => ok_imp (a_X7_job (st_gd0 h)) (fun _ _ => trivial))
theorem pr_work (h : ST g w) : Ok (s_X6_work 0 p1 p2 g w) (fun _ => Ok (s_X7_work 0 p1 p2 g w) (fun _ => True)) :=
  ok_imp (a_X6_work (st_gd0 h)) (fun _ _ => ok_imp (a_X7_work (st_gd0 h)) (fun _ _ => trivial))
theorem pr_about (h : ST g w) : Ok (s_X6_about 0 p1 p2 g w) (fun _ => Ok (s_X7_about 0 p1 p2 g w) (fun _ => True)) :=
  ok_imp (a_X6_about (st_gd0 h)) (fun _ _ => ok_imp (a_X7_about (st_gd0 h)) (fun _ _ => trivial))
theorem pr_count (h : ST g w) : Ok (s_X6_count 0 p1 g w) (fun _ => Ok (s_X7_count 0 p1 g w) (fun _ => True)) :=
  ok_imp (a_X6_count (st_gd0 h)) (fun _ _ => ok_imp (a_X7_count (st_gd0 h)) (fun _ _ => trivial))
theorem pr_price (h : ST g w) : Ok (s_X6_price 0 p1 g w) (fun _ => Ok (s_X7_price 0 p1 g w) (fun _ => True)) :=
  ok_imp (a_X6_price (st_gd0 h)) (fun _ _ => ok_imp (a_X7_price (st_gd0 h)) (fun _ _ => trivial))
theorem pr_pool (h : ST g w) : Ok (s_X6_pool 0 p1 p2 g w) (fun _ => Ok (s_X7_pool 0 p1 p2 g w) (fun _ => True)) :=
  ok_imp (a_X6_pool (st_gd0 h)) (fun _ _ => ok_imp (a_X7_pool (st_gd0 h)) (fun _ _ => trivial))
theorem pr_may (h : ST g w) : Ok (s_X6_may 0 p1 p2 p3 g w) (fun _ => Ok (s_X7_may 0 p1 p2 p3 g w) (fun _ => True)) :=
  ok_imp (a_X6_may (st_gd0 h)) (fun _ _ => ok_imp (a_X7_may (st_gd0 h)) (fun _ _ => trivial))
theorem pr_berth (h : ST g w) : Ok (s_X6_berth 0 p1 p2 p3 g w) (fun q => Ok (s_X7_berth 0 p1 p2 p3 q.2.1 q.2.2) (fun r => ST r.2.1 r.2.2)) :=
  ok_imp (a_X6_berth (st_gd0 h)) (fun _ hq => ok_imp (a_X7_berth hq) (fun _ hr => st_gd h hr))
theorem pr_lay (h : ST g w) : Ok (s_X6_lay 0 p1 p2 p3 g w) (fun q => Ok (s_X7_lay 0 p1 p2 p3 q.2.1 q.2.2) (fun r => ST r.2.1 r.2.2)) :=
  ok_imp (a_X6_lay (st_gd0 h)) (fun _ hq => ok_imp (a_X7_lay hq) (fun _ hr => st_gd h hr))
theorem pr_bunker (h : ST g w) : Ok (s_X6_bunker 0 p1 p2 g w) (fun q => Ok (s_X7_bunker 0 p1 p2 q.2.1 q.2.2) (fun r => ST r.2.1 r.2.2)) :=
  ok_imp (a_X6_bunker (st_gd0 h)) (fun _ hq => ok_imp (a_X7_bunker hq) (fun _ hr => st_gd h hr))
theorem pr_off (h : ST g w) : Ok (s_X6_off 0 p1 g w) (fun q => Ok (s_X7_off 0 p1 q.2.1 q.2.2) (fun r => ST r.2.1 r.2.2)) :=
  ok_imp (a_X6_off (st_gd0 h)) (fun _ hq => ok_imp (a_X7_off hq) (fun _ hr => st_gd h hr))
theorem pr_best (h : ST g w) : Ok (s_X6_best 0 p1 p2 g w) (fun q => Ok (s_X7_best 0 p1 p2 q.2.1 q.2.2) (fun r => ST r.2.1 r.2.2)) :=
  ok_imp (a_X6_best (st_gd0 h)) (fun _ hq => ok_imp (a_X7_best hq) (fun _ hr => st_gd h hr))
theorem pr_order (h : ST g w) : Ok (s_X6_order 0 p1 p2 g w) (fun q => Ok (s_X7_order 0 p1 p2 q.2.1 q.2.2) (fun r => ST r.2.1 r.2.2)) :=
  ok_imp (a_X6_order (st_gd0 h)) (fun _ hq => ok_imp (a_X7_order hq) (fun _ hr => st_gd h hr))
theorem pr_layOrder (h : ST g w) : Ok (s_X6_layOrder 0 p1 g w) (fun q => Ok (s_X7_layOrder 0 p1 q.2.1 q.2.2) (fun r => ST r.2.1 r.2.2)) :=
  ok_imp (a_X6_layOrder (st_gd0 h)) (fun _ hq => ok_imp (a_X7_layOrder hq) (fun _ hr => st_gd h hr))
theorem pr_mended (h : ST g w) : Ok (s_X6_mended 0 p1 p2 g w) (fun q => Ok (s_X7_mended 0 p1 p2 q.2.1 q.2.2) (fun r => ST r.2.1 r.2.2)) :=
  ok_imp (a_X6_mended (st_gd0 h)) (fun _ hq => ok_imp (a_X7_mended hq) (fun _ hr => st_gd h hr))
theorem pr_layMended (h : ST g w) : Ok (s_X6_layMended 0 p1 g w) (fun q => Ok (s_X7_layMended 0 p1 q.2.1 q.2.2) (fun r => ST r.2.1 r.2.2)) :=
  ok_imp (a_X6_layMended (st_gd0 h)) (fun _ hq => ok_imp (a_X7_layMended hq) (fun _ hr => st_gd h hr))
theorem pr_breaks (h : ST g w) : Ok (s_X6_breaks 0 p1 p2 g w) (fun q => Ok (s_X7_breaks 0 p1 p2 q.2.1 q.2.2) (fun r => ST r.2.1 r.2.2)) :=
  ok_imp (a_X6_breaks (st_gd0 h)) (fun _ hq => ok_imp (a_X7_breaks hq) (fun _ hr => st_gd h hr))
theorem pr_mend (h : ST g w) : Ok (s_X6_mend 0 p1 g w) (fun q => Ok (s_X7_mend 0 p1 q.2.1 q.2.2) (fun r => ST r.2.1 r.2.2)) :=
  ok_imp (a_X6_mend (st_gd0 h)) (fun _ hq => ok_imp (a_X7_mend hq) (fun _ hr => st_gd h hr))
theorem pr_storm (h : ST g w) : Ok (s_X6_storm 0 p1 p2 g w) (fun q => Ok (s_X7_storm 0 p1 p2 q.2.1 q.2.2) (fun r => ST r.2.1 r.2.2)) :=
  ok_imp (a_X6_storm (st_gd0 h)) (fun _ hq => ok_imp (a_X7_storm hq) (fun _ hr => st_gd h hr))
theorem pr_calm (h : ST g w) : Ok (s_X7_calm 0 (s_X6_calm 0 g w).2.1 (s_X6_calm 0 g w).2.2) (fun r => ST r.2.1 r.2.2) :=
  ok_imp (a_X7_calm (a_X6_calm (st_gd0 h))) (fun _ hr => st_gd h hr)
end
