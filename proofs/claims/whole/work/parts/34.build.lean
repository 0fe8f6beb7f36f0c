set_option maxRecDepth 20000 in
theorem ggX7_common_X7_common : GoodIn wsX7_common wsX7_common := goodIn_ca (goodIn_r _ [0, 1, 2, 3] (by decide +kernel) (by decide +kernel)) (goodIn_sub (fun _ h => List.mem_cons_of_mem _ (List.mem_append_right _ h)) (by decide +kernel))
set_option maxRecDepth 20000 in
theorem gX7_common_X7_common : GoodIn wsX7_common (va_wsS RX7 159 yX7_common wsX7_common) := goodIn_app (goodIn_of _ (by decide +kernel)) ggX7_common_X7_common
theorem dX7_common_0 : decode cX7_common 0 = .ok (.iload_n 1, 1) := by decide +kernel
theorem dX7_common_1 : decode cX7_common 1 = .ok (.ifCond .ne 7, 3) := by decide +kernel
theorem dX7_common_4 : decode cX7_common 4 = .ok (.iload_n 0, 1) := by decide +kernel
theorem dX7_common_5 : decode cX7_common 5 = .ok (.goto 10, 3) := by decide +kernel
theorem dX7_common_8 : decode cX7_common 8 = .ok (.iload_n 1, 1) := by decide +kernel
theorem dX7_common_9 : decode cX7_common 9 = .ok (.iload_n 0, 1) := by decide +kernel
theorem dX7_common_10 : decode cX7_common 10 = .ok (.iload_n 1, 1) := by decide +kernel
theorem dX7_common_11 : decode cX7_common 11 = .ok (.irem, 1) := by decide +kernel
theorem dX7_common_12 : decode cX7_common 12 = .ok (.invokestatic 159, 3) := by decide +kernel
theorem dX7_common_15 : decode cX7_common 15 = .ok (.ireturn, 1) := by decide +kernel
abbrev p_X7_common (g : kG) (x y : Nat) : Int32 → va_W → Prop := fun r w1 => r = nI (Nat.gcd x y) ∧ w1 = []
set_option maxHeartbeats 4000000 in
set_option maxRecDepth 100000 in
theorem k_common_s (l : Launch) (g : kG) (d x y : Nat) (hx2 : x ≤ 20000) (hy2 : y ≤ 20000) (ih : 0 < y → KI l yX7_common wsX7_common (rmG d) g [.int (nI y), .int (nI (x % y))] [] (p_X7_common g y (x % y))) : KI l yX7_common wsX7_common (rmG (d + 1)) g [.int (nI x), .int (nI y)] [] (p_X7_common g x y) := by
  refine kbodyI (cc := cX7_common) (n := 2) (k := 0) (own := RX7) (plainFor_of_name (by decide)) rfl rfl rfl rfl ?_
  intro p e s m below meth cd A ls hcx
  obtain ⟨hx, hb, hRt, hml, hts, hown, hlk, hA, hP, hK, hD, hE, hS, hl⟩ := hcx
  have hl : lv_has ls 2 [(0, .int (nI x)), (1, .int (nI y))] := hl
  refine lv_iload_n hx hb dX7_common_0 rfl (lv_at hl 1 rfl) ?_
  refine lv_if_ne (tgt := 8) hx hb dX7_common_1 (by decide) (fun c_1 => ?_) (fun c_1 => ?_)
  · have hy0 : 0 < y := Nat.pos_of_ne_zero (fun z => c_1 (by rw [z]; rfl))
    refine lv_iload_n hx hb dX7_common_8 rfl (lv_at hl 1 rfl) ?_
    refine lv_iload_n hx hb dX7_common_9 rfl (lv_at hl 0 rfl) ?_
    refine lv_iload_n hx hb dX7_common_10 rfl (lv_at hl 1 rfl) ?_
    refine lv_irem hx hb dX7_common_11 c_1 ?_
    rw [show nI x - nI x / nI y * nI y = nI (x % y) from pk_rem (by omega) hy0 (by omega)]
    refine kcalli (wc := []) [] (va_runS (As := [.int (nI y), .int (nI (x % y))]) (rest := []) ⟨hx, hb, hml, hown, hts⟩ (ih hy0 _) (va_cwS 2 hts gX7_common_X7_common rfl rfl rfl (by decide +kernel) ⟨by simp [rmG], by simp [rmG]; omega⟩) (kpreS (wc := []) hK hP hD hS hA hE [] rfl rfl) rfl rfl hl.1 rfl (lv_room (Nat.le_of_ble_eq_true rfl)) dX7_common_12 ⟨Nat.zero_le _, Nat.zero_le _⟩) hP hD hS hA rfl (fun r_1 w_1 H locs hp hP hD hS => ?_)
    obtain ⟨rfl, rfl⟩ := hp
    have hP : va_P g.1 vwCl [] H := hP
    have hD : va_D A [] := hD
    exact kreti hx hb hRt hlk hK hP hD hS rfl dX7_common_15 ⟨by rw [Nat.gcd_comm x y, Nat.gcd_rec y x, Nat.gcd_comm], rfl⟩
  · have hy0 : y = 0 := Decidable.byContradiction (fun z => nI_ne0 (Nat.pos_of_ne_zero z) (by omega) c_1)
    refine lv_iload_n hx hb dX7_common_4 rfl (lv_at hl 0 rfl) ?_
    refine lv_goto (tgt := 15) hx hb dX7_common_5 (by decide) ?_
    exact kreti hx hb hRt hlk hK hP hD hS rfl dX7_common_15 ⟨by rw [hy0, Nat.gcd_zero_right], rfl⟩
theorem k_common_d (l : Launch) (g : kG) : ∀ (d k x y : Nat), d + k = 65 → kev k x y → 0 < x → KI l yX7_common wsX7_common (rmG d) g [.int (nI x), .int (nI y)] [] (p_X7_common g x y)
  | 0, k, x, y, hk, hv, hx => by
    exfalso
    rcases hv with ⟨m, h1, h2, -⟩ | ⟨m, h1, h2, -⟩
    · omega
    · have hm : m = 32 := by omega
      subst hm
      omega
  | d + 1, k, x, y, hk, hv, hx => by
    have hle := kev_le hv
    exact k_common_s l g d x y (by omega) (by omega) (fun hy => k_common_d l g d (k + 1) y (x % y) (by omega) (kev_s hv hy) hy)
theorem c_X7_common (l : Launch) (g : kG) (x y : Nat) (hxy : x ≤ 10000 ∧ 1 ≤ y ∧ y ≤ 10000) : KI l yX7_common wsX7_common (rmG 66) g [.int (nI x), .int (nI y)] [] (p_X7_common g x y) :=
  k_common_s l g 65 x y (by omega) (by omega) (fun hy => k_common_d l g 65 0 y (x % y) (by omega) (kev_0 (Nat.le_of_lt (Nat.mod_lt _ hy)) (by omega)) hy)
theorem SG_stepm {κ : Nat → Int} {n fi m : Nat} {β : Int} {u1 u2 u3 u4 u5 : Nat → Int32} {G : List kS5} {a b : Int} (h : kasc κ n) (hn : n ≤ 160) (hβ : 0 ≤ β ∧ β ≤ 8) (hf : fi < n) (hg : SG m u1 u2 u3 u4 u5 ++ (sg κ n β (n - fi) fi).map (sgc κ) = G) (hw : gw0 κ n fi β = ((gw0 κ n fi β).1, a, b)) :
    SG (m + 1) (upd u1 m (nI fi)) (upd u2 m (nI (gw0 κ n fi β).1)) (upd u3 m (kI (κ fi))) (upd u4 m (nI (a.toNat / Nat.gcd a.toNat b.toNat))) (upd u5 m (nI (b.toNat / Nat.gcd a.toNat b.toNat))) ++ (sg κ n β (n - ((gw0 κ n fi β).1 + 1)) ((gw0 κ n fi β).1 + 1)).map (sgc κ) = G := by
  have h9 := SG_step h hn hβ hf hg
  have e1 : (gw0 κ n fi β).2.1 = a := by rw [hw]
  have e2 : (gw0 κ n fi β).2.2 = b := by rw [hw]
  rw [e1, e2, Nat.gcd_comm b.toNat a.toNat] at h9
  exact h9

set_option maxRecDepth 20000 in
theorem ggX7_build_X7_longestRun : GoodIn wsX7_build wsX7_longestRun := goodIn_ca (goodIn_r _ [12, 2, 13, 14, 15, 11, 16, 3, 4, 17, 18, 19, 20, 21, 22, 23, 27, 28, 29, 30, 31, 32, 33, 34, 35, 36, 37, 38, 39, 40, 41, 42, 43, 44, 45, 46, 47, 48, 49, 50, 51, 52, 53, 54, 55, 56, 57, 58, 59, 60, 61, 62, 63, 64, 65, 66] (by decide +kernel) (by decide +kernel)) (goodIn_sub (fun _ h => List.mem_cons_of_mem _ (List.mem_append_left _ (List.mem_append_right _ h))) (by decide +kernel))
set_option maxRecDepth 20000 in
theorem gX7_build_X7_longestRun : GoodIn wsX7_build (wsV RX7 166 RX7 yX7_longestRun wsX7_longestRun) := goodIn_app (goodIn_of _ (by decide +kernel)) ggX7_build_X7_longestRun
set_option maxRecDepth 20000 in
theorem ggX7_build_X7_startRun : GoodIn wsX7_build wsX7_startRun := goodIn_r _ [16, 3, 4, 17, 18, 27, 28, 29, 30, 31, 32, 33, 34, 35, 36, 37, 38, 39, 40, 41, 42, 43, 44, 45, 46, 47, 48, 49, 50, 51, 52, 53, 54, 55, 56, 57, 58, 59, 60, 61, 62, 63, 64, 65, 66] (by decide +kernel) (by decide +kernel)
set_option maxRecDepth 20000 in
theorem gX7_build_X7_startRun : GoodIn wsX7_build (wsV RX7 153 RX7 yX7_startRun wsX7_startRun) := goodIn_app (goodIn_of _ (by decide +kernel)) ggX7_build_X7_startRun
set_option maxRecDepth 20000 in
theorem ggX7_build_X7_narrows : GoodIn wsX7_build wsX7_narrows := goodIn_ca (goodIn_r _ [22, 23, 4, 3, 18, 17, 27, 28, 29, 30, 31, 32, 33, 34, 35, 36, 37, 38, 39, 40, 41, 42, 43, 44, 45, 46, 47, 48, 49, 50, 51, 52, 53, 54, 55, 56, 57, 58, 59, 60, 61, 62, 63, 64, 65, 66] (by decide +kernel) (by decide +kernel)) (goodIn_sub (fun _ h => List.mem_cons_of_mem _ (List.mem_append_left _ (List.mem_append_right _ h))) (by decide +kernel))
set_option maxRecDepth 20000 in
theorem gX7_build_X7_narrows : GoodIn wsX7_build (wsV RX7 156 RX7 yX7_narrows wsX7_narrows) := goodIn_app (goodIn_of _ (by decide +kernel)) ggX7_build_X7_narrows
set_option maxRecDepth 20000 in
theorem ggX7_build_X7_common : GoodIn wsX7_build wsX7_common := goodIn_ca (goodIn_r _ [26, 24, 25, 11] (by decide +kernel) (by decide +kernel)) (goodIn_sub (fun _ h => List.mem_cons_of_mem _ (List.mem_append_right _ h)) (by decide +kernel))
set_option maxRecDepth 20000 in
theorem gX7_build_X7_common : GoodIn wsX7_build (va_wsS RX7 159 yX7_common wsX7_common) := goodIn_app (goodIn_of _ (by decide +kernel)) ggX7_build_X7_common
theorem dX7_build_0 : decode cX7_build 0 = .ok (.aload_n 0, 1) := by decide +kernel
theorem dX7_build_1 : decode cX7_build 1 = .ok (.iconst 0, 1) := by decide +kernel
theorem dX7_build_2 : decode cX7_build 2 = .ok (.putfield 163, 3) := by decide +kernel
theorem dX7_build_5 : decode cX7_build 5 = .ok (.iconst 0, 1) := by decide +kernel
theorem dX7_build_6 : decode cX7_build 6 = .ok (.istore_n 2, 1) := by decide +kernel
theorem dX7_build_7 : decode cX7_build 7 = .ok (.iload_n 2, 1) := by decide +kernel
theorem dX7_build_8 : decode cX7_build 8 = .ok (.aload_n 0, 1) := by decide +kernel
theorem dX7_build_9 : decode cX7_build 9 = .ok (.getfield 79, 3) := by decide +kernel
theorem dX7_build_12 : decode cX7_build 12 = .ok (.if_icmp .ge 116, 3) := by decide +kernel
theorem dX7_build_15 : decode cX7_build 15 = .ok (.aload_n 0, 1) := by decide +kernel
theorem dX7_build_16 : decode cX7_build 16 = .ok (.iload_n 2, 1) := by decide +kernel
theorem dX7_build_17 : decode cX7_build 17 = .ok (.iload_n 1, 1) := by decide +kernel
theorem dX7_build_18 : decode cX7_build 18 = .ok (.invokevirtual 166, 3) := by decide +kernel
theorem dX7_build_21 : decode cX7_build 21 = .ok (.istore_n 3, 1) := by decide +kernel
theorem dX7_build_22 : decode cX7_build 22 = .ok (.aload_n 0, 1) := by decide +kernel
theorem dX7_build_23 : decode cX7_build 23 = .ok (.invokevirtual 153, 3) := by decide +kernel
theorem dX7_build_26 : decode cX7_build 26 = .ok (.iload_n 2, 1) := by decide +kernel
theorem dX7_build_27 : decode cX7_build 27 = .ok (.iconst 1, 1) := by decide +kernel
theorem dX7_build_28 : decode cX7_build 28 = .ok (.iadd, 1) := by decide +kernel
theorem dX7_build_29 : decode cX7_build 29 = .ok (.istore 4, 2) := by decide +kernel
theorem dX7_build_31 : decode cX7_build 31 = .ok (.iload 4, 2) := by decide +kernel
theorem dX7_build_33 : decode cX7_build 33 = .ok (.iload_n 3, 1) := by decide +kernel
theorem dX7_build_34 : decode cX7_build 34 = .ok (.if_icmp .gt 18, 3) := by decide +kernel
theorem dX7_build_37 : decode cX7_build 37 = .ok (.aload_n 0, 1) := by decide +kernel
theorem dX7_build_38 : decode cX7_build 38 = .ok (.iload_n 2, 1) := by decide +kernel
theorem dX7_build_39 : decode cX7_build 39 = .ok (.iload 4, 2) := by decide +kernel
theorem dX7_build_41 : decode cX7_build 41 = .ok (.iload_n 1, 1) := by decide +kernel
theorem dX7_build_42 : decode cX7_build 42 = .ok (.invokevirtual 156, 3) := by decide +kernel
theorem dX7_build_45 : decode cX7_build 45 = .ok (.pop, 1) := by decide +kernel
theorem dX7_build_46 : decode cX7_build 46 = .ok (.iinc 4 1, 3) := by decide +kernel
theorem dX7_build_49 : decode cX7_build 49 = .ok (.goto (-18), 3) := by decide +kernel
theorem dX7_build_52 : decode cX7_build 52 = .ok (.aload_n 0, 1) := by decide +kernel
theorem dX7_build_53 : decode cX7_build 53 = .ok (.getfield 144, 3) := by decide +kernel
theorem dX7_build_56 : decode cX7_build 56 = .ok (.l2i, 1) := by decide +kernel
theorem dX7_build_57 : decode cX7_build 57 = .ok (.aload_n 0, 1) := by decide +kernel
theorem dX7_build_58 : decode cX7_build 58 = .ok (.getfield 140, 3) := by decide +kernel
theorem dX7_build_61 : decode cX7_build 61 = .ok (.l2i, 1) := by decide +kernel
theorem dX7_build_62 : decode cX7_build 62 = .ok (.invokestatic 159, 3) := by decide +kernel
theorem dX7_build_65 : decode cX7_build 65 = .ok (.istore 4, 2) := by decide +kernel
theorem dX7_build_67 : decode cX7_build 67 = .ok (.aload_n 0, 1) := by decide +kernel
theorem dX7_build_68 : decode cX7_build 68 = .ok (.getfield 31, 3) := by decide +kernel
theorem dX7_build_71 : decode cX7_build 71 = .ok (.aload_n 0, 1) := by decide +kernel
theorem dX7_build_72 : decode cX7_build 72 = .ok (.getfield 163, 3) := by decide +kernel
theorem dX7_build_75 : decode cX7_build 75 = .ok (.iload_n 2, 1) := by decide +kernel
theorem dX7_build_76 : decode cX7_build 76 = .ok (.iastore, 1) := by decide +kernel
theorem dX7_build_77 : decode cX7_build 77 = .ok (.aload_n 0, 1) := by decide +kernel
theorem dX7_build_78 : decode cX7_build 78 = .ok (.getfield 34, 3) := by decide +kernel
theorem dX7_build_81 : decode cX7_build 81 = .ok (.aload_n 0, 1) := by decide +kernel
theorem dX7_build_82 : decode cX7_build 82 = .ok (.getfield 163, 3) := by decide +kernel
theorem dX7_build_85 : decode cX7_build 85 = .ok (.aload_n 0, 1) := by decide +kernel
theorem dX7_build_86 : decode cX7_build 86 = .ok (.getfield 144, 3) := by decide +kernel
theorem dX7_build_89 : decode cX7_build 89 = .ok (.l2i, 1) := by decide +kernel
theorem dX7_build_90 : decode cX7_build 90 = .ok (.iload 4, 2) := by decide +kernel
theorem dX7_build_92 : decode cX7_build 92 = .ok (.idiv, 1) := by decide +kernel
theorem dX7_build_93 : decode cX7_build 93 = .ok (.iastore, 1) := by decide +kernel
theorem dX7_build_94 : decode cX7_build 94 = .ok (.aload_n 0, 1) := by decide +kernel
theorem dX7_build_95 : decode cX7_build 95 = .ok (.getfield 37, 3) := by decide +kernel
theorem dX7_build_98 : decode cX7_build 98 = .ok (.aload_n 0, 1) := by decide +kernel
theorem dX7_build_99 : decode cX7_build 99 = .ok (.getfield 163, 3) := by decide +kernel
theorem dX7_build_102 : decode cX7_build 102 = .ok (.aload_n 0, 1) := by decide +kernel
theorem dX7_build_103 : decode cX7_build 103 = .ok (.getfield 140, 3) := by decide +kernel
theorem dX7_build_106 : decode cX7_build 106 = .ok (.l2i, 1) := by decide +kernel
theorem dX7_build_107 : decode cX7_build 107 = .ok (.iload 4, 2) := by decide +kernel
theorem dX7_build_109 : decode cX7_build 109 = .ok (.idiv, 1) := by decide +kernel
theorem dX7_build_110 : decode cX7_build 110 = .ok (.iastore, 1) := by decide +kernel
theorem dX7_build_111 : decode cX7_build 111 = .ok (.aload_n 0, 1) := by decide +kernel
theorem dX7_build_112 : decode cX7_build 112 = .ok (.dup, 1) := by decide +kernel
theorem dX7_build_113 : decode cX7_build 113 = .ok (.getfield 163, 3) := by decide +kernel
theorem dX7_build_116 : decode cX7_build 116 = .ok (.iconst 1, 1) := by decide +kernel
theorem dX7_build_117 : decode cX7_build 117 = .ok (.iadd, 1) := by decide +kernel
theorem dX7_build_118 : decode cX7_build 118 = .ok (.putfield 163, 3) := by decide +kernel
theorem dX7_build_121 : decode cX7_build 121 = .ok (.iload_n 3, 1) := by decide +kernel
theorem dX7_build_122 : decode cX7_build 122 = .ok (.iconst 1, 1) := by decide +kernel
theorem dX7_build_123 : decode cX7_build 123 = .ok (.iadd, 1) := by decide +kernel
theorem dX7_build_124 : decode cX7_build 124 = .ok (.istore_n 2, 1) := by decide +kernel
theorem dX7_build_125 : decode cX7_build 125 = .ok (.goto (-118), 3) := by decide +kernel
theorem dX7_build_128 : decode cX7_build 128 = .ok (.return_, 1) := by decide +kernel
def rm_X7_build : Room := { frames := 67, cells := 0, slots := 0, locals := 1407 }
abbrev p_X7_build (g : kG) (h : Nat) (zth : Int32) (zch : Int32) (zsg : Int32) (zl1 : Int64) (zl2 : Int64) (zl3 : Int64) (zl4 : Int64) (zpb : Int32) (zln : Int32) (zat : Int32) (zrk : Int32) (zrv : Int32) (zre : Int32) (zwr : Int32) (zrm : Int32) (zrs : Int32) (zis : Int32) (zss : Int32) (zsc : Int32) (ak : Nat) (av : Nat) (bk : Nat) (bv : Nat) (br : Nat) (a_s : Nat) (a_t : Nat) (g1 : Nat) (g2 : Nat) (g3 : Nat) (pa : Nat) (ru : Nat) (tx : Nat) (dk : Nat) (dv : Nat) (ek : Nat) (ev : Nat) (er : Nat) (es : Nat) (et : Nat) (nA : Nat) (fk : Nat → Int32) (y1 : Nat → Int32) (y2 : Nat → Int32) (y3 : Nat → Int32) (β : Int) (κ : Nat → Int) : va_W → Prop := fun w1 => ∃ (m2 : Nat), ∃ (x1 : Nat → Int32), ∃ (x2 : Nat → Int32), ∃ (x3 : Nat → Int32), ∃ (v2 : Nat → Int32), ∃ (v3 : Nat → Int32), ∃ (l1x : Int64), ∃ (l2x : Int64), ∃ (l3x : Int64), ∃ (l4x : Int64), (SG m2 x1 v2 v3 x2 x3 = (sgs κ nA β).map (sgc κ)) ∧ w1 = [(h, .inr (9, [.int zth, .int (nI nA), .int zch, .ref ak, .ref av, .ref bk, .ref bv, .ref br, .ref a_s, .ref a_t, .int (nI m2), .ref g1, .ref g2, .ref g3, .long l1x, .long l2x, .long l3x, .long l4x, .int zpb, .ref pa, .ref ru, .ref tx, .int zln, .int zat, .int zrk, .int zrv, .int zre, .int zwr, .int zrm, .int zrs, .int zis, .int zss, .int zsc, .ref dk, .ref dv, .ref ek, .ref ev, .ref er, .ref es, .ref et])), (ak, .inl (g.2.1.1, 152, .inl fk)), (g1, .inl (g.2.1.1, 152, .inl x1)), (g2, .inl (g.2.1.1, 152, .inl x2)), (g3, .inl (g.2.1.1, 152, .inl x3))]
set_option maxHeartbeats 4000000 in
set_option maxRecDepth 100000 in
theorem c_X7_build (l : Launch) (g : kG) (h : Nat) (zth : Int32) (zch : Int32) (zsg : Int32) (zl1 : Int64) (zl2 : Int64) (zl3 : Int64) (zl4 : Int64) (zpb : Int32) (zln : Int32) (zat : Int32) (zrk : Int32) (zrv : Int32) (zre : Int32) (zwr : Int32) (zrm : Int32) (zrs : Int32) (zis : Int32) (zss : Int32) (zsc : Int32) (ak : Nat) (av : Nat) (bk : Nat) (bv : Nat) (br : Nat) (a_s : Nat) (a_t : Nat) (g1 : Nat) (g2 : Nat) (g3 : Nat) (pa : Nat) (ru : Nat) (tx : Nat) (dk : Nat) (dv : Nat) (ek : Nat) (ev : Nat) (er : Nat) (es : Nat) (et : Nat) (nA : Nat) (fk : Nat → Int32) (y1 : Nat → Int32) (y2 : Nat → Int32) (y3 : Nat → Int32) (β : Int) (κ : Nat → Int) (hκ : ∀ j, j < nA → fk j = kI (κ j)) (hasc : kasc κ nA) (hn : nA ≤ 150) (hβ : 0 ≤ β ∧ β ≤ 8) : KV l yX7_build wsX7_build rm_X7_build g [.ref h, .int (kI β)] [(h, .inr (9, [.int zth, .int (nI nA), .int zch, .ref ak, .ref av, .ref bk, .ref bv, .ref br, .ref a_s, .ref a_t, .int zsg, .ref g1, .ref g2, .ref g3, .long zl1, .long zl2, .long zl3, .long zl4, .int zpb, .ref pa, .ref ru, .ref tx, .int zln, .int zat, .int zrk, .int zrv, .int zre, .int zwr, .int zrm, .int zrs, .int zis, .int zss, .int zsc, .ref dk, .ref dv, .ref ek, .ref ev, .ref er, .ref es, .ref et])), (ak, .inl (g.2.1.1, 152, .inl fk)), (g1, .inl (g.2.1.1, 152, .inl y1)), (g2, .inl (g.2.1.1, 152, .inl y2)), (g3, .inl (g.2.1.1, 152, .inl y3))] (p_X7_build g h zth zch zsg zl1 zl2 zl3 zl4 zpb zln zat zrk zrv zre zwr zrm zrs zis zss zsc ak av bk bv br a_s a_t g1 g2 g3 pa ru tx dk dv ek ev er es et nA fk y1 y2 y3 β κ) := by
  refine kbodyV (cc := cX7_build) (n := 5) (k := 5) (own := RX7) (plainFor_of_name (by decide)) rfl rfl rfl rfl ?_
  intro p e s m below meth cd A ls hcx
  obtain ⟨hx, hb, hRt, hml, hts, hown, hlk, hA, hP, hK, hD, hE, hS, hl⟩ := hcx
  have hl : lv_has ls 5 [(0, .ref h), (1, .int (kI β))] := hl
  have hn160 : nA ≤ 160 := by omega
  refine lv_aload_n hx hb dX7_build_0 rfl (lv_at hl 0 rfl) ?_
  refine lv_iconst (v := 0) hx hb dX7_build_1 (by decide) ?_
  refine va_put (D := g.1) (ci := 9) (v := .int 0) (ty := .int) (C := RX7) (T := TX7) (N := 40) hx hb hts (by decide +kernel) tyX7 tyX7_ok nmX7 hown hK hP hD hS 0 rfl rfl 10 (by decide) (hts (.fieldLink RX7 163 "LearnedIndexModel" "segments" "I") (by decide +kernel)) (fun _ h9 => h9) rfl (by decide +kernel) rfl rfl (Nat.le_of_ble_eq_true rfl) dX7_build_2 (fun H locs hP hD hS => ?_)
  have hP : va_P g.1 vwCl [(h, .inr (9, [.int zth, .int (nI nA), .int zch, .ref ak, .ref av, .ref bk, .ref bv, .ref br, .ref a_s, .ref a_t, .int 0, .ref g1, .ref g2, .ref g3, .long zl1, .long zl2, .long zl3, .long zl4, .int zpb, .ref pa, .ref ru, .ref tx, .int zln, .int zat, .int zrk, .int zrv, .int zre, .int zwr, .int zrm, .int zrs, .int zis, .int zss, .int zsc, .ref dk, .ref dv, .ref ek, .ref ev, .ref er, .ref es, .ref et])), (ak, .inl (g.2.1.1, 152, .inl fk)), (g1, .inl (g.2.1.1, 152, .inl y1)), (g2, .inl (g.2.1.1, 152, .inl y2)), (g3, .inl (g.2.1.1, 152, .inl y3))] H := hP
  have hD : va_D A [(h, .inr (9, [.int zth, .int (nI nA), .int zch, .ref ak, .ref av, .ref bk, .ref bv, .ref br, .ref a_s, .ref a_t, .int 0, .ref g1, .ref g2, .ref g3, .long zl1, .long zl2, .long zl3, .long zl4, .int zpb, .ref pa, .ref ru, .ref tx, .int zln, .int zat, .int zrk, .int zrv, .int zre, .int zwr, .int zrm, .int zrs, .int zis, .int zss, .int zsc, .ref dk, .ref dv, .ref ek, .ref ev, .ref er, .ref es, .ref et])), (ak, .inl (g.2.1.1, 152, .inl fk)), (g1, .inl (g.2.1.1, 152, .inl y1)), (g2, .inl (g.2.1.1, 152, .inl y2)), (g3, .inl (g.2.1.1, 152, .inl y3))] := hD
  refine lv_iconst (v := 0) hx hb dX7_build_5 (by decide) ?_
  refine lv_istore_n (lv' := [(2, .int 0), (0, .ref h), (1, .int (kI β))]) hx hb dX7_build_6 rfl hl (by decide) rfl (fun ls hl => ?_)
  have L7 : ∀ (n9 : Nat) (fi : Nat) (mm : Nat) (z1 : Nat → Int32) (z2 : Nat → Int32) (z3 : Nat → Int32) (v2 : Nat → Int32) (v3 : Nat → Int32) (d1x : Int64) (d2x : Int64) (d3x : Int64) (d4x : Int64) (H : Heap) (locs : List Loc) (ls : Array Slot), (fi ≤ nA ∧ mm ≤ fi) → (SG mm z1 v2 v3 z2 z3 ++ (sg κ nA β (nA - fi) fi).map (sgc κ) = (sgs κ nA β).map (sgc κ)) → nA - fi < n9 → va_P g.1 vwCl [(h, .inr (9, [.int zth, .int (nI nA), .int zch, .ref ak, .ref av, .ref bk, .ref bv, .ref br, .ref a_s, .ref a_t, .int (nI mm), .ref g1, .ref g2, .ref g3, .long d1x, .long d2x, .long d3x, .long d4x, .int zpb, .ref pa, .ref ru, .ref tx, .int zln, .int zat, .int zrk, .int zrv, .int zre, .int zwr, .int zrm, .int zrs, .int zis, .int zss, .int zsc, .ref dk, .ref dv, .ref ek, .ref ev, .ref er, .ref es, .ref et])), (ak, .inl (g.2.1.1, 152, .inl fk)), (g1, .inl (g.2.1.1, 152, .inl z1)), (g2, .inl (g.2.1.1, 152, .inl z2)), (g3, .inl (g.2.1.1, 152, .inl z3))] H → va_D A [(h, .inr (9, [.int zth, .int (nI nA), .int zch, .ref ak, .ref av, .ref bk, .ref bv, .ref br, .ref a_s, .ref a_t, .int (nI mm), .ref g1, .ref g2, .ref g3, .long d1x, .long d2x, .long d3x, .long d4x, .int zpb, .ref pa, .ref ru, .ref tx, .int zln, .int zat, .int zrk, .int zrv, .int zre, .int zwr, .int zrm, .int zrs, .int zis, .int zss, .int zsc, .ref dk, .ref dv, .ref ek, .ref ev, .ref er, .ref es, .ref et])), (ak, .inl (g.2.1.1, 152, .inl fk)), (g1, .inl (g.2.1.1, 152, .inl z1)), (g2, .inl (g.2.1.1, 152, .inl z2)), (g3, .inl (g.2.1.1, 152, .inl z3))] → va_S A s.heap H locs → lv_has ls 5 [(2, .int (nI fi)), (0, .ref h), (1, .int (kI β))] → W p l e rm_X7_build s m ([.ref h, .int (kI β)] : List Value).toArray below meth cd H locs 0 0 (kQv g 5 A (p_X7_build g h zth zch zsg zl1 zl2 zl3 zl4 zpb zln zat zrk zrv zre zwr zrm zrs zis zss zsc ak av bk bv br a_s a_t g1 g2 g3 pa ru tx dk dv ek ev er es et nA fk y1 y2 y3 β κ) below ([.ref h, .int (kI β)] : List Value).toArray s) (F0 m 7 ls []) := by
    intro n9
    induction n9 with
    | zero => intro fi mm z1 z2 z3 v2 v3 d1x d2x d3x d4x H locs ls hfi hg h9; exact absurd h9 (Nat.not_lt_zero _)
    | succ n9 ih7 =>
      intro fi mm z1 z2 z3 v2 v3 d1x d2x d3x d4x H locs ls hfi hg hn7 hP hD hS hl
      refine lv_iload_n hx hb dX7_build_7 rfl (lv_at hl 0 rfl) ?_
      refine lv_aload_n hx hb dX7_build_8 rfl (lv_at hl 1 rfl) ?_
      refine va_get (D := g.1) (ci := 9) (v := .int (nI nA)) (C := RX7) (T := TX7) (N := 40) hx hb hts (by decide +kernel) hown hK hP 0 rfl rfl 1 (by decide) (hts (.fieldLink RX7 79 "LearnedIndexModel" "size" "I") (by decide +kernel)) (fun _ h9 => h9) rfl dX7_build_9 ?_
      refine lv_icmp_ge (tgt := 128) hx hb dX7_build_12 (by decide) (fun c_12 => ?_) (fun c_12 => ?_)
      · skip
        have hfn : nA ≤ fi := kg (by omega) (by omega) c_12
        exact kretv hx hb hRt hlk hK hP hD hS rfl dX7_build_128 (⟨mm, z1, z2, z3, v2, v3, _, _, _, _, by rw [← hg, show nA - fi = 0 by omega]; simp [sg], rfl⟩)
      · skip
        have hfn : fi < nA := kl (by omega) (by omega) c_12
        have hgb := (gw0_bd hasc hn160 hβ hfn).1
        refine lv_aload_n hx hb dX7_build_15 rfl (lv_at hl 1 rfl) ?_
        refine lv_iload_n hx hb dX7_build_16 rfl (lv_at hl 0 rfl) ?_
        refine lv_iload_n hx hb dX7_build_17 rfl (lv_at hl 2 rfl) ?_
        refine kcalli (wc := [(h, .inr (9, [.int zth, .int (nI nA), .int zch, .ref ak, .ref av, .ref bk, .ref bv, .ref br, .ref a_s, .ref a_t, .int (nI mm), .ref g1, .ref g2, .ref g3, .long d1x, .long d2x, .long d3x, .long d4x, .int zpb, .ref pa, .ref ru, .ref tx, .int zln, .int zat, .int zrk, .int zrv, .int zre, .int zwr, .int zrm, .int zrs, .int zis, .int zss, .int zsc, .ref dk, .ref dv, .ref ek, .ref ev, .ref er, .ref es, .ref et])), (ak, .inl (g.2.1.1, 152, .inl fk))]) [0, 1] (va_runV (C := RX7) (As := [.int (nI fi), .int (kI β)]) (rest := []) ⟨hx, hb, hml, hown, hts⟩ ((c_X7_longestRun l g h zth zch (nI mm) d1x d2x d3x d4x zpb zln zat zrk zrv zre zwr zrm zrs zis zss zsc ak av bk bv br a_s a_t g1 g2 g3 pa ru tx dk dv ek ev er es et nA fk β fi κ hκ hasc hn hβ hfn) _) (cwV 2 hts gX7_build_X7_longestRun rfl rfl rfl (by decide +kernel) ⟨Nat.le_of_ble_eq_true rfl, Nat.le_of_ble_eq_true rfl⟩) (kpreV (wc := [(h, .inr (9, [.int zth, .int (nI nA), .int zch, .ref ak, .ref av, .ref bk, .ref bv, .ref br, .ref a_s, .ref a_t, .int (nI mm), .ref g1, .ref g2, .ref g3, .long d1x, .long d2x, .long d3x, .long d4x, .int zpb, .ref pa, .ref ru, .ref tx, .int zln, .int zat, .int zrk, .int zrv, .int zre, .int zwr, .int zrm, .int zrs, .int zis, .int zss, .int zsc, .ref dk, .ref dv, .ref ek, .ref ev, .ref er, .ref es, .ref et])), (ak, .inl (g.2.1.1, 152, .inl fk))]) (ci := 9) hK hP hD hS hA hE [0, 1] rfl rfl rfl rfl) rfl rfl hl.1 rfl (lv_room (Nat.le_of_ble_eq_true rfl)) dX7_build_18 ⟨Nat.zero_le _, Nat.zero_le _⟩) hP hD hS hA rfl (fun r_1 w_1 H locs hp hP hD hS => ?_)
        obtain ⟨e1x, e2x, e3x, e4x, rfl, rfl⟩ := hp
        have hP : va_P g.1 vwCl [(h, .inr (9, [.int zth, .int (nI nA), .int zch, .ref ak, .ref av, .ref bk, .ref bv, .ref br, .ref a_s, .ref a_t, .int (nI mm), .ref g1, .ref g2, .ref g3, .long e1x, .long e2x, .long e3x, .long e4x, .int zpb, .ref pa, .ref ru, .ref tx, .int zln, .int zat, .int zrk, .int zrv, .int zre, .int zwr, .int zrm, .int zrs, .int zis, .int zss, .int zsc, .ref dk, .ref dv, .ref ek, .ref ev, .ref er, .ref es, .ref et])), (ak, .inl (g.2.1.1, 152, .inl fk)), (g1, .inl (g.2.1.1, 152, .inl z1)), (g2, .inl (g.2.1.1, 152, .inl z2)), (g3, .inl (g.2.1.1, 152, .inl z3))] H := hP
        have hD : va_D A [(h, .inr (9, [.int zth, .int (nI nA), .int zch, .ref ak, .ref av, .ref bk, .ref bv, .ref br, .ref a_s, .ref a_t, .int (nI mm), .ref g1, .ref g2, .ref g3, .long e1x, .long e2x, .long e3x, .long e4x, .int zpb, .ref pa, .ref ru, .ref tx, .int zln, .int zat, .int zrk, .int zrv, .int zre, .int zwr, .int zrm, .int zrs, .int zis, .int zss, .int zsc, .ref dk, .ref dv, .ref ek, .ref ev, .ref er, .ref es, .ref et])), (ak, .inl (g.2.1.1, 152, .inl fk)), (g1, .inl (g.2.1.1, 152, .inl z1)), (g2, .inl (g.2.1.1, 152, .inl z2)), (g3, .inl (g.2.1.1, 152, .inl z3))] := hD
        refine lv_istore_n (lv' := [(3, .int (nI (gw0 κ nA fi β).1)), (2, .int (nI fi)), (0, .ref h), (1, .int (kI β))]) hx hb dX7_build_21 rfl hl (by decide) rfl (fun ls hl => ?_)
        refine lv_aload_n hx hb dX7_build_22 rfl (lv_at hl 2 rfl) ?_
        refine kcallv (wc := [(h, .inr (9, [.int zth, .int (nI nA), .int zch, .ref ak, .ref av, .ref bk, .ref bv, .ref br, .ref a_s, .ref a_t, .int (nI mm), .ref g1, .ref g2, .ref g3, .long e1x, .long e2x, .long e3x, .long e4x, .int zpb, .ref pa, .ref ru, .ref tx, .int zln, .int zat, .int zrk, .int zrv, .int zre, .int zwr, .int zrm, .int zrs, .int zis, .int zss, .int zsc, .ref dk, .ref dv, .ref ek, .ref ev, .ref er, .ref es, .ref et]))]) [0] (va_runV (C := RX7) (As := []) (rest := []) ⟨hx, hb, hml, hown, hts⟩ ((c_X7_startRun l g h zth (nI nA) zch (nI mm) e1x e2x e3x e4x zpb zln zat zrk zrv zre zwr zrm zrs zis zss zsc ak av bk bv br a_s a_t g1 g2 g3 pa ru tx dk dv ek ev er es et) _) (cwV 0 hts gX7_build_X7_startRun rfl rfl rfl (by decide +kernel) ⟨Nat.le_of_ble_eq_true rfl, Nat.le_of_ble_eq_true rfl⟩) (kpreV (wc := [(h, .inr (9, [.int zth, .int (nI nA), .int zch, .ref ak, .ref av, .ref bk, .ref bv, .ref br, .ref a_s, .ref a_t, .int (nI mm), .ref g1, .ref g2, .ref g3, .long e1x, .long e2x, .long e3x, .long e4x, .int zpb, .ref pa, .ref ru, .ref tx, .int zln, .int zat, .int zrk, .int zrv, .int zre, .int zwr, .int zrm, .int zrs, .int zis, .int zss, .int zsc, .ref dk, .ref dv, .ref ek, .ref ev, .ref er, .ref es, .ref et]))]) (ci := 9) hK hP hD hS hA hE [0] rfl rfl rfl rfl) rfl rfl hl.1 rfl (lv_room (Nat.le_of_ble_eq_true rfl)) dX7_build_23 ⟨Nat.zero_le _, Nat.zero_le _⟩) hP hD hS hA rfl (fun w_2 H locs hp hP hD hS => ?_)
        obtain rfl := hp
        have hP : va_P g.1 vwCl [(h, .inr (9, [.int zth, .int (nI nA), .int zch, .ref ak, .ref av, .ref bk, .ref bv, .ref br, .ref a_s, .ref a_t, .int (nI mm), .ref g1, .ref g2, .ref g3, .long 0, .long 1, .long 1, .long 0, .int zpb, .ref pa, .ref ru, .ref tx, .int zln, .int zat, .int zrk, .int zrv, .int zre, .int zwr, .int zrm, .int zrs, .int zis, .int zss, .int zsc, .ref dk, .ref dv, .ref ek, .ref ev, .ref er, .ref es, .ref et])), (ak, .inl (g.2.1.1, 152, .inl fk)), (g1, .inl (g.2.1.1, 152, .inl z1)), (g2, .inl (g.2.1.1, 152, .inl z2)), (g3, .inl (g.2.1.1, 152, .inl z3))] H := hP
        have hD : va_D A [(h, .inr (9, [.int zth, .int (nI nA), .int zch, .ref ak, .ref av, .ref bk, .ref bv, .ref br, .ref a_s, .ref a_t, .int (nI mm), .ref g1, .ref g2, .ref g3, .long 0, .long 1, .long 1, .long 0, .int zpb, .ref pa, .ref ru, .ref tx, .int zln, .int zat, .int zrk, .int zrv, .int zre, .int zwr, .int zrm, .int zrs, .int zis, .int zss, .int zsc, .ref dk, .ref dv, .ref ek, .ref ev, .ref er, .ref es, .ref et])), (ak, .inl (g.2.1.1, 152, .inl fk)), (g1, .inl (g.2.1.1, 152, .inl z1)), (g2, .inl (g.2.1.1, 152, .inl z2)), (g3, .inl (g.2.1.1, 152, .inl z3))] := hD
        rw [show (0 : Int64) = kL 0 from rfl, show (1 : Int64) = kL 1 from rfl] at hP hD
        have hP : va_P g.1 vwCl [(h, .inr (9, [.int zth, .int (nI nA), .int zch, .ref ak, .ref av, .ref bk, .ref bv, .ref br, .ref a_s, .ref a_t, .int (nI mm), .ref g1, .ref g2, .ref g3, .long (kL 0), .long (kL 1), .long (kL 1), .long (kL 0), .int zpb, .ref pa, .ref ru, .ref tx, .int zln, .int zat, .int zrk, .int zrv, .int zre, .int zwr, .int zrm, .int zrs, .int zis, .int zss, .int zsc, .ref dk, .ref dv, .ref ek, .ref ev, .ref er, .ref es, .ref et])), (ak, .inl (g.2.1.1, 152, .inl fk)), (g1, .inl (g.2.1.1, 152, .inl z1)), (g2, .inl (g.2.1.1, 152, .inl z2)), (g3, .inl (g.2.1.1, 152, .inl z3))] H := hP
        have hD : va_D A [(h, .inr (9, [.int zth, .int (nI nA), .int zch, .ref ak, .ref av, .ref bk, .ref bv, .ref br, .ref a_s, .ref a_t, .int (nI mm), .ref g1, .ref g2, .ref g3, .long (kL 0), .long (kL 1), .long (kL 1), .long (kL 0), .int zpb, .ref pa, .ref ru, .ref tx, .int zln, .int zat, .int zrk, .int zrv, .int zre, .int zwr, .int zrm, .int zrs, .int zis, .int zss, .int zsc, .ref dk, .ref dv, .ref ek, .ref ev, .ref er, .ref es, .ref et])), (ak, .inl (g.2.1.1, 152, .inl fk)), (g1, .inl (g.2.1.1, 152, .inl z1)), (g2, .inl (g.2.1.1, 152, .inl z2)), (g3, .inl (g.2.1.1, 152, .inl z3))] := hD
        refine lv_iload_n hx hb dX7_build_26 rfl (lv_at hl 1 rfl) ?_
        refine lv_iconst (v := 1) hx hb dX7_build_27 (by decide) ?_
        refine lv_iadd hx hb dX7_build_28 ?_
        rw [show (nI fi) + 1 = nI (fi + 1) from nI_1 fi]
        refine lv_istore (lv' := [(4, .int (nI (fi + 1))), (3, .int (nI (gw0 κ nA fi β).1)), (2, .int (nI fi)), (0, .ref h), (1, .int (kI β))]) hx hb dX7_build_29 hl (by decide) rfl (fun ls hl => ?_)
        have L31 : ∀ (n9 : Nat) (q : Nat) (a : Int) (b : Int) (C : Int) (D : Int) (H : Heap) (locs : List Loc) (ls : Array Slot), (fi < q ∧ q ≤ (gw0 κ nA fi β).1 + 1) → (kRun κ nA fi β q a b C D) → (gw0 κ nA fi β).1 + 1 - q < n9 → va_P g.1 vwCl [(h, .inr (9, [.int zth, .int (nI nA), .int zch, .ref ak, .ref av, .ref bk, .ref bv, .ref br, .ref a_s, .ref a_t, .int (nI mm), .ref g1, .ref g2, .ref g3, .long (kL a), .long (kL b), .long (kL C), .long (kL D), .int zpb, .ref pa, .ref ru, .ref tx, .int zln, .int zat, .int zrk, .int zrv, .int zre, .int zwr, .int zrm, .int zrs, .int zis, .int zss, .int zsc, .ref dk, .ref dv, .ref ek, .ref ev, .ref er, .ref es, .ref et])), (ak, .inl (g.2.1.1, 152, .inl fk)), (g1, .inl (g.2.1.1, 152, .inl z1)), (g2, .inl (g.2.1.1, 152, .inl z2)), (g3, .inl (g.2.1.1, 152, .inl z3))] H → va_D A [(h, .inr (9, [.int zth, .int (nI nA), .int zch, .ref ak, .ref av, .ref bk, .ref bv, .ref br, .ref a_s, .ref a_t, .int (nI mm), .ref g1, .ref g2, .ref g3, .long (kL a), .long (kL b), .long (kL C), .long (kL D), .int zpb, .ref pa, .ref ru, .ref tx, .int zln, .int zat, .int zrk, .int zrv, .int zre, .int zwr, .int zrm, .int zrs, .int zis, .int zss, .int zsc, .ref dk, .ref dv, .ref ek, .ref ev, .ref er, .ref es, .ref et])), (ak, .inl (g.2.1.1, 152, .inl fk)), (g1, .inl (g.2.1.1, 152, .inl z1)), (g2, .inl (g.2.1.1, 152, .inl z2)), (g3, .inl (g.2.1.1, 152, .inl z3))] → va_S A s.heap H locs → lv_has ls 5 [(4, .int (nI q)), (3, .int (nI (gw0 κ nA fi β).1)), (2, .int (nI fi)), (0, .ref h), (1, .int (kI β))] → W p l e rm_X7_build s m ([.ref h, .int (kI β)] : List Value).toArray below meth cd H locs 0 0 (kQv g 5 A (p_X7_build g h zth zch zsg zl1 zl2 zl3 zl4 zpb zln zat zrk zrv zre zwr zrm zrs zis zss zsc ak av bk bv br a_s a_t g1 g2 g3 pa ru tx dk dv ek ev er es et nA fk y1 y2 y3 β κ) below ([.ref h, .int (kI β)] : List Value).toArray s) (F0 m 31 ls []) := by
          intro n9
          induction n9 with
          | zero => intro q a b C D H locs ls hq hrun h9; exact absurd h9 (Nat.not_lt_zero _)
          | succ n9 ih31 =>
            intro q a b C D H locs ls hq hrun hn31 hP hD hS hl
            refine lv_iload hx hb dX7_build_31 (lv_at hl 0 rfl) ?_
            refine lv_iload_n hx hb dX7_build_33 rfl (lv_at hl 1 rfl) ?_
            refine lv_icmp_gt (tgt := 52) hx hb dX7_build_34 (by decide) (fun c_34 => ?_) (fun c_34 => ?_)
            · skip
              have hqe : q = (gw0 κ nA fi β).1 + 1 := by rw [nI_ltI (by omega) (by omega)] at c_34; omega
              have hend := kRun_end (show fi < q by omega) hrun (by omega)
              have hm9 := kRun_m hrun
              obtain ⟨⟨ha0, ha1, hab⟩, ⟨hb1, hb2⟩, -, -⟩ := hm9
              have ea : kI a = nI a.toNat := by rw [kI_nI, Int.toNat_of_nonneg ha0]
              have eb : kI b = nI b.toNat := by rw [kI_nI, Int.toNat_of_nonneg (by omega)]
              have hgp : 0 < Nat.gcd a.toNat b.toNat := Nat.gcd_pos_of_pos_right _ (by omega)
              have hgl : Nat.gcd a.toNat b.toNat ≤ b.toNat := Nat.gcd_le_right _ (by omega)
              have hbt : a.toNat ≤ 10000 ∧ 1 ≤ b.toNat ∧ b.toNat ≤ 10000 := by omega
              have hgne : ¬ nI (Nat.gcd a.toNat b.toNat) = 0 := nI_ne0 hgp (by omega)
              have hw9 : gw0 κ nA fi β = ((gw0 κ nA fi β).1, a, b) := by rw [hend, hqe]
              clear hend hrun
              refine lv_aload_n hx hb dX7_build_52 rfl (lv_at hl 3 rfl) ?_
              refine va_get (D := g.1) (ci := 9) (v := .long (kL a)) (C := RX7) (T := TX7) (N := 40) hx hb hts (by decide +kernel) hown hK hP 0 rfl rfl 14 (by decide) (hts (.fieldLink RX7 144 "LearnedIndexModel" "lowTop" "J") (by decide +kernel)) (fun _ h9 => h9) rfl dX7_build_53 ?_
              refine lv_l2i hx hb dX7_build_56 rfl ?_
              rw [show ((kL a).toInt32 : Int32) = nI a.toNat from by rw [kL_i, ea]]
              refine lv_aload_n hx hb dX7_build_57 rfl (lv_at hl 3 rfl) ?_
              refine va_get (D := g.1) (ci := 9) (v := .long (kL b)) (C := RX7) (T := TX7) (N := 40) hx hb hts (by decide +kernel) hown hK hP 0 rfl rfl 15 (by decide) (hts (.fieldLink RX7 140 "LearnedIndexModel" "lowBottom" "J") (by decide +kernel)) (fun _ h9 => h9) rfl dX7_build_58 ?_
              refine lv_l2i hx hb dX7_build_61 rfl ?_
              rw [show ((kL b).toInt32 : Int32) = nI b.toNat from by rw [kL_i, eb]]
              refine kcalli (wc := []) [] (va_runS (As := [.int (nI a.toNat), .int (nI b.toNat)]) (rest := []) ⟨hx, hb, hml, hown, hts⟩ ((c_X7_common l g a.toNat b.toNat hbt) _) (va_cwS 2 hts gX7_build_X7_common rfl rfl rfl (by decide +kernel) ⟨Nat.le_of_ble_eq_true rfl, Nat.le_of_ble_eq_true rfl⟩) (kpreS (wc := []) hK hP hD hS hA hE [] rfl rfl) rfl rfl hl.1 rfl (lv_room (Nat.le_of_ble_eq_true rfl)) dX7_build_62 ⟨Nat.zero_le _, Nat.zero_le _⟩) hP hD hS hA rfl (fun r_3 w_3 H locs hp hP hD hS => ?_)
              obtain ⟨rfl, rfl⟩ := hp
              have hP : va_P g.1 vwCl [(h, .inr (9, [.int zth, .int (nI nA), .int zch, .ref ak, .ref av, .ref bk, .ref bv, .ref br, .ref a_s, .ref a_t, .int (nI mm), .ref g1, .ref g2, .ref g3, .long (kL a), .long (kL b), .long (kL C), .long (kL D), .int zpb, .ref pa, .ref ru, .ref tx, .int zln, .int zat, .int zrk, .int zrv, .int zre, .int zwr, .int zrm, .int zrs, .int zis, .int zss, .int zsc, .ref dk, .ref dv, .ref ek, .ref ev, .ref er, .ref es, .ref et])), (ak, .inl (g.2.1.1, 152, .inl fk)), (g1, .inl (g.2.1.1, 152, .inl z1)), (g2, .inl (g.2.1.1, 152, .inl z2)), (g3, .inl (g.2.1.1, 152, .inl z3))] H := hP
              have hD : va_D A [(h, .inr (9, [.int zth, .int (nI nA), .int zch, .ref ak, .ref av, .ref bk, .ref bv, .ref br, .ref a_s, .ref a_t, .int (nI mm), .ref g1, .ref g2, .ref g3, .long (kL a), .long (kL b), .long (kL C), .long (kL D), .int zpb, .ref pa, .ref ru, .ref tx, .int zln, .int zat, .int zrk, .int zrv, .int zre, .int zwr, .int zrm, .int zrs, .int zis, .int zss, .int zsc, .ref dk, .ref dv, .ref ek, .ref ev, .ref er, .ref es, .ref et])), (ak, .inl (g.2.1.1, 152, .inl fk)), (g1, .inl (g.2.1.1, 152, .inl z1)), (g2, .inl (g.2.1.1, 152, .inl z2)), (g3, .inl (g.2.1.1, 152, .inl z3))] := hD
              refine lv_istore (lv' := [(4, .int (nI (Nat.gcd a.toNat b.toNat))), (3, .int (nI (gw0 κ nA fi β).1)), (2, .int (nI fi)), (0, .ref h), (1, .int (kI β))]) hx hb dX7_build_65 hl (by decide) rfl (fun ls hl => ?_)
              refine lv_aload_n hx hb dX7_build_67 rfl (lv_at hl 3 rfl) ?_
              refine va_get (D := g.1) (ci := 9) (v := .ref g1) (C := RX7) (T := TX7) (N := 40) hx hb hts (by decide +kernel) hown hK hP 0 rfl rfl 11 (by decide) (hts (.fieldLink RX7 31 "LearnedIndexModel" "begins" "[I") (by decide +kernel)) (fun _ h9 => h9) rfl dX7_build_68 ?_
              refine lv_aload_n hx hb dX7_build_71 rfl (lv_at hl 3 rfl) ?_
              refine va_get (D := g.1) (ci := 9) (v := .int (nI mm)) (C := RX7) (T := TX7) (N := 40) hx hb hts (by decide +kernel) hown hK hP 0 rfl rfl 10 (by decide) (hts (.fieldLink RX7 163 "LearnedIndexModel" "segments" "I") (by decide +kernel)) (fun _ h9 => h9) rfl dX7_build_72 ?_
              refine lv_iload_n hx hb dX7_build_75 rfl (lv_at hl 2 rfl) ?_
              refine va_iast hx hb hK hP hD hS 2 0 rfl rfl (vp_in_nI (show mm < 152 by omega) (by omega)) dX7_build_76 (fun H locs hP hD hS => ?_)
              rw [show (nI mm : Int32).toNatClampNeg = mm from nI_clamp (n := mm) (by omega)] at hP hD
              have hP : va_P g.1 vwCl [(h, .inr (9, [.int zth, .int (nI nA), .int zch, .ref ak, .ref av, .ref bk, .ref bv, .ref br, .ref a_s, .ref a_t, .int (nI mm), .ref g1, .ref g2, .ref g3, .long (kL a), .long (kL b), .long (kL C), .long (kL D), .int zpb, .ref pa, .ref ru, .ref tx, .int zln, .int zat, .int zrk, .int zrv, .int zre, .int zwr, .int zrm, .int zrs, .int zis, .int zss, .int zsc, .ref dk, .ref dv, .ref ek, .ref ev, .ref er, .ref es, .ref et])), (ak, .inl (g.2.1.1, 152, .inl fk)), (g1, .inl (g.2.1.1, 152, .inl (upd z1 mm (nI fi)))), (g2, .inl (g.2.1.1, 152, .inl z2)), (g3, .inl (g.2.1.1, 152, .inl z3))] H := hP
              have hD : va_D A [(h, .inr (9, [.int zth, .int (nI nA), .int zch, .ref ak, .ref av, .ref bk, .ref bv, .ref br, .ref a_s, .ref a_t, .int (nI mm), .ref g1, .ref g2, .ref g3, .long (kL a), .long (kL b), .long (kL C), .long (kL D), .int zpb, .ref pa, .ref ru, .ref tx, .int zln, .int zat, .int zrk, .int zrv, .int zre, .int zwr, .int zrm, .int zrs, .int zis, .int zss, .int zsc, .ref dk, .ref dv, .ref ek, .ref ev, .ref er, .ref es, .ref et])), (ak, .inl (g.2.1.1, 152, .inl fk)), (g1, .inl (g.2.1.1, 152, .inl (upd z1 mm (nI fi)))), (g2, .inl (g.2.1.1, 152, .inl z2)), (g3, .inl (g.2.1.1, 152, .inl z3))] := hD
              refine lv_aload_n hx hb dX7_build_77 rfl (lv_at hl 3 rfl) ?_
              refine va_get (D := g.1) (ci := 9) (v := .ref g2) (C := RX7) (T := TX7) (N := 40) hx hb hts (by decide +kernel) hown hK hP 0 rfl rfl 12 (by decide) (hts (.fieldLink RX7 34 "LearnedIndexModel" "tops" "[I") (by decide +kernel)) (fun _ h9 => h9) rfl dX7_build_78 ?_
              refine lv_aload_n hx hb dX7_build_81 rfl (lv_at hl 3 rfl) ?_
              refine va_get (D := g.1) (ci := 9) (v := .int (nI mm)) (C := RX7) (T := TX7) (N := 40) hx hb hts (by decide +kernel) hown hK hP 0 rfl rfl 10 (by decide) (hts (.fieldLink RX7 163 "LearnedIndexModel" "segments" "I") (by decide +kernel)) (fun _ h9 => h9) rfl dX7_build_82 ?_
              refine lv_aload_n hx hb dX7_build_85 rfl (lv_at hl 3 rfl) ?_
              refine va_get (D := g.1) (ci := 9) (v := .long (kL a)) (C := RX7) (T := TX7) (N := 40) hx hb hts (by decide +kernel) hown hK hP 0 rfl rfl 14 (by decide) (hts (.fieldLink RX7 144 "LearnedIndexModel" "lowTop" "J") (by decide +kernel)) (fun _ h9 => h9) rfl dX7_build_86 ?_
              refine lv_l2i hx hb dX7_build_89 rfl ?_
              rw [show ((kL a).toInt32 : Int32) = nI a.toNat from by rw [kL_i, ea]]
              refine lv_iload hx hb dX7_build_90 (lv_at hl 0 rfl) ?_
              refine lv_idiv hx hb dX7_build_92 hgne ?_
              rw [show ((nI a.toNat) / (nI (Nat.gcd a.toNat b.toNat)) : Int32) = nI (a.toNat / Nat.gcd a.toNat b.toNat) from pk_div (by omega) hgp (by omega)]
              refine va_iast hx hb hK hP hD hS 3 0 rfl rfl (vp_in_nI (show mm < 152 by omega) (by omega)) dX7_build_93 (fun H locs hP hD hS => ?_)
              rw [show (nI mm : Int32).toNatClampNeg = mm from nI_clamp (n := mm) (by omega)] at hP hD
              have hP : va_P g.1 vwCl [(h, .inr (9, [.int zth, .int (nI nA), .int zch, .ref ak, .ref av, .ref bk, .ref bv, .ref br, .ref a_s, .ref a_t, .int (nI mm), .ref g1, .ref g2, .ref g3, .long (kL a), .long (kL b), .long (kL C), .long (kL D), .int zpb, .ref pa, .ref ru, .ref tx, .int zln, .int zat, .int zrk, .int zrv, .int zre, .int zwr, .int zrm, .int zrs, .int zis, .int zss, .int zsc, .ref dk, .ref dv, .ref ek, .ref ev, .ref er, .ref es, .ref et])), (ak, .inl (g.2.1.1, 152, .inl fk)), (g1, .inl (g.2.1.1, 152, .inl (upd z1 mm (nI fi)))), (g2, .inl (g.2.1.1, 152, .inl (upd z2 mm (nI (a.toNat / Nat.gcd a.toNat b.toNat))))), (g3, .inl (g.2.1.1, 152, .inl z3))] H := hP
              have hD : va_D A [(h, .inr (9, [.int zth, .int (nI nA), .int zch, .ref ak, .ref av, .ref bk, .ref bv, .ref br, .ref a_s, .ref a_t, .int (nI mm), .ref g1, .ref g2, .ref g3, .long (kL a), .long (kL b), .long (kL C), .long (kL D), .int zpb, .ref pa, .ref ru, .ref tx, .int zln, .int zat, .int zrk, .int zrv, .int zre, .int zwr, .int zrm, .int zrs, .int zis, .int zss, .int zsc, .ref dk, .ref dv, .ref ek, .ref ev, .ref er, .ref es, .ref et])), (ak, .inl (g.2.1.1, 152, .inl fk)), (g1, .inl (g.2.1.1, 152, .inl (upd z1 mm (nI fi)))), (g2, .inl (g.2.1.1, 152, .inl (upd z2 mm (nI (a.toNat / Nat.gcd a.toNat b.toNat))))), (g3, .inl (g.2.1.1, 152, .inl z3))] := hD
              refine lv_aload_n hx hb dX7_build_94 rfl (lv_at hl 3 rfl) ?_
              refine va_get (D := g.1) (ci := 9) (v := .ref g3) (C := RX7) (T := TX7) (N := 40) hx hb hts (by decide +kernel) hown hK hP 0 rfl rfl 13 (by decide) (hts (.fieldLink RX7 37 "LearnedIndexModel" "bottoms" "[I") (by decide +kernel)) (fun _ h9 => h9) rfl dX7_build_95 ?_
              refine lv_aload_n hx hb dX7_build_98 rfl (lv_at hl 3 rfl) ?_
              refine va_get (D := g.1) (ci := 9) (v := .int (nI mm)) (C := RX7) (T := TX7) (N := 40) hx hb hts (by decide +kernel) hown hK hP 0 rfl rfl 10 (by decide) (hts (.fieldLink RX7 163 "LearnedIndexModel" "segments" "I") (by decide +kernel)) (fun _ h9 => h9) rfl dX7_build_99 ?_
              refine lv_aload_n hx hb dX7_build_102 rfl (lv_at hl 3 rfl) ?_
              refine va_get (D := g.1) (ci := 9) (v := .long (kL b)) (C := RX7) (T := TX7) (N := 40) hx hb hts (by decide +kernel) hown hK hP 0 rfl rfl 15 (by decide) (hts (.fieldLink RX7 140 "LearnedIndexModel" "lowBottom" "J") (by decide +kernel)) (fun _ h9 => h9) rfl dX7_build_103 ?_
              refine lv_l2i hx hb dX7_build_106 rfl ?_
              rw [show ((kL b).toInt32 : Int32) = nI b.toNat from by rw [kL_i, eb]]
              refine lv_iload hx hb dX7_build_107 (lv_at hl 0 rfl) ?_
              refine lv_idiv hx hb dX7_build_109 hgne ?_
              rw [show ((nI b.toNat) / (nI (Nat.gcd a.toNat b.toNat)) : Int32) = nI (b.toNat / Nat.gcd a.toNat b.toNat) from pk_div (by omega) hgp (by omega)]
              refine va_iast hx hb hK hP hD hS 4 0 rfl rfl (vp_in_nI (show mm < 152 by omega) (by omega)) dX7_build_110 (fun H locs hP hD hS => ?_)
              rw [show (nI mm : Int32).toNatClampNeg = mm from nI_clamp (n := mm) (by omega)] at hP hD
              have hP : va_P g.1 vwCl [(h, .inr (9, [.int zth, .int (nI nA), .int zch, .ref ak, .ref av, .ref bk, .ref bv, .ref br, .ref a_s, .ref a_t, .int (nI mm), .ref g1, .ref g2, .ref g3, .long (kL a), .long (kL b), .long (kL C), .long (kL D), .int zpb, .ref pa, .ref ru, .ref tx, .int zln, .int zat, .int zrk, .int zrv, .int zre, .int zwr, .int zrm, .int zrs, .int zis, .int zss, .int zsc, .ref dk, .ref dv, .ref ek, .ref ev, .ref er, .ref es, .ref et])), (ak, .inl (g.2.1.1, 152, .inl fk)), (g1, .inl (g.2.1.1, 152, .inl (upd z1 mm (nI fi)))), (g2, .inl (g.2.1.1, 152, .inl (upd z2 mm (nI (a.toNat / Nat.gcd a.toNat b.toNat))))), (g3, .inl (g.2.1.1, 152, .inl (upd z3 mm (nI (b.toNat / Nat.gcd a.toNat b.toNat)))))] H := hP
              have hD : va_D A [(h, .inr (9, [.int zth, .int (nI nA), .int zch, .ref ak, .ref av, .ref bk, .ref bv, .ref br, .ref a_s, .ref a_t, .int (nI mm), .ref g1, .ref g2, .ref g3, .long (kL a), .long (kL b), .long (kL C), .long (kL D), .int zpb, .ref pa, .ref ru, .ref tx, .int zln, .int zat, .int zrk, .int zrv, .int zre, .int zwr, .int zrm, .int zrs, .int zis, .int zss, .int zsc, .ref dk, .ref dv, .ref ek, .ref ev, .ref er, .ref es, .ref et])), (ak, .inl (g.2.1.1, 152, .inl fk)), (g1, .inl (g.2.1.1, 152, .inl (upd z1 mm (nI fi)))), (g2, .inl (g.2.1.1, 152, .inl (upd z2 mm (nI (a.toNat / Nat.gcd a.toNat b.toNat))))), (g3, .inl (g.2.1.1, 152, .inl (upd z3 mm (nI (b.toNat / Nat.gcd a.toNat b.toNat)))))] := hD
              refine lv_aload_n hx hb dX7_build_111 rfl (lv_at hl 3 rfl) ?_
              refine lv_dup hx hb dX7_build_112 rfl ?_
              refine va_get (D := g.1) (ci := 9) (v := .int (nI mm)) (C := RX7) (T := TX7) (N := 40) hx hb hts (by decide +kernel) hown hK hP 0 rfl rfl 10 (by decide) (hts (.fieldLink RX7 163 "LearnedIndexModel" "segments" "I") (by decide +kernel)) (fun _ h9 => h9) rfl dX7_build_113 ?_
              refine lv_iconst (v := 1) hx hb dX7_build_116 (by decide) ?_
              refine lv_iadd hx hb dX7_build_117 ?_
              rw [show (nI mm) + 1 = nI (mm + 1) from nI_1 mm]
              refine va_put (D := g.1) (ci := 9) (v := .int (nI (mm + 1))) (ty := .int) (C := RX7) (T := TX7) (N := 40) hx hb hts (by decide +kernel) tyX7 tyX7_ok nmX7 hown hK hP hD hS 0 rfl rfl 10 (by decide) (hts (.fieldLink RX7 163 "LearnedIndexModel" "segments" "I") (by decide +kernel)) (fun _ h9 => h9) rfl (by decide +kernel) rfl rfl (Nat.le_of_ble_eq_true rfl) dX7_build_118 (fun H locs hP hD hS => ?_)
              have hP : va_P g.1 vwCl [(h, .inr (9, [.int zth, .int (nI nA), .int zch, .ref ak, .ref av, .ref bk, .ref bv, .ref br, .ref a_s, .ref a_t, .int (nI (mm + 1)), .ref g1, .ref g2, .ref g3, .long (kL a), .long (kL b), .long (kL C), .long (kL D), .int zpb, .ref pa, .ref ru, .ref tx, .int zln, .int zat, .int zrk, .int zrv, .int zre, .int zwr, .int zrm, .int zrs, .int zis, .int zss, .int zsc, .ref dk, .ref dv, .ref ek, .ref ev, .ref er, .ref es, .ref et])), (ak, .inl (g.2.1.1, 152, .inl fk)), (g1, .inl (g.2.1.1, 152, .inl (upd z1 mm (nI fi)))), (g2, .inl (g.2.1.1, 152, .inl (upd z2 mm (nI (a.toNat / Nat.gcd a.toNat b.toNat))))), (g3, .inl (g.2.1.1, 152, .inl (upd z3 mm (nI (b.toNat / Nat.gcd a.toNat b.toNat)))))] H := hP
              have hD : va_D A [(h, .inr (9, [.int zth, .int (nI nA), .int zch, .ref ak, .ref av, .ref bk, .ref bv, .ref br, .ref a_s, .ref a_t, .int (nI (mm + 1)), .ref g1, .ref g2, .ref g3, .long (kL a), .long (kL b), .long (kL C), .long (kL D), .int zpb, .ref pa, .ref ru, .ref tx, .int zln, .int zat, .int zrk, .int zrv, .int zre, .int zwr, .int zrm, .int zrs, .int zis, .int zss, .int zsc, .ref dk, .ref dv, .ref ek, .ref ev, .ref er, .ref es, .ref et])), (ak, .inl (g.2.1.1, 152, .inl fk)), (g1, .inl (g.2.1.1, 152, .inl (upd z1 mm (nI fi)))), (g2, .inl (g.2.1.1, 152, .inl (upd z2 mm (nI (a.toNat / Nat.gcd a.toNat b.toNat))))), (g3, .inl (g.2.1.1, 152, .inl (upd z3 mm (nI (b.toNat / Nat.gcd a.toNat b.toNat)))))] := hD
              refine lv_iload_n hx hb dX7_build_121 rfl (lv_at hl 1 rfl) ?_
              refine lv_iconst (v := 1) hx hb dX7_build_122 (by decide) ?_
              refine lv_iadd hx hb dX7_build_123 ?_
              rw [show (nI (gw0 κ nA fi β).1) + 1 = nI ((gw0 κ nA fi β).1 + 1) from nI_1 ((gw0 κ nA fi β).1)]
              refine lv_istore_n (lv' := [(2, .int (nI ((gw0 κ nA fi β).1 + 1))), (4, .int (nI (Nat.gcd a.toNat b.toNat))), (3, .int (nI (gw0 κ nA fi β).1)), (0, .ref h), (1, .int (kI β))]) hx hb dX7_build_124 rfl hl (by decide) rfl (fun ls hl => ?_)
              refine lv_goto (tgt := 7) hx hb dX7_build_125 (by decide) ?_
              exact ih7 ((gw0 κ nA fi β).1 + 1) (mm + 1) (upd z1 mm (nI fi)) (upd z2 mm (nI (a.toNat / Nat.gcd a.toNat b.toNat))) (upd z3 mm (nI (b.toNat / Nat.gcd a.toNat b.toNat))) (upd v2 mm (nI (gw0 κ nA fi β).1)) (upd v3 mm (kI (κ fi))) (kL a) (kL b) (kL C) (kL D) _ _ ls (⟨by omega, by omega⟩) (SG_stepm hasc hn160 hβ hfn hg hw9) (by omega) hP hD hS (lv_sub hl [0, 3, 4] rfl)
            · skip
              have hqe : q ≤ (gw0 κ nA fi β).1 := by rw [nI_ltI (by omega) (by omega)] at c_34; omega
              obtain ⟨hqn, hok⟩ := kRun_in hasc hn160 hβ hq.1 hqe hrun
              have hrun2 := (kRun_s hasc hn160 hβ hq.1 hqn hrun).1 hok
              refine lv_aload_n hx hb dX7_build_37 rfl (lv_at hl 3 rfl) ?_
              refine lv_iload_n hx hb dX7_build_38 rfl (lv_at hl 2 rfl) ?_
              refine lv_iload hx hb dX7_build_39 (lv_at hl 0 rfl) ?_
              refine lv_iload_n hx hb dX7_build_41 rfl (lv_at hl 4 rfl) ?_
              refine kcalli (wc := [(h, .inr (9, [.int zth, .int (nI nA), .int zch, .ref ak, .ref av, .ref bk, .ref bv, .ref br, .ref a_s, .ref a_t, .int (nI mm), .ref g1, .ref g2, .ref g3, .long (kL a), .long (kL b), .long (kL C), .long (kL D), .int zpb, .ref pa, .ref ru, .ref tx, .int zln, .int zat, .int zrk, .int zrv, .int zre, .int zwr, .int zrm, .int zrs, .int zis, .int zss, .int zsc, .ref dk, .ref dv, .ref ek, .ref ev, .ref er, .ref es, .ref et])), (ak, .inl (g.2.1.1, 152, .inl fk))]) [0, 1] (va_runV (C := RX7) (As := [.int (nI fi), .int (nI q), .int (kI β)]) (rest := []) ⟨hx, hb, hml, hown, hts⟩ ((c_X7_narrows l g h zth zch (nI mm) zpb zln zat zrk zrv zre zwr zrm zrs zis zss zsc ak av bk bv br a_s a_t g1 g2 g3 pa ru tx dk dv ek ev er es et nA fk a b C D β fi q κ hκ hasc hn hβ (⟨hq.1, hqn⟩) (kRun_m hrun)) _) (cwV 3 hts gX7_build_X7_narrows rfl rfl rfl (by decide +kernel) ⟨Nat.le_of_ble_eq_true rfl, Nat.le_of_ble_eq_true rfl⟩) (kpreV (wc := [(h, .inr (9, [.int zth, .int (nI nA), .int zch, .ref ak, .ref av, .ref bk, .ref bv, .ref br, .ref a_s, .ref a_t, .int (nI mm), .ref g1, .ref g2, .ref g3, .long (kL a), .long (kL b), .long (kL C), .long (kL D), .int zpb, .ref pa, .ref ru, .ref tx, .int zln, .int zat, .int zrk, .int zrv, .int zre, .int zwr, .int zrm, .int zrs, .int zis, .int zss, .int zsc, .ref dk, .ref dv, .ref ek, .ref ev, .ref er, .ref es, .ref et])), (ak, .inl (g.2.1.1, 152, .inl fk))]) (ci := 9) hK hP hD hS hA hE [0, 1] rfl rfl rfl rfl) rfl rfl hl.1 rfl (lv_room (Nat.le_of_ble_eq_true rfl)) dX7_build_42 ⟨Nat.zero_le _, Nat.zero_le _⟩) hP hD hS hA rfl (fun r_4 w_4 H locs hp hP hD hS => ?_)
              obtain ⟨rfl, rfl⟩ := hp
              have hP : va_P g.1 vwCl [(h, .inr (9, [.int zth, .int (nI nA), .int zch, .ref ak, .ref av, .ref bk, .ref bv, .ref br, .ref a_s, .ref a_t, .int (nI mm), .ref g1, .ref g2, .ref g3, .long (kL (nrL β ((q : Int) - (fi : Int)) (κ q - κ fi) a b).1), .long (kL (nrL β ((q : Int) - (fi : Int)) (κ q - κ fi) a b).2), .long (kL (nrH β ((q : Int) - (fi : Int)) (κ q - κ fi) C D).1), .long (kL (nrH β ((q : Int) - (fi : Int)) (κ q - κ fi) C D).2), .int zpb, .ref pa, .ref ru, .ref tx, .int zln, .int zat, .int zrk, .int zrv, .int zre, .int zwr, .int zrm, .int zrs, .int zis, .int zss, .int zsc, .ref dk, .ref dv, .ref ek, .ref ev, .ref er, .ref es, .ref et])), (ak, .inl (g.2.1.1, 152, .inl fk)), (g1, .inl (g.2.1.1, 152, .inl z1)), (g2, .inl (g.2.1.1, 152, .inl z2)), (g3, .inl (g.2.1.1, 152, .inl z3))] H := hP
              have hD : va_D A [(h, .inr (9, [.int zth, .int (nI nA), .int zch, .ref ak, .ref av, .ref bk, .ref bv, .ref br, .ref a_s, .ref a_t, .int (nI mm), .ref g1, .ref g2, .ref g3, .long (kL (nrL β ((q : Int) - (fi : Int)) (κ q - κ fi) a b).1), .long (kL (nrL β ((q : Int) - (fi : Int)) (κ q - κ fi) a b).2), .long (kL (nrH β ((q : Int) - (fi : Int)) (κ q - κ fi) C D).1), .long (kL (nrH β ((q : Int) - (fi : Int)) (κ q - κ fi) C D).2), .int zpb, .ref pa, .ref ru, .ref tx, .int zln, .int zat, .int zrk, .int zrv, .int zre, .int zwr, .int zrm, .int zrs, .int zis, .int zss, .int zsc, .ref dk, .ref dv, .ref ek, .ref ev, .ref er, .ref es, .ref et])), (ak, .inl (g.2.1.1, 152, .inl fk)), (g1, .inl (g.2.1.1, 152, .inl z1)), (g2, .inl (g.2.1.1, 152, .inl z2)), (g3, .inl (g.2.1.1, 152, .inl z3))] := hD
              refine lv_pop hx hb dX7_build_45 rfl ?_
              refine lv_iinc (v := nI (q + 1)) (lv' := [(4, .int (nI (q + 1))), (3, .int (nI (gw0 κ nA fi β).1)), (2, .int (nI fi)), (0, .ref h), (1, .int (kI β))]) hx hb dX7_build_46 hl (k := 0) rfl (nI_1 q) (by decide) rfl (fun ls hl => ?_)
              refine lv_goto (tgt := 31) hx hb dX7_build_49 (by decide) ?_
              exact ih31 (q + 1) ((nrL β ((q : Int) - (fi : Int)) (κ q - κ fi) a b).1) ((nrL β ((q : Int) - (fi : Int)) (κ q - κ fi) a b).2) ((nrH β ((q : Int) - (fi : Int)) (κ q - κ fi) C D).1) ((nrH β ((q : Int) - (fi : Int)) (κ q - κ fi) C D).2) _ _ ls (⟨by omega, by omega⟩) hrun2 (by omega) hP hD hS (lv_sub hl [0, 1, 2, 3, 4] rfl)
        exact L31 _ (fi + 1) 0 1 1 0 _ _ ls (⟨by omega, by omega⟩) (kRun_0 κ nA fi β) (Nat.lt_succ_self _) hP hD hS (lv_sub hl [0, 1, 2, 3, 4] rfl)
  exact L7 _ 0 0 y1 y2 y3 fz0 fz0 zl1 zl2 zl3 zl4 _ _ ls (⟨Nat.zero_le _, Nat.le_refl 0⟩) rfl (Nat.lt_succ_self _) hP hD hS (lv_sub hl [0, 1, 2] rfl)
