/-! ===== the model: clear, merge, main, change, settings ===== -/
theorem isB_k (v a b : Int32) : isB v a b = kbool (decide (a ≤ v ∧ v ≤ b)) := by
  unfold isB
  by_cases h : v < a
  · rw [if_pos h, decide_eq_false (fun z => (Int32.not_le.mpr h) z.1)]; rfl
  · by_cases h2 : b < v
    · rw [if_neg h, if_pos h2, decide_eq_false (fun z => (Int32.not_le.mpr h2) z.2)]; rfl
    · rw [if_neg h, if_neg h2, decide_eq_true ⟨Int32.not_lt.mp h, Int32.not_lt.mp h2⟩]; rfl
theorem stV_0 (v : Int32) : stV 0 v = decide (1 ≤ v ∧ v ≤ 8) := by
  rw [stV]; congr 1; simp only [show ¬ (0 : Int32) < 0 from by decide, show (0 : Int32) < 4 from by decide, show kcell 4 kLeast 0 = 1 from by decide, show kcell 4 kGreatest 0 = 8 from by decide, not_false_eq_true, true_and]
theorem stV_1 (v : Int32) : stV 1 v = decide (1 ≤ v ∧ v ≤ 20) := by
  rw [stV]; congr 1; simp only [show ¬ (1 : Int32) < 0 from by decide, show (1 : Int32) < 4 from by decide, show kcell 4 kLeast 1 = 1 from by decide, show kcell 4 kGreatest 1 = 20 from by decide, not_false_eq_true, true_and]
theorem stV_2 (v : Int32) : stV 2 v = decide (1 ≤ v ∧ v ≤ 16) := by
  rw [stV]; congr 1; simp only [show ¬ (2 : Int32) < 0 from by decide, show (2 : Int32) < 4 from by decide, show kcell 4 kLeast 2 = 1 from by decide, show kcell 4 kGreatest 2 = 16 from by decide, not_false_eq_true, true_and]
theorem stV_3 (v : Int32) : stV 3 v = decide (0 ≤ v ∧ v ≤ 9) := by
  rw [stV]; congr 1; simp only [show ¬ (3 : Int32) < 0 from by decide, show (3 : Int32) < 4 from by decide, show kcell 4 kLeast 3 = 0 from by decide, show kcell 4 kGreatest 3 = 9 from by decide, not_false_eq_true, true_and]
theorem stV_out {w v : Int32} (h : w.toInt < 0 ∨ 3 < w.toInt) : stV w v = false := by
  rw [stV]
  refine decide_eq_false (fun z => ?_)
  obtain ⟨h1, h2, -⟩ := z
  rw [Int32.lt_iff_toInt_lt, show (0 : Int32).toInt = 0 from by decide] at h1
  rw [Int32.lt_iff_toInt_lt, show (4 : Int32).toInt = 4 from by decide] at h2
  omega
theorem kMX_S {nA : Nat} {fk fv : Nat → Int32} {nB : Nat} {ck cv cr fS fT : Nat → Int32} {mS : Nat} {y1 y2 y3 : Nat → Int32} {M C : List kE3} {S T s2 S2 : Nat → Int32} {m2 : Nat} {x1 x2 x3 v2 v3 : Nat → Int32} (h : kMX nA fk fv nB ck cv cr fS fT mS y1 y2 y3 M C S T) (hs : ∀ j, j < 4 → s2 j = S2 j) (hk : kSt S2) (hg : SG m2 x1 v2 v3 x2 x3 = (sgs (kap M) nA (S2 0).toInt).map (sgc (kap M))) : kMX nA fk fv nB ck cv cr s2 fT m2 x1 x2 x3 M C S2 T := by
  obtain ⟨hMM, hS, hT, hK, -⟩ := h
  have hn : nA = M.length := by rw [← hMM.1.1, EL_len]
  exact ⟨hMM, hs, hT, hk, v2, v3, by rw [hg, ksegs, hn]⟩
theorem kMX_S0 {nA : Nat} {fk fv : Nat → Int32} {nB : Nat} {ck cv cr fS fT : Nat → Int32} {mS : Nat} {y1 y2 y3 : Nat → Int32} {M C : List kE3} {S T s2 S2 : Nat → Int32} (h : kMX nA fk fv nB ck cv cr fS fT mS y1 y2 y3 M C S T) (hs : ∀ j, j < 4 → s2 j = S2 j) (hk : kSt S2) (h0 : S2 0 = S 0) : kMX nA fk fv nB ck cv cr s2 fT mS y1 y2 y3 M C S2 T := by
  obtain ⟨hMM, hS, hT, hK, v2, v3, hg⟩ := h
  exact ⟨hMM, hs, hT, hk, v2, v3, by rw [hg, ksegs, ksegs, h0]⟩

set_option maxRecDepth 20000 in
theorem ggX7_clear_X7_countEntries : GoodIn wsX7_clear wsX7_countEntries := goodIn_ca (goodIn_r _ [10, 2, 3, 11, 12, 13, 14, 15, 9, 16, 17, 18, 19, 20, 21, 22, 23, 24, 25, 26, 27, 28, 29, 30, 31, 32, 33, 34, 35, 36, 37, 38, 39, 40, 41, 42, 43, 44, 45, 46, 47, 48, 49, 50, 51, 52, 53, 54, 55, 56, 57] (by decide +kernel) (by decide +kernel)) (goodIn_sub (fun _ h => List.mem_cons_of_mem _ (List.mem_append_right _ h)) (by decide +kernel))
set_option maxRecDepth 20000 in
theorem gX7_clear_X7_countEntries : GoodIn wsX7_clear (wsV RX7 127 RX7 yX7_countEntries wsX7_countEntries) := goodIn_app (goodIn_of _ (by decide +kernel)) ggX7_clear_X7_countEntries
theorem dX7_clear_0 : decode cX7_clear 0 = .ok (.aload_n 0, 1) := by decide +kernel
theorem dX7_clear_1 : decode cX7_clear 1 = .ok (.iconst 0, 1) := by decide +kernel
theorem dX7_clear_2 : decode cX7_clear 2 = .ok (.putfield 71, 3) := by decide +kernel
theorem dX7_clear_5 : decode cX7_clear 5 = .ok (.aload_n 0, 1) := by decide +kernel
theorem dX7_clear_6 : decode cX7_clear 6 = .ok (.invokevirtual 127, 3) := by decide +kernel
theorem dX7_clear_9 : decode cX7_clear 9 = .ok (.istore_n 1, 1) := by decide +kernel
theorem dX7_clear_10 : decode cX7_clear 10 = .ok (.aload_n 0, 1) := by decide +kernel
theorem dX7_clear_11 : decode cX7_clear 11 = .ok (.iconst 0, 1) := by decide +kernel
theorem dX7_clear_12 : decode cX7_clear 12 = .ok (.putfield 79, 3) := by decide +kernel
theorem dX7_clear_15 : decode cX7_clear 15 = .ok (.aload_n 0, 1) := by decide +kernel
theorem dX7_clear_16 : decode cX7_clear 16 = .ok (.iconst 0, 1) := by decide +kernel
theorem dX7_clear_17 : decode cX7_clear 17 = .ok (.putfield 82, 3) := by decide +kernel
theorem dX7_clear_20 : decode cX7_clear 20 = .ok (.aload_n 0, 1) := by decide +kernel
theorem dX7_clear_21 : decode cX7_clear 21 = .ok (.iconst 0, 1) := by decide +kernel
theorem dX7_clear_22 : decode cX7_clear 22 = .ok (.putfield 163, 3) := by decide +kernel
theorem dX7_clear_25 : decode cX7_clear 25 = .ok (.iconst 0, 1) := by decide +kernel
theorem dX7_clear_26 : decode cX7_clear 26 = .ok (.istore_n 2, 1) := by decide +kernel
theorem dX7_clear_27 : decode cX7_clear 27 = .ok (.iload_n 2, 1) := by decide +kernel
theorem dX7_clear_28 : decode cX7_clear 28 = .ok (.iconst 5, 1) := by decide +kernel
theorem dX7_clear_29 : decode cX7_clear 29 = .ok (.if_icmp .ge 16, 3) := by decide +kernel
theorem dX7_clear_32 : decode cX7_clear 32 = .ok (.aload_n 0, 1) := by decide +kernel
theorem dX7_clear_33 : decode cX7_clear 33 = .ok (.getfield 28, 3) := by decide +kernel
theorem dX7_clear_36 : decode cX7_clear 36 = .ok (.iload_n 2, 1) := by decide +kernel
theorem dX7_clear_37 : decode cX7_clear 37 = .ok (.iconst 0, 1) := by decide +kernel
theorem dX7_clear_38 : decode cX7_clear 38 = .ok (.iastore, 1) := by decide +kernel
theorem dX7_clear_39 : decode cX7_clear 39 = .ok (.iinc 2 1, 3) := by decide +kernel
theorem dX7_clear_42 : decode cX7_clear 42 = .ok (.goto (-15), 3) := by decide +kernel
theorem dX7_clear_45 : decode cX7_clear 45 = .ok (.iload_n 1, 1) := by decide +kernel
theorem dX7_clear_46 : decode cX7_clear 46 = .ok (.ireturn, 1) := by decide +kernel
def rm_X7_clear : Room := { frames := 2, cells := 0, slots := 0, locals := 45 }
abbrev p_X7_clear (g : kG) (h : Nat) (zth : Int32) (zl1 : Int64) (zl2 : Int64) (zl3 : Int64) (zl4 : Int64) (zpb : Int32) (zln : Int32) (zat : Int32) (zrk : Int32) (zrv : Int32) (zre : Int32) (zwr : Int32) (zrm : Int32) (zrs : Int32) (zis : Int32) (zss : Int32) (zsc : Int32) (ak : Nat) (av : Nat) (bk : Nat) (bv : Nat) (br : Nat) (a_s : Nat) (a_t : Nat) (g1 : Nat) (g2 : Nat) (g3 : Nat) (pa : Nat) (ru : Nat) (tx : Nat) (dk : Nat) (dv : Nat) (ek : Nat) (ev : Nat) (er : Nat) (es : Nat) (et : Nat) (nA : Nat) (fk : Nat → Int32) (fv : Nat → Int32) (nB : Nat) (ck : Nat → Int32) (cv : Nat → Int32) (cr : Nat → Int32) (fS : Nat → Int32) (fT : Nat → Int32) (mS : Nat) (y1 : Nat → Int32) (y2 : Nat → Int32) (y3 : Nat → Int32) (M : List kE3) (C : List kE3) (S : Nat → Int32) (T : Nat → Int32) : Int32 → va_W → Prop := fun r w1 => ∃ (n2 : Nat), ∃ (fk2 : Nat → Int32), ∃ (fv2 : Nat → Int32), ∃ (c2 : Nat), ∃ (ck2 : Nat → Int32), ∃ (cv2 : Nat → Int32), ∃ (cr2 : Nat → Int32), ∃ (t2 : Nat → Int32), ∃ (m2 : Nat), ∃ (x1 : Nat → Int32), ∃ (x2 : Nat → Int32), ∃ (x3 : Nat → Int32), ∃ (l1x : Int64), ∃ (l2x : Int64), ∃ (l3x : Int64), ∃ (l4x : Int64), r = nI (gat M C).length ∧ (kMX n2 fk2 fv2 c2 ck2 cv2 cr2 fS t2 m2 x1 x2 x3 [] [] S (fun _ => 0)) ∧ w1 = [(h, .inr (9, [.int 0, .int (nI n2), .int (nI c2), .ref ak, .ref av, .ref bk, .ref bv, .ref br, .ref a_s, .ref a_t, .int (nI m2), .ref g1, .ref g2, .ref g3, .long l1x, .long l2x, .long l3x, .long l4x, .int zpb, .ref pa, .ref ru, .ref tx, .int zln, .int zat, .int zrk, .int zrv, .int zre, .int zwr, .int zrm, .int zrs, .int zis, .int zss, .int zsc, .ref dk, .ref dv, .ref ek, .ref ev, .ref er, .ref es, .ref et])), (ak, .inl (g.2.1.1, 152, .inl fk2)), (av, .inl (g.2.1.1, 152, .inl fv2)), (bk, .inl (g.2.1.1, 24, .inl ck2)), (bv, .inl (g.2.1.1, 24, .inl cv2)), (br, .inl (g.2.1.1, 24, .inl cr2)), (a_s, .inl (g.2.1.1, 4, .inl fS)), (a_t, .inl (g.2.1.1, 5, .inl t2)), (g1, .inl (g.2.1.1, 152, .inl x1)), (g2, .inl (g.2.1.1, 152, .inl x2)), (g3, .inl (g.2.1.1, 152, .inl x3))]
set_option maxHeartbeats 4000000 in
set_option maxRecDepth 100000 in
theorem c_X7_clear (l : Launch) (g : kG) (h : Nat) (zth : Int32) (zl1 : Int64) (zl2 : Int64) (zl3 : Int64) (zl4 : Int64) (zpb : Int32) (zln : Int32) (zat : Int32) (zrk : Int32) (zrv : Int32) (zre : Int32) (zwr : Int32) (zrm : Int32) (zrs : Int32) (zis : Int32) (zss : Int32) (zsc : Int32) (ak : Nat) (av : Nat) (bk : Nat) (bv : Nat) (br : Nat) (a_s : Nat) (a_t : Nat) (g1 : Nat) (g2 : Nat) (g3 : Nat) (pa : Nat) (ru : Nat) (tx : Nat) (dk : Nat) (dv : Nat) (ek : Nat) (ev : Nat) (er : Nat) (es : Nat) (et : Nat) (nA : Nat) (fk : Nat → Int32) (fv : Nat → Int32) (nB : Nat) (ck : Nat → Int32) (cv : Nat → Int32) (cr : Nat → Int32) (fS : Nat → Int32) (fT : Nat → Int32) (mS : Nat) (y1 : Nat → Int32) (y2 : Nat → Int32) (y3 : Nat → Int32) (M : List kE3) (C : List kE3) (S : Nat → Int32) (T : Nat → Int32) (hMX : kMX nA fk fv nB ck cv cr fS fT mS y1 y2 y3 M C S T) : KI l yX7_clear wsX7_clear rm_X7_clear g [.ref h] [(h, .inr (9, [.int zth, .int (nI nA), .int (nI nB), .ref ak, .ref av, .ref bk, .ref bv, .ref br, .ref a_s, .ref a_t, .int (nI mS), .ref g1, .ref g2, .ref g3, .long zl1, .long zl2, .long zl3, .long zl4, .int zpb, .ref pa, .ref ru, .ref tx, .int zln, .int zat, .int zrk, .int zrv, .int zre, .int zwr, .int zrm, .int zrs, .int zis, .int zss, .int zsc, .ref dk, .ref dv, .ref ek, .ref ev, .ref er, .ref es, .ref et])), (ak, .inl (g.2.1.1, 152, .inl fk)), (av, .inl (g.2.1.1, 152, .inl fv)), (bk, .inl (g.2.1.1, 24, .inl ck)), (bv, .inl (g.2.1.1, 24, .inl cv)), (br, .inl (g.2.1.1, 24, .inl cr)), (a_s, .inl (g.2.1.1, 4, .inl fS)), (a_t, .inl (g.2.1.1, 5, .inl fT)), (g1, .inl (g.2.1.1, 152, .inl y1)), (g2, .inl (g.2.1.1, 152, .inl y2)), (g3, .inl (g.2.1.1, 152, .inl y3))] (p_X7_clear g h zth zl1 zl2 zl3 zl4 zpb zln zat zrk zrv zre zwr zrm zrs zis zss zsc ak av bk bv br a_s a_t g1 g2 g3 pa ru tx dk dv ek ev er es et nA fk fv nB ck cv cr fS fT mS y1 y2 y3 M C S T) := by
  refine kbodyI (cc := cX7_clear) (n := 3) (k := 11) (own := RX7) (plainFor_of_name (by decide)) rfl rfl rfl rfl ?_
  intro p e s m below meth cd A ls hcx
  obtain ⟨hx, hb, hRt, hml, hts, hown, hlk, hA, hP, hK, hD, hE, hS, hl⟩ := hcx
  have hl : lv_has ls 3 [(0, .ref h)] := hl
  obtain ⟨hMM, hS4, hT5, hKS, hSGm⟩ := id hMX
  obtain ⟨⟨hM, hC⟩, ⟨hnM, hnC⟩, ⟨hIM, hIC⟩, hlen, hrem⟩ := id hMM
  have hsM : kSo (EL nA fk fv fz0) := by rw [hM]; exact hIM.1
  have hsC : kSo (EL nB ck cv cr) := by rw [hC]; exact hIC.1
  have hnl : nA = M.length := by rw [← hM, EL_len]
  have hcl : nB = C.length := by rw [← hC, EL_len]
  obtain ⟨⟨hS01, hS02⟩, ⟨hS11, hS12⟩, ⟨hS21, hS22⟩, ⟨hS31, hS32⟩⟩ := id hKS
  refine lv_aload_n hx hb dX7_clear_0 rfl (lv_at hl 0 rfl) ?_
  refine lv_iconst (v := 0) hx hb dX7_clear_1 (by decide) ?_
  refine va_put (D := g.1) (ci := 9) (v := .int 0) (ty := .int) (C := RX7) (T := TX7) (N := 40) hx hb hts (by decide +kernel) tyX7 tyX7_ok nmX7 hown hK hP hD hS 0 rfl rfl 0 (by decide) (hts (.fieldLink RX7 71 "LearnedIndexModel" "thrown" "I") (by decide +kernel)) (fun _ h9 => h9) rfl (by decide +kernel) rfl rfl (Nat.le_of_ble_eq_true rfl) dX7_clear_2 (fun H locs hP hD hS => ?_)
  have hP : va_P g.1 vwCl [(h, .inr (9, [.int 0, .int (nI nA), .int (nI nB), .ref ak, .ref av, .ref bk, .ref bv, .ref br, .ref a_s, .ref a_t, .int (nI mS), .ref g1, .ref g2, .ref g3, .long zl1, .long zl2, .long zl3, .long zl4, .int zpb, .ref pa, .ref ru, .ref tx, .int zln, .int zat, .int zrk, .int zrv, .int zre, .int zwr, .int zrm, .int zrs, .int zis, .int zss, .int zsc, .ref dk, .ref dv, .ref ek, .ref ev, .ref er, .ref es, .ref et])), (ak, .inl (g.2.1.1, 152, .inl fk)), (av, .inl (g.2.1.1, 152, .inl fv)), (bk, .inl (g.2.1.1, 24, .inl ck)), (bv, .inl (g.2.1.1, 24, .inl cv)), (br, .inl (g.2.1.1, 24, .inl cr)), (a_s, .inl (g.2.1.1, 4, .inl fS)), (a_t, .inl (g.2.1.1, 5, .inl fT)), (g1, .inl (g.2.1.1, 152, .inl y1)), (g2, .inl (g.2.1.1, 152, .inl y2)), (g3, .inl (g.2.1.1, 152, .inl y3))] H := hP
  have hD : va_D A [(h, .inr (9, [.int 0, .int (nI nA), .int (nI nB), .ref ak, .ref av, .ref bk, .ref bv, .ref br, .ref a_s, .ref a_t, .int (nI mS), .ref g1, .ref g2, .ref g3, .long zl1, .long zl2, .long zl3, .long zl4, .int zpb, .ref pa, .ref ru, .ref tx, .int zln, .int zat, .int zrk, .int zrv, .int zre, .int zwr, .int zrm, .int zrs, .int zis, .int zss, .int zsc, .ref dk, .ref dv, .ref ek, .ref ev, .ref er, .ref es, .ref et])), (ak, .inl (g.2.1.1, 152, .inl fk)), (av, .inl (g.2.1.1, 152, .inl fv)), (bk, .inl (g.2.1.1, 24, .inl ck)), (bv, .inl (g.2.1.1, 24, .inl cv)), (br, .inl (g.2.1.1, 24, .inl cr)), (a_s, .inl (g.2.1.1, 4, .inl fS)), (a_t, .inl (g.2.1.1, 5, .inl fT)), (g1, .inl (g.2.1.1, 152, .inl y1)), (g2, .inl (g.2.1.1, 152, .inl y2)), (g3, .inl (g.2.1.1, 152, .inl y3))] := hD
  refine lv_aload_n hx hb dX7_clear_5 rfl (lv_at hl 0 rfl) ?_
  refine kcalli (wc := [(h, .inr (9, [.int 0, .int (nI nA), .int (nI nB), .ref ak, .ref av, .ref bk, .ref bv, .ref br, .ref a_s, .ref a_t, .int (nI mS), .ref g1, .ref g2, .ref g3, .long zl1, .long zl2, .long zl3, .long zl4, .int zpb, .ref pa, .ref ru, .ref tx, .int zln, .int zat, .int zrk, .int zrv, .int zre, .int zwr, .int zrm, .int zrs, .int zis, .int zss, .int zsc, .ref dk, .ref dv, .ref ek, .ref ev, .ref er, .ref es, .ref et])), (ak, .inl (g.2.1.1, 152, .inl fk)), (av, .inl (g.2.1.1, 152, .inl fv)), (bk, .inl (g.2.1.1, 24, .inl ck)), (bv, .inl (g.2.1.1, 24, .inl cv)), (br, .inl (g.2.1.1, 24, .inl cr))]) [0, 1, 2, 3, 4, 5] (va_runV (C := RX7) (As := []) (rest := []) ⟨hx, hb, hml, hown, hts⟩ ((c_X7_countEntries l g h 0 (nI mS) zl1 zl2 zl3 zl4 zpb zln zat zrk zrv zre zwr zrm zrs zis zss zsc ak av bk bv br a_s a_t g1 g2 g3 pa ru tx dk dv ek ev er es et nA fk fv nB ck cv cr M C hMM) _) (cwV 0 hts gX7_clear_X7_countEntries rfl rfl rfl (by decide +kernel) ⟨Nat.le_of_ble_eq_true rfl, Nat.le_of_ble_eq_true rfl⟩) (kpreV (wc := [(h, .inr (9, [.int 0, .int (nI nA), .int (nI nB), .ref ak, .ref av, .ref bk, .ref bv, .ref br, .ref a_s, .ref a_t, .int (nI mS), .ref g1, .ref g2, .ref g3, .long zl1, .long zl2, .long zl3, .long zl4, .int zpb, .ref pa, .ref ru, .ref tx, .int zln, .int zat, .int zrk, .int zrv, .int zre, .int zwr, .int zrm, .int zrs, .int zis, .int zss, .int zsc, .ref dk, .ref dv, .ref ek, .ref ev, .ref er, .ref es, .ref et])), (ak, .inl (g.2.1.1, 152, .inl fk)), (av, .inl (g.2.1.1, 152, .inl fv)), (bk, .inl (g.2.1.1, 24, .inl ck)), (bv, .inl (g.2.1.1, 24, .inl cv)), (br, .inl (g.2.1.1, 24, .inl cr))]) (ci := 9) hK hP hD hS hA hE [0, 1, 2, 3, 4, 5] rfl rfl rfl rfl) rfl rfl hl.1 rfl (lv_room (Nat.le_of_ble_eq_true rfl)) dX7_clear_6 ⟨Nat.zero_le _, Nat.zero_le _⟩) hP hD hS hA rfl (fun r_1 w_1 H locs hp hP hD hS => ?_)
  obtain ⟨rfl, rfl⟩ := hp
  have hP : va_P g.1 vwCl [(h, .inr (9, [.int 0, .int (nI nA), .int (nI nB), .ref ak, .ref av, .ref bk, .ref bv, .ref br, .ref a_s, .ref a_t, .int (nI mS), .ref g1, .ref g2, .ref g3, .long zl1, .long zl2, .long zl3, .long zl4, .int zpb, .ref pa, .ref ru, .ref tx, .int zln, .int zat, .int zrk, .int zrv, .int zre, .int zwr, .int zrm, .int zrs, .int zis, .int zss, .int zsc, .ref dk, .ref dv, .ref ek, .ref ev, .ref er, .ref es, .ref et])), (ak, .inl (g.2.1.1, 152, .inl fk)), (av, .inl (g.2.1.1, 152, .inl fv)), (bk, .inl (g.2.1.1, 24, .inl ck)), (bv, .inl (g.2.1.1, 24, .inl cv)), (br, .inl (g.2.1.1, 24, .inl cr)), (a_s, .inl (g.2.1.1, 4, .inl fS)), (a_t, .inl (g.2.1.1, 5, .inl fT)), (g1, .inl (g.2.1.1, 152, .inl y1)), (g2, .inl (g.2.1.1, 152, .inl y2)), (g3, .inl (g.2.1.1, 152, .inl y3))] H := hP
  have hD : va_D A [(h, .inr (9, [.int 0, .int (nI nA), .int (nI nB), .ref ak, .ref av, .ref bk, .ref bv, .ref br, .ref a_s, .ref a_t, .int (nI mS), .ref g1, .ref g2, .ref g3, .long zl1, .long zl2, .long zl3, .long zl4, .int zpb, .ref pa, .ref ru, .ref tx, .int zln, .int zat, .int zrk, .int zrv, .int zre, .int zwr, .int zrm, .int zrs, .int zis, .int zss, .int zsc, .ref dk, .ref dv, .ref ek, .ref ev, .ref er, .ref es, .ref et])), (ak, .inl (g.2.1.1, 152, .inl fk)), (av, .inl (g.2.1.1, 152, .inl fv)), (bk, .inl (g.2.1.1, 24, .inl ck)), (bv, .inl (g.2.1.1, 24, .inl cv)), (br, .inl (g.2.1.1, 24, .inl cr)), (a_s, .inl (g.2.1.1, 4, .inl fS)), (a_t, .inl (g.2.1.1, 5, .inl fT)), (g1, .inl (g.2.1.1, 152, .inl y1)), (g2, .inl (g.2.1.1, 152, .inl y2)), (g3, .inl (g.2.1.1, 152, .inl y3))] := hD
  refine lv_istore_n (lv' := [(1, .int (nI (gat M C).length)), (0, .ref h)]) hx hb dX7_clear_9 rfl hl (by decide) rfl (fun ls hl => ?_)
  refine lv_aload_n hx hb dX7_clear_10 rfl (lv_at hl 1 rfl) ?_
  refine lv_iconst (v := 0) hx hb dX7_clear_11 (by decide) ?_
  rw [show (0 : Int32) = nI 0 from rfl]
  refine va_put (D := g.1) (ci := 9) (v := .int (nI 0)) (ty := .int) (C := RX7) (T := TX7) (N := 40) hx hb hts (by decide +kernel) tyX7 tyX7_ok nmX7 hown hK hP hD hS 0 rfl rfl 1 (by decide) (hts (.fieldLink RX7 79 "LearnedIndexModel" "size" "I") (by decide +kernel)) (fun _ h9 => h9) rfl (by decide +kernel) rfl rfl (Nat.le_of_ble_eq_true rfl) dX7_clear_12 (fun H locs hP hD hS => ?_)
  have hP : va_P g.1 vwCl [(h, .inr (9, [.int 0, .int (nI 0), .int (nI nB), .ref ak, .ref av, .ref bk, .ref bv, .ref br, .ref a_s, .ref a_t, .int (nI mS), .ref g1, .ref g2, .ref g3, .long zl1, .long zl2, .long zl3, .long zl4, .int zpb, .ref pa, .ref ru, .ref tx, .int zln, .int zat, .int zrk, .int zrv, .int zre, .int zwr, .int zrm, .int zrs, .int zis, .int zss, .int zsc, .ref dk, .ref dv, .ref ek, .ref ev, .ref er, .ref es, .ref et])), (ak, .inl (g.2.1.1, 152, .inl fk)), (av, .inl (g.2.1.1, 152, .inl fv)), (bk, .inl (g.2.1.1, 24, .inl ck)), (bv, .inl (g.2.1.1, 24, .inl cv)), (br, .inl (g.2.1.1, 24, .inl cr)), (a_s, .inl (g.2.1.1, 4, .inl fS)), (a_t, .inl (g.2.1.1, 5, .inl fT)), (g1, .inl (g.2.1.1, 152, .inl y1)), (g2, .inl (g.2.1.1, 152, .inl y2)), (g3, .inl (g.2.1.1, 152, .inl y3))] H := hP
  have hD : va_D A [(h, .inr (9, [.int 0, .int (nI 0), .int (nI nB), .ref ak, .ref av, .ref bk, .ref bv, .ref br, .ref a_s, .ref a_t, .int (nI mS), .ref g1, .ref g2, .ref g3, .long zl1, .long zl2, .long zl3, .long zl4, .int zpb, .ref pa, .ref ru, .ref tx, .int zln, .int zat, .int zrk, .int zrv, .int zre, .int zwr, .int zrm, .int zrs, .int zis, .int zss, .int zsc, .ref dk, .ref dv, .ref ek, .ref ev, .ref er, .ref es, .ref et])), (ak, .inl (g.2.1.1, 152, .inl fk)), (av, .inl (g.2.1.1, 152, .inl fv)), (bk, .inl (g.2.1.1, 24, .inl ck)), (bv, .inl (g.2.1.1, 24, .inl cv)), (br, .inl (g.2.1.1, 24, .inl cr)), (a_s, .inl (g.2.1.1, 4, .inl fS)), (a_t, .inl (g.2.1.1, 5, .inl fT)), (g1, .inl (g.2.1.1, 152, .inl y1)), (g2, .inl (g.2.1.1, 152, .inl y2)), (g3, .inl (g.2.1.1, 152, .inl y3))] := hD
  refine lv_aload_n hx hb dX7_clear_15 rfl (lv_at hl 1 rfl) ?_
  refine lv_iconst (v := 0) hx hb dX7_clear_16 (by decide) ?_
  rw [show (0 : Int32) = nI 0 from rfl]
  refine va_put (D := g.1) (ci := 9) (v := .int (nI 0)) (ty := .int) (C := RX7) (T := TX7) (N := 40) hx hb hts (by decide +kernel) tyX7 tyX7_ok nmX7 hown hK hP hD hS 0 rfl rfl 2 (by decide) (hts (.fieldLink RX7 82 "LearnedIndexModel" "changes" "I") (by decide +kernel)) (fun _ h9 => h9) rfl (by decide +kernel) rfl rfl (Nat.le_of_ble_eq_true rfl) dX7_clear_17 (fun H locs hP hD hS => ?_)
  have hP : va_P g.1 vwCl [(h, .inr (9, [.int 0, .int (nI 0), .int (nI 0), .ref ak, .ref av, .ref bk, .ref bv, .ref br, .ref a_s, .ref a_t, .int (nI mS), .ref g1, .ref g2, .ref g3, .long zl1, .long zl2, .long zl3, .long zl4, .int zpb, .ref pa, .ref ru, .ref tx, .int zln, .int zat, .int zrk, .int zrv, .int zre, .int zwr, .int zrm, .int zrs, .int zis, .int zss, .int zsc, .ref dk, .ref dv, .ref ek, .ref ev, .ref er, .ref es, .ref et])), (ak, .inl (g.2.1.1, 152, .inl fk)), (av, .inl (g.2.1.1, 152, .inl fv)), (bk, .inl (g.2.1.1, 24, .inl ck)), (bv, .inl (g.2.1.1, 24, .inl cv)), (br, .inl (g.2.1.1, 24, .inl cr)), (a_s, .inl (g.2.1.1, 4, .inl fS)), (a_t, .inl (g.2.1.1, 5, .inl fT)), (g1, .inl (g.2.1.1, 152, .inl y1)), (g2, .inl (g.2.1.1, 152, .inl y2)), (g3, .inl (g.2.1.1, 152, .inl y3))] H := hP
  have hD : va_D A [(h, .inr (9, [.int 0, .int (nI 0), .int (nI 0), .ref ak, .ref av, .ref bk, .ref bv, .ref br, .ref a_s, .ref a_t, .int (nI mS), .ref g1, .ref g2, .ref g3, .long zl1, .long zl2, .long zl3, .long zl4, .int zpb, .ref pa, .ref ru, .ref tx, .int zln, .int zat, .int zrk, .int zrv, .int zre, .int zwr, .int zrm, .int zrs, .int zis, .int zss, .int zsc, .ref dk, .ref dv, .ref ek, .ref ev, .ref er, .ref es, .ref et])), (ak, .inl (g.2.1.1, 152, .inl fk)), (av, .inl (g.2.1.1, 152, .inl fv)), (bk, .inl (g.2.1.1, 24, .inl ck)), (bv, .inl (g.2.1.1, 24, .inl cv)), (br, .inl (g.2.1.1, 24, .inl cr)), (a_s, .inl (g.2.1.1, 4, .inl fS)), (a_t, .inl (g.2.1.1, 5, .inl fT)), (g1, .inl (g.2.1.1, 152, .inl y1)), (g2, .inl (g.2.1.1, 152, .inl y2)), (g3, .inl (g.2.1.1, 152, .inl y3))] := hD
  refine lv_aload_n hx hb dX7_clear_20 rfl (lv_at hl 1 rfl) ?_
  refine lv_iconst (v := 0) hx hb dX7_clear_21 (by decide) ?_
  rw [show (0 : Int32) = nI 0 from rfl]
  refine va_put (D := g.1) (ci := 9) (v := .int (nI 0)) (ty := .int) (C := RX7) (T := TX7) (N := 40) hx hb hts (by decide +kernel) tyX7 tyX7_ok nmX7 hown hK hP hD hS 0 rfl rfl 10 (by decide) (hts (.fieldLink RX7 163 "LearnedIndexModel" "segments" "I") (by decide +kernel)) (fun _ h9 => h9) rfl (by decide +kernel) rfl rfl (Nat.le_of_ble_eq_true rfl) dX7_clear_22 (fun H locs hP hD hS => ?_)
  have hP : va_P g.1 vwCl [(h, .inr (9, [.int 0, .int (nI 0), .int (nI 0), .ref ak, .ref av, .ref bk, .ref bv, .ref br, .ref a_s, .ref a_t, .int (nI 0), .ref g1, .ref g2, .ref g3, .long zl1, .long zl2, .long zl3, .long zl4, .int zpb, .ref pa, .ref ru, .ref tx, .int zln, .int zat, .int zrk, .int zrv, .int zre, .int zwr, .int zrm, .int zrs, .int zis, .int zss, .int zsc, .ref dk, .ref dv, .ref ek, .ref ev, .ref er, .ref es, .ref et])), (ak, .inl (g.2.1.1, 152, .inl fk)), (av, .inl (g.2.1.1, 152, .inl fv)), (bk, .inl (g.2.1.1, 24, .inl ck)), (bv, .inl (g.2.1.1, 24, .inl cv)), (br, .inl (g.2.1.1, 24, .inl cr)), (a_s, .inl (g.2.1.1, 4, .inl fS)), (a_t, .inl (g.2.1.1, 5, .inl fT)), (g1, .inl (g.2.1.1, 152, .inl y1)), (g2, .inl (g.2.1.1, 152, .inl y2)), (g3, .inl (g.2.1.1, 152, .inl y3))] H := hP
  have hD : va_D A [(h, .inr (9, [.int 0, .int (nI 0), .int (nI 0), .ref ak, .ref av, .ref bk, .ref bv, .ref br, .ref a_s, .ref a_t, .int (nI 0), .ref g1, .ref g2, .ref g3, .long zl1, .long zl2, .long zl3, .long zl4, .int zpb, .ref pa, .ref ru, .ref tx, .int zln, .int zat, .int zrk, .int zrv, .int zre, .int zwr, .int zrm, .int zrs, .int zis, .int zss, .int zsc, .ref dk, .ref dv, .ref ek, .ref ev, .ref er, .ref es, .ref et])), (ak, .inl (g.2.1.1, 152, .inl fk)), (av, .inl (g.2.1.1, 152, .inl fv)), (bk, .inl (g.2.1.1, 24, .inl ck)), (bv, .inl (g.2.1.1, 24, .inl cv)), (br, .inl (g.2.1.1, 24, .inl cr)), (a_s, .inl (g.2.1.1, 4, .inl fS)), (a_t, .inl (g.2.1.1, 5, .inl fT)), (g1, .inl (g.2.1.1, 152, .inl y1)), (g2, .inl (g.2.1.1, 152, .inl y2)), (g3, .inl (g.2.1.1, 152, .inl y3))] := hD
  refine lv_iconst (v := 0) hx hb dX7_clear_25 (by decide) ?_
  refine lv_istore_n (lv' := [(2, .int 0), (1, .int (nI (gat M C).length)), (0, .ref h)]) hx hb dX7_clear_26 rfl hl (by decide) rfl (fun ls hl => ?_)
  have L27 : ∀ (n9 : Nat) (i : Nat) (t : Nat → Int32) (H : Heap) (locs : List Loc) (ls : Array Slot), (i ≤ 5) → (∀ j, j < i → t j = 0) → 5 - i < n9 → va_P g.1 vwCl [(h, .inr (9, [.int 0, .int (nI 0), .int (nI 0), .ref ak, .ref av, .ref bk, .ref bv, .ref br, .ref a_s, .ref a_t, .int (nI 0), .ref g1, .ref g2, .ref g3, .long zl1, .long zl2, .long zl3, .long zl4, .int zpb, .ref pa, .ref ru, .ref tx, .int zln, .int zat, .int zrk, .int zrv, .int zre, .int zwr, .int zrm, .int zrs, .int zis, .int zss, .int zsc, .ref dk, .ref dv, .ref ek, .ref ev, .ref er, .ref es, .ref et])), (ak, .inl (g.2.1.1, 152, .inl fk)), (av, .inl (g.2.1.1, 152, .inl fv)), (bk, .inl (g.2.1.1, 24, .inl ck)), (bv, .inl (g.2.1.1, 24, .inl cv)), (br, .inl (g.2.1.1, 24, .inl cr)), (a_s, .inl (g.2.1.1, 4, .inl fS)), (a_t, .inl (g.2.1.1, 5, .inl t)), (g1, .inl (g.2.1.1, 152, .inl y1)), (g2, .inl (g.2.1.1, 152, .inl y2)), (g3, .inl (g.2.1.1, 152, .inl y3))] H → va_D A [(h, .inr (9, [.int 0, .int (nI 0), .int (nI 0), .ref ak, .ref av, .ref bk, .ref bv, .ref br, .ref a_s, .ref a_t, .int (nI 0), .ref g1, .ref g2, .ref g3, .long zl1, .long zl2, .long zl3, .long zl4, .int zpb, .ref pa, .ref ru, .ref tx, .int zln, .int zat, .int zrk, .int zrv, .int zre, .int zwr, .int zrm, .int zrs, .int zis, .int zss, .int zsc, .ref dk, .ref dv, .ref ek, .ref ev, .ref er, .ref es, .ref et])), (ak, .inl (g.2.1.1, 152, .inl fk)), (av, .inl (g.2.1.1, 152, .inl fv)), (bk, .inl (g.2.1.1, 24, .inl ck)), (bv, .inl (g.2.1.1, 24, .inl cv)), (br, .inl (g.2.1.1, 24, .inl cr)), (a_s, .inl (g.2.1.1, 4, .inl fS)), (a_t, .inl (g.2.1.1, 5, .inl t)), (g1, .inl (g.2.1.1, 152, .inl y1)), (g2, .inl (g.2.1.1, 152, .inl y2)), (g3, .inl (g.2.1.1, 152, .inl y3))] → va_S A s.heap H locs → lv_has ls 3 [(2, .int (nI i)), (1, .int (nI (gat M C).length)), (0, .ref h)] → W p l e rm_X7_clear s m ([.ref h] : List Value).toArray below meth cd H locs 0 0 (kQi g 11 A (p_X7_clear g h zth zl1 zl2 zl3 zl4 zpb zln zat zrk zrv zre zwr zrm zrs zis zss zsc ak av bk bv br a_s a_t g1 g2 g3 pa ru tx dk dv ek ev er es et nA fk fv nB ck cv cr fS fT mS y1 y2 y3 M C S T) below ([.ref h] : List Value).toArray s) (F0 m 27 ls []) := by
    intro n9
    induction n9 with
    | zero => intro i t H locs ls hi hz h9; exact absurd h9 (Nat.not_lt_zero _)
    | succ n9 ih27 =>
      intro i t H locs ls hi hz hn27 hP hD hS hl
      refine lv_iload_n hx hb dX7_clear_27 rfl (lv_at hl 0 rfl) ?_
      refine lv_iconst (v := 5) hx hb dX7_clear_28 (by decide) ?_
      refine lv_icmp_ge (tgt := 45) hx hb dX7_clear_29 (by decide) (fun c_29 => ?_) (fun c_29 => ?_)
      · skip
        have hi5 : 5 ≤ i := by rw [show (5 : Int32) = nI 5 from rfl, nI_leI (by decide) (by omega)] at c_29; exact c_29
        have htz : ∀ j, j < 5 → t j = 0 := fun j hj => hz j (by omega)
        refine lv_iload_n hx hb dX7_clear_45 rfl (lv_at hl 1 rfl) ?_
        exact kreti hx hb hRt hlk hK hP hD hS rfl dX7_clear_46 (⟨0, fk, fv, 0, ck, cv, cr, t, 0, y1, y2, y3, zl1, zl2, zl3, zl4, rfl, kMX_clr hS4 hKS htz, rfl⟩)
      · skip
        have hi5 : i < 5 := by rw [show (5 : Int32) = nI 5 from rfl, nI_leI (by decide) (by omega)] at c_29; omega
        refine lv_aload_n hx hb dX7_clear_32 rfl (lv_at hl 2 rfl) ?_
        refine va_get (D := g.1) (ci := 9) (v := .ref a_t) (C := RX7) (T := TX7) (N := 40) hx hb hts (by decide +kernel) hown hK hP 0 rfl rfl 9 (by decide) (hts (.fieldLink RX7 28 "LearnedIndexModel" "counts" "[I") (by decide +kernel)) (fun _ h9 => h9) rfl dX7_clear_33 ?_
        refine lv_iload_n hx hb dX7_clear_36 rfl (lv_at hl 0 rfl) ?_
        refine lv_iconst (v := 0) hx hb dX7_clear_37 (by decide) ?_
        refine va_iast hx hb hK hP hD hS 7 0 rfl rfl (vp_in_nI (show i < 5 by omega) (by omega)) dX7_clear_38 (fun H locs hP hD hS => ?_)
        rw [show (nI i : Int32).toNatClampNeg = i from nI_clamp (n := i) (by omega)] at hP hD
        have hP : va_P g.1 vwCl [(h, .inr (9, [.int 0, .int (nI 0), .int (nI 0), .ref ak, .ref av, .ref bk, .ref bv, .ref br, .ref a_s, .ref a_t, .int (nI 0), .ref g1, .ref g2, .ref g3, .long zl1, .long zl2, .long zl3, .long zl4, .int zpb, .ref pa, .ref ru, .ref tx, .int zln, .int zat, .int zrk, .int zrv, .int zre, .int zwr, .int zrm, .int zrs, .int zis, .int zss, .int zsc, .ref dk, .ref dv, .ref ek, .ref ev, .ref er, .ref es, .ref et])), (ak, .inl (g.2.1.1, 152, .inl fk)), (av, .inl (g.2.1.1, 152, .inl fv)), (bk, .inl (g.2.1.1, 24, .inl ck)), (bv, .inl (g.2.1.1, 24, .inl cv)), (br, .inl (g.2.1.1, 24, .inl cr)), (a_s, .inl (g.2.1.1, 4, .inl fS)), (a_t, .inl (g.2.1.1, 5, .inl (upd t i 0))), (g1, .inl (g.2.1.1, 152, .inl y1)), (g2, .inl (g.2.1.1, 152, .inl y2)), (g3, .inl (g.2.1.1, 152, .inl y3))] H := hP
        have hD : va_D A [(h, .inr (9, [.int 0, .int (nI 0), .int (nI 0), .ref ak, .ref av, .ref bk, .ref bv, .ref br, .ref a_s, .ref a_t, .int (nI 0), .ref g1, .ref g2, .ref g3, .long zl1, .long zl2, .long zl3, .long zl4, .int zpb, .ref pa, .ref ru, .ref tx, .int zln, .int zat, .int zrk, .int zrv, .int zre, .int zwr, .int zrm, .int zrs, .int zis, .int zss, .int zsc, .ref dk, .ref dv, .ref ek, .ref ev, .ref er, .ref es, .ref et])), (ak, .inl (g.2.1.1, 152, .inl fk)), (av, .inl (g.2.1.1, 152, .inl fv)), (bk, .inl (g.2.1.1, 24, .inl ck)), (bv, .inl (g.2.1.1, 24, .inl cv)), (br, .inl (g.2.1.1, 24, .inl cr)), (a_s, .inl (g.2.1.1, 4, .inl fS)), (a_t, .inl (g.2.1.1, 5, .inl (upd t i 0))), (g1, .inl (g.2.1.1, 152, .inl y1)), (g2, .inl (g.2.1.1, 152, .inl y2)), (g3, .inl (g.2.1.1, 152, .inl y3))] := hD
        refine lv_iinc (v := nI (i + 1)) (lv' := [(2, .int (nI (i + 1))), (1, .int (nI (gat M C).length)), (0, .ref h)]) hx hb dX7_clear_39 hl (k := 0) rfl (nI_1 i) (by decide) rfl (fun ls hl => ?_)
        refine lv_goto (tgt := 27) hx hb dX7_clear_42 (by decide) ?_
        exact ih27 (i + 1) (upd t i 0) _ _ ls hi5 (by intro j hj; simp only [upd]; split; rfl; exact hz j (by omega)) (by omega) hP hD hS (lv_sub hl [0, 1, 2] rfl)
  exact L27 _ 0 fT _ _ ls (Nat.zero_le _) (fun j hj => absurd hj (Nat.not_lt_zero _)) (Nat.lt_succ_self _) hP hD hS (lv_sub hl [0, 1, 2] rfl)
set_option maxRecDepth 20000 in
theorem ggX7_merge_X7_mergeAll : GoodIn wsX7_merge wsX7_mergeAll := goodIn_ca (goodIn_ca (goodIn_r _ [7, 2, 8, 9, 10, 11, 12, 13, 14, 15, 16, 6, 17, 18, 19, 20, 21, 22, 23, 24, 25, 26, 27, 28, 29, 30, 31, 32, 33, 34, 35, 36, 37, 38, 39, 40, 41, 42, 43, 44, 45, 46, 47, 48, 49, 50, 51, 52, 53, 54, 55, 56, 57, 58, 59, 60, 61, 62, 63, 64, 65, 66, 67, 68, 69, 70, 71, 72, 73, 74, 75, 76, 77, 78, 79, 80, 81, 82, 83, 84, 85, 86, 87, 88, 89, 90, 91, 92, 93, 94] (by decide +kernel) (by decide +kernel)) (goodIn_sub (fun _ h => List.mem_cons_of_mem _ (List.mem_append_left _ (List.mem_append_right _ h))) (by decide +kernel))) (goodIn_sub (fun _ h => List.mem_cons_of_mem _ (List.mem_append_right _ h)) (by decide +kernel))
set_option maxRecDepth 20000 in
theorem gX7_merge_X7_mergeAll : GoodIn wsX7_merge (wsV RX7 103 RX7 yX7_mergeAll wsX7_mergeAll) := goodIn_app (goodIn_of _ (by decide +kernel)) ggX7_merge_X7_mergeAll
theorem dX7_merge_0 : decode cX7_merge 0 = .ok (.aload_n 0, 1) := by decide +kernel
theorem dX7_merge_1 : decode cX7_merge 1 = .ok (.iconst 0, 1) := by decide +kernel
theorem dX7_merge_2 : decode cX7_merge 2 = .ok (.putfield 71, 3) := by decide +kernel
theorem dX7_merge_5 : decode cX7_merge 5 = .ok (.aload_n 0, 1) := by decide +kernel
theorem dX7_merge_6 : decode cX7_merge 6 = .ok (.getfield 82, 3) := by decide +kernel
theorem dX7_merge_9 : decode cX7_merge 9 = .ok (.istore_n 1, 1) := by decide +kernel
theorem dX7_merge_10 : decode cX7_merge 10 = .ok (.aload_n 0, 1) := by decide +kernel
theorem dX7_merge_11 : decode cX7_merge 11 = .ok (.invokevirtual 103, 3) := by decide +kernel
theorem dX7_merge_14 : decode cX7_merge 14 = .ok (.iload_n 1, 1) := by decide +kernel
theorem dX7_merge_15 : decode cX7_merge 15 = .ok (.ireturn, 1) := by decide +kernel
def rm_X7_merge : Room := { frames := 69, cells := 0, slots := 0, locals := 1453 }
abbrev p_X7_merge (g : kG) (h : Nat) (zth : Int32) (zl1 : Int64) (zl2 : Int64) (zl3 : Int64) (zl4 : Int64) (zpb : Int32) (zln : Int32) (zat : Int32) (zrk : Int32) (zrv : Int32) (zre : Int32) (zwr : Int32) (zrm : Int32) (zrs : Int32) (zis : Int32) (zss : Int32) (zsc : Int32) (ak : Nat) (av : Nat) (bk : Nat) (bv : Nat) (br : Nat) (a_s : Nat) (a_t : Nat) (g1 : Nat) (g2 : Nat) (g3 : Nat) (pa : Nat) (ru : Nat) (tx : Nat) (dk : Nat) (dv : Nat) (ek : Nat) (ev : Nat) (er : Nat) (es : Nat) (et : Nat) (nA : Nat) (fk : Nat → Int32) (fv : Nat → Int32) (nB : Nat) (ck : Nat → Int32) (cv : Nat → Int32) (cr : Nat → Int32) (fS : Nat → Int32) (fT : Nat → Int32) (mS : Nat) (y1 : Nat → Int32) (y2 : Nat → Int32) (y3 : Nat → Int32) (M : List kE3) (C : List kE3) (S : Nat → Int32) (T : Nat → Int32) : Int32 → va_W → Prop := fun r w1 => ∃ (n2 : Nat), ∃ (fk2 : Nat → Int32), ∃ (fv2 : Nat → Int32), ∃ (c2 : Nat), ∃ (ck2 : Nat → Int32), ∃ (cv2 : Nat → Int32), ∃ (cr2 : Nat → Int32), ∃ (t2 : Nat → Int32), ∃ (m2 : Nat), ∃ (x1 : Nat → Int32), ∃ (x2 : Nat → Int32), ∃ (x3 : Nat → Int32), ∃ (l1x : Int64), ∃ (l2x : Int64), ∃ (l3x : Int64), ∃ (l4x : Int64), r = nI C.length ∧ (kMX n2 fk2 fv2 c2 ck2 cv2 cr2 fS t2 m2 x1 x2 x3 (gat M C) [] S (mrgT T)) ∧ w1 = [(h, .inr (9, [.int 0, .int (nI n2), .int (nI c2), .ref ak, .ref av, .ref bk, .ref bv, .ref br, .ref a_s, .ref a_t, .int (nI m2), .ref g1, .ref g2, .ref g3, .long l1x, .long l2x, .long l3x, .long l4x, .int zpb, .ref pa, .ref ru, .ref tx, .int zln, .int zat, .int zrk, .int zrv, .int zre, .int zwr, .int zrm, .int zrs, .int zis, .int zss, .int zsc, .ref dk, .ref dv, .ref ek, .ref ev, .ref er, .ref es, .ref et])), (ak, .inl (g.2.1.1, 152, .inl fk2)), (av, .inl (g.2.1.1, 152, .inl fv2)), (bk, .inl (g.2.1.1, 24, .inl ck2)), (bv, .inl (g.2.1.1, 24, .inl cv2)), (br, .inl (g.2.1.1, 24, .inl cr2)), (a_s, .inl (g.2.1.1, 4, .inl fS)), (a_t, .inl (g.2.1.1, 5, .inl t2)), (g1, .inl (g.2.1.1, 152, .inl x1)), (g2, .inl (g.2.1.1, 152, .inl x2)), (g3, .inl (g.2.1.1, 152, .inl x3))]
set_option maxHeartbeats 4000000 in
set_option maxRecDepth 100000 in
theorem c_X7_merge (l : Launch) (g : kG) (h : Nat) (zth : Int32) (zl1 : Int64) (zl2 : Int64) (zl3 : Int64) (zl4 : Int64) (zpb : Int32) (zln : Int32) (zat : Int32) (zrk : Int32) (zrv : Int32) (zre : Int32) (zwr : Int32) (zrm : Int32) (zrs : Int32) (zis : Int32) (zss : Int32) (zsc : Int32) (ak : Nat) (av : Nat) (bk : Nat) (bv : Nat) (br : Nat) (a_s : Nat) (a_t : Nat) (g1 : Nat) (g2 : Nat) (g3 : Nat) (pa : Nat) (ru : Nat) (tx : Nat) (dk : Nat) (dv : Nat) (ek : Nat) (ev : Nat) (er : Nat) (es : Nat) (et : Nat) (nA : Nat) (fk : Nat → Int32) (fv : Nat → Int32) (nB : Nat) (ck : Nat → Int32) (cv : Nat → Int32) (cr : Nat → Int32) (fS : Nat → Int32) (fT : Nat → Int32) (mS : Nat) (y1 : Nat → Int32) (y2 : Nat → Int32) (y3 : Nat → Int32) (M : List kE3) (C : List kE3) (S : Nat → Int32) (T : Nat → Int32) (hMX : kMX nA fk fv nB ck cv cr fS fT mS y1 y2 y3 M C S T) : KI l yX7_merge wsX7_merge rm_X7_merge g [.ref h] [(h, .inr (9, [.int zth, .int (nI nA), .int (nI nB), .ref ak, .ref av, .ref bk, .ref bv, .ref br, .ref a_s, .ref a_t, .int (nI mS), .ref g1, .ref g2, .ref g3, .long zl1, .long zl2, .long zl3, .long zl4, .int zpb, .ref pa, .ref ru, .ref tx, .int zln, .int zat, .int zrk, .int zrv, .int zre, .int zwr, .int zrm, .int zrs, .int zis, .int zss, .int zsc, .ref dk, .ref dv, .ref ek, .ref ev, .ref er, .ref es, .ref et])), (ak, .inl (g.2.1.1, 152, .inl fk)), (av, .inl (g.2.1.1, 152, .inl fv)), (bk, .inl (g.2.1.1, 24, .inl ck)), (bv, .inl (g.2.1.1, 24, .inl cv)), (br, .inl (g.2.1.1, 24, .inl cr)), (a_s, .inl (g.2.1.1, 4, .inl fS)), (a_t, .inl (g.2.1.1, 5, .inl fT)), (g1, .inl (g.2.1.1, 152, .inl y1)), (g2, .inl (g.2.1.1, 152, .inl y2)), (g3, .inl (g.2.1.1, 152, .inl y3))] (p_X7_merge g h zth zl1 zl2 zl3 zl4 zpb zln zat zrk zrv zre zwr zrm zrs zis zss zsc ak av bk bv br a_s a_t g1 g2 g3 pa ru tx dk dv ek ev er es et nA fk fv nB ck cv cr fS fT mS y1 y2 y3 M C S T) := by
  refine kbodyI (cc := cX7_merge) (n := 2) (k := 11) (own := RX7) (plainFor_of_name (by decide)) rfl rfl rfl rfl ?_
  intro p e s m below meth cd A ls hcx
  obtain ⟨hx, hb, hRt, hml, hts, hown, hlk, hA, hP, hK, hD, hE, hS, hl⟩ := hcx
  have hl : lv_has ls 2 [(0, .ref h)] := hl
  obtain ⟨hMM, hS4, hT5, hKS, hSGm⟩ := id hMX
  obtain ⟨⟨hM, hC⟩, ⟨hnM, hnC⟩, ⟨hIM, hIC⟩, hlen, hrem⟩ := id hMM
  have hsM : kSo (EL nA fk fv fz0) := by rw [hM]; exact hIM.1
  have hsC : kSo (EL nB ck cv cr) := by rw [hC]; exact hIC.1
  have hnl : nA = M.length := by rw [← hM, EL_len]
  have hcl : nB = C.length := by rw [← hC, EL_len]
  obtain ⟨⟨hS01, hS02⟩, ⟨hS11, hS12⟩, ⟨hS21, hS22⟩, ⟨hS31, hS32⟩⟩ := id hKS
  refine lv_aload_n hx hb dX7_merge_0 rfl (lv_at hl 0 rfl) ?_
  refine lv_iconst (v := 0) hx hb dX7_merge_1 (by decide) ?_
  refine va_put (D := g.1) (ci := 9) (v := .int 0) (ty := .int) (C := RX7) (T := TX7) (N := 40) hx hb hts (by decide +kernel) tyX7 tyX7_ok nmX7 hown hK hP hD hS 0 rfl rfl 0 (by decide) (hts (.fieldLink RX7 71 "LearnedIndexModel" "thrown" "I") (by decide +kernel)) (fun _ h9 => h9) rfl (by decide +kernel) rfl rfl (Nat.le_of_ble_eq_true rfl) dX7_merge_2 (fun H locs hP hD hS => ?_)
  have hP : va_P g.1 vwCl [(h, .inr (9, [.int 0, .int (nI nA), .int (nI nB), .ref ak, .ref av, .ref bk, .ref bv, .ref br, .ref a_s, .ref a_t, .int (nI mS), .ref g1, .ref g2, .ref g3, .long zl1, .long zl2, .long zl3, .long zl4, .int zpb, .ref pa, .ref ru, .ref tx, .int zln, .int zat, .int zrk, .int zrv, .int zre, .int zwr, .int zrm, .int zrs, .int zis, .int zss, .int zsc, .ref dk, .ref dv, .ref ek, .ref ev, .ref er, .ref es, .ref et])), (ak, .inl (g.2.1.1, 152, .inl fk)), (av, .inl (g.2.1.1, 152, .inl fv)), (bk, .inl (g.2.1.1, 24, .inl ck)), (bv, .inl (g.2.1.1, 24, .inl cv)), (br, .inl (g.2.1.1, 24, .inl cr)), (a_s, .inl (g.2.1.1, 4, .inl fS)), (a_t, .inl (g.2.1.1, 5, .inl fT)), (g1, .inl (g.2.1.1, 152, .inl y1)), (g2, .inl (g.2.1.1, 152, .inl y2)), (g3, .inl (g.2.1.1, 152, .inl y3))] H := hP
  have hD : va_D A [(h, .inr (9, [.int 0, .int (nI nA), .int (nI nB), .ref ak, .ref av, .ref bk, .ref bv, .ref br, .ref a_s, .ref a_t, .int (nI mS), .ref g1, .ref g2, .ref g3, .long zl1, .long zl2, .long zl3, .long zl4, .int zpb, .ref pa, .ref ru, .ref tx, .int zln, .int zat, .int zrk, .int zrv, .int zre, .int zwr, .int zrm, .int zrs, .int zis, .int zss, .int zsc, .ref dk, .ref dv, .ref ek, .ref ev, .ref er, .ref es, .ref et])), (ak, .inl (g.2.1.1, 152, .inl fk)), (av, .inl (g.2.1.1, 152, .inl fv)), (bk, .inl (g.2.1.1, 24, .inl ck)), (bv, .inl (g.2.1.1, 24, .inl cv)), (br, .inl (g.2.1.1, 24, .inl cr)), (a_s, .inl (g.2.1.1, 4, .inl fS)), (a_t, .inl (g.2.1.1, 5, .inl fT)), (g1, .inl (g.2.1.1, 152, .inl y1)), (g2, .inl (g.2.1.1, 152, .inl y2)), (g3, .inl (g.2.1.1, 152, .inl y3))] := hD
  refine lv_aload_n hx hb dX7_merge_5 rfl (lv_at hl 0 rfl) ?_
  refine va_get (D := g.1) (ci := 9) (v := .int (nI nB)) (C := RX7) (T := TX7) (N := 40) hx hb hts (by decide +kernel) hown hK hP 0 rfl rfl 2 (by decide) (hts (.fieldLink RX7 82 "LearnedIndexModel" "changes" "I") (by decide +kernel)) (fun _ h9 => h9) rfl dX7_merge_6 ?_
  refine lv_istore_n (lv' := [(1, .int (nI nB)), (0, .ref h)]) hx hb dX7_merge_9 rfl hl (by decide) rfl (fun ls hl => ?_)
  refine lv_aload_n hx hb dX7_merge_10 rfl (lv_at hl 1 rfl) ?_
  refine kcallv (wc := [(h, .inr (9, [.int 0, .int (nI nA), .int (nI nB), .ref ak, .ref av, .ref bk, .ref bv, .ref br, .ref a_s, .ref a_t, .int (nI mS), .ref g1, .ref g2, .ref g3, .long zl1, .long zl2, .long zl3, .long zl4, .int zpb, .ref pa, .ref ru, .ref tx, .int zln, .int zat, .int zrk, .int zrv, .int zre, .int zwr, .int zrm, .int zrs, .int zis, .int zss, .int zsc, .ref dk, .ref dv, .ref ek, .ref ev, .ref er, .ref es, .ref et])), (ak, .inl (g.2.1.1, 152, .inl fk)), (av, .inl (g.2.1.1, 152, .inl fv)), (bk, .inl (g.2.1.1, 24, .inl ck)), (bv, .inl (g.2.1.1, 24, .inl cv)), (br, .inl (g.2.1.1, 24, .inl cr)), (a_s, .inl (g.2.1.1, 4, .inl fS)), (a_t, .inl (g.2.1.1, 5, .inl fT)), (g1, .inl (g.2.1.1, 152, .inl y1)), (g2, .inl (g.2.1.1, 152, .inl y2)), (g3, .inl (g.2.1.1, 152, .inl y3))]) [0, 1, 2, 3, 4, 5, 6, 7, 8, 9, 10] (va_runV (C := RX7) (As := []) (rest := []) ⟨hx, hb, hml, hown, hts⟩ ((c_X7_mergeAll l g h 0 zl1 zl2 zl3 zl4 zpb zln zat zrk zrv zre zwr zrm zrs zis zss zsc ak av bk bv br a_s a_t g1 g2 g3 pa ru tx dk dv ek ev er es et nA fk fv nB ck cv cr fS fT mS y1 y2 y3 M C S T hMX) _) (cwV 0 hts gX7_merge_X7_mergeAll rfl rfl rfl (by decide +kernel) ⟨Nat.le_of_ble_eq_true rfl, Nat.le_of_ble_eq_true rfl⟩) (kpreV (wc := [(h, .inr (9, [.int 0, .int (nI nA), .int (nI nB), .ref ak, .ref av, .ref bk, .ref bv, .ref br, .ref a_s, .ref a_t, .int (nI mS), .ref g1, .ref g2, .ref g3, .long zl1, .long zl2, .long zl3, .long zl4, .int zpb, .ref pa, .ref ru, .ref tx, .int zln, .int zat, .int zrk, .int zrv, .int zre, .int zwr, .int zrm, .int zrs, .int zis, .int zss, .int zsc, .ref dk, .ref dv, .ref ek, .ref ev, .ref er, .ref es, .ref et])), (ak, .inl (g.2.1.1, 152, .inl fk)), (av, .inl (g.2.1.1, 152, .inl fv)), (bk, .inl (g.2.1.1, 24, .inl ck)), (bv, .inl (g.2.1.1, 24, .inl cv)), (br, .inl (g.2.1.1, 24, .inl cr)), (a_s, .inl (g.2.1.1, 4, .inl fS)), (a_t, .inl (g.2.1.1, 5, .inl fT)), (g1, .inl (g.2.1.1, 152, .inl y1)), (g2, .inl (g.2.1.1, 152, .inl y2)), (g3, .inl (g.2.1.1, 152, .inl y3))]) (ci := 9) hK hP hD hS hA hE [0, 1, 2, 3, 4, 5, 6, 7, 8, 9, 10] rfl rfl rfl rfl) rfl rfl hl.1 rfl (lv_room (Nat.le_of_ble_eq_true rfl)) dX7_merge_11 ⟨Nat.zero_le _, Nat.zero_le _⟩) hP hD hS hA rfl (fun w_1 H locs hp hP hD hS => ?_)
  obtain ⟨n2, fk2, fv2, c2, ck2, cv2, cr2, t2, m2, x1, x2, x3, l1x, l2x, l3x, l4x, hX2, rfl⟩ := hp
  have hP : va_P g.1 vwCl [(h, .inr (9, [.int 0, .int (nI n2), .int (nI c2), .ref ak, .ref av, .ref bk, .ref bv, .ref br, .ref a_s, .ref a_t, .int (nI m2), .ref g1, .ref g2, .ref g3, .long l1x, .long l2x, .long l3x, .long l4x, .int zpb, .ref pa, .ref ru, .ref tx, .int zln, .int zat, .int zrk, .int zrv, .int zre, .int zwr, .int zrm, .int zrs, .int zis, .int zss, .int zsc, .ref dk, .ref dv, .ref ek, .ref ev, .ref er, .ref es, .ref et])), (ak, .inl (g.2.1.1, 152, .inl fk2)), (av, .inl (g.2.1.1, 152, .inl fv2)), (bk, .inl (g.2.1.1, 24, .inl ck2)), (bv, .inl (g.2.1.1, 24, .inl cv2)), (br, .inl (g.2.1.1, 24, .inl cr2)), (a_s, .inl (g.2.1.1, 4, .inl fS)), (a_t, .inl (g.2.1.1, 5, .inl t2)), (g1, .inl (g.2.1.1, 152, .inl x1)), (g2, .inl (g.2.1.1, 152, .inl x2)), (g3, .inl (g.2.1.1, 152, .inl x3))] H := hP
  have hD : va_D A [(h, .inr (9, [.int 0, .int (nI n2), .int (nI c2), .ref ak, .ref av, .ref bk, .ref bv, .ref br, .ref a_s, .ref a_t, .int (nI m2), .ref g1, .ref g2, .ref g3, .long l1x, .long l2x, .long l3x, .long l4x, .int zpb, .ref pa, .ref ru, .ref tx, .int zln, .int zat, .int zrk, .int zrv, .int zre, .int zwr, .int zrm, .int zrs, .int zis, .int zss, .int zsc, .ref dk, .ref dv, .ref ek, .ref ev, .ref er, .ref es, .ref et])), (ak, .inl (g.2.1.1, 152, .inl fk2)), (av, .inl (g.2.1.1, 152, .inl fv2)), (bk, .inl (g.2.1.1, 24, .inl ck2)), (bv, .inl (g.2.1.1, 24, .inl cv2)), (br, .inl (g.2.1.1, 24, .inl cr2)), (a_s, .inl (g.2.1.1, 4, .inl fS)), (a_t, .inl (g.2.1.1, 5, .inl t2)), (g1, .inl (g.2.1.1, 152, .inl x1)), (g2, .inl (g.2.1.1, 152, .inl x2)), (g3, .inl (g.2.1.1, 152, .inl x3))] := hD
  refine lv_iload_n hx hb dX7_merge_14 rfl (lv_at hl 0 rfl) ?_
  exact kreti hx hb hRt hlk hK hP hD hS rfl dX7_merge_15 (⟨n2, fk2, fv2, c2, ck2, cv2, cr2, t2, m2, x1, x2, x3, l1x, l2x, l3x, l4x, by rw [hcl], hX2, rfl⟩)
set_option maxRecDepth 20000 in
theorem ggX7_main_X7_isBetween : GoodIn wsX7_main wsX7_isBetween := goodIn_r _ [7] (by decide +kernel) (by decide +kernel)
set_option maxRecDepth 20000 in
theorem gX7_main_X7_isBetween : GoodIn wsX7_main (va_wsS RX7 75 yX7_isBetween wsX7_isBetween) := goodIn_app (goodIn_of _ (by decide +kernel)) ggX7_main_X7_isBetween
set_option maxRecDepth 20000 in
theorem ggX7_main_X7_fails : GoodIn wsX7_main wsX7_fails := goodIn_r _ [11, 12, 13, 14, 15, 16, 17, 18, 19, 20, 21, 22, 23, 24, 25, 26, 27, 28, 29, 30, 31, 32, 33, 34, 35, 36, 37, 38, 39, 40, 41, 42, 43, 44, 45, 46, 47, 48, 49, 50, 51, 52] (by decide +kernel) (by decide +kernel)
set_option maxRecDepth 20000 in
theorem gX7_main_X7_fails : GoodIn wsX7_main (wsV RX7 120 RX7 yX7_fails wsX7_fails) := goodIn_app (goodIn_of _ (by decide +kernel)) ggX7_main_X7_fails
theorem dX7_main_0 : decode cX7_main 0 = .ok (.aload_n 0, 1) := by decide +kernel
theorem dX7_main_1 : decode cX7_main 1 = .ok (.iconst 1, 1) := by decide +kernel
theorem dX7_main_2 : decode cX7_main 2 = .ok (.iload_n 1, 1) := by decide +kernel
theorem dX7_main_3 : decode cX7_main 3 = .ok (.iconst 0, 1) := by decide +kernel
theorem dX7_main_4 : decode cX7_main 4 = .ok (.aload_n 0, 1) := by decide +kernel
theorem dX7_main_5 : decode cX7_main 5 = .ok (.getfield 79, 3) := by decide +kernel
theorem dX7_main_8 : decode cX7_main 8 = .ok (.iconst 1, 1) := by decide +kernel
theorem dX7_main_9 : decode cX7_main 9 = .ok (.isub, 1) := by decide +kernel
theorem dX7_main_10 : decode cX7_main 10 = .ok (.invokestatic 75, 3) := by decide +kernel
theorem dX7_main_13 : decode cX7_main 13 = .ok (.ifCond .ne 7, 3) := by decide +kernel
theorem dX7_main_16 : decode cX7_main 16 = .ok (.iconst 1, 1) := by decide +kernel
theorem dX7_main_17 : decode cX7_main 17 = .ok (.goto 4, 3) := by decide +kernel
theorem dX7_main_20 : decode cX7_main 20 = .ok (.iconst 0, 1) := by decide +kernel
theorem dX7_main_21 : decode cX7_main 21 = .ok (.invokevirtual 120, 3) := by decide +kernel
theorem dX7_main_24 : decode cX7_main 24 = .ok (.ifCond .eq 5, 3) := by decide +kernel
theorem dX7_main_27 : decode cX7_main 27 = .ok (.iconst 0, 1) := by decide +kernel
theorem dX7_main_28 : decode cX7_main 28 = .ok (.ireturn, 1) := by decide +kernel
theorem dX7_main_29 : decode cX7_main 29 = .ok (.iload_n 2, 1) := by decide +kernel
theorem dX7_main_30 : decode cX7_main 30 = .ok (.ifCond .eq 12, 3) := by decide +kernel
theorem dX7_main_33 : decode cX7_main 33 = .ok (.aload_n 0, 1) := by decide +kernel
theorem dX7_main_34 : decode cX7_main 34 = .ok (.getfield 13, 3) := by decide +kernel
theorem dX7_main_37 : decode cX7_main 37 = .ok (.iload_n 1, 1) := by decide +kernel
theorem dX7_main_38 : decode cX7_main 38 = .ok (.iaload, 1) := by decide +kernel
theorem dX7_main_39 : decode cX7_main 39 = .ok (.goto 9, 3) := by decide +kernel
theorem dX7_main_42 : decode cX7_main 42 = .ok (.aload_n 0, 1) := by decide +kernel
theorem dX7_main_43 : decode cX7_main 43 = .ok (.getfield 9, 3) := by decide +kernel
theorem dX7_main_46 : decode cX7_main 46 = .ok (.iload_n 1, 1) := by decide +kernel
theorem dX7_main_47 : decode cX7_main 47 = .ok (.iaload, 1) := by decide +kernel
theorem dX7_main_48 : decode cX7_main 48 = .ok (.ireturn, 1) := by decide +kernel
def rm_X7_main : Room := { frames := 1, cells := 0, slots := 0, locals := 22 }
abbrev p_X7_main (g : kG) (h : Nat) (zth : Int32) (zsg : Int32) (zl1 : Int64) (zl2 : Int64) (zl3 : Int64) (zl4 : Int64) (zpb : Int32) (zln : Int32) (zat : Int32) (zrk : Int32) (zrv : Int32) (zre : Int32) (zwr : Int32) (zrm : Int32) (zrs : Int32) (zis : Int32) (zss : Int32) (zsc : Int32) (ak : Nat) (av : Nat) (bk : Nat) (bv : Nat) (br : Nat) (a_s : Nat) (a_t : Nat) (g1 : Nat) (g2 : Nat) (g3 : Nat) (pa : Nat) (ru : Nat) (tx : Nat) (dk : Nat) (dv : Nat) (ek : Nat) (ev : Nat) (er : Nat) (es : Nat) (et : Nat) (nA : Nat) (fk : Nat → Int32) (fv : Nat → Int32) (nB : Nat) (ck : Nat → Int32) (cv : Nat → Int32) (cr : Nat → Int32) (M : List kE3) (C : List kE3) (y : Int32) (b : Int32) : Int32 → va_W → Prop := fun r w1 => r = (if (manK M y) = 0 then manV M y b else 0) ∧ w1 = [(h, .inr (9, [.int (manK M y), .int (nI nA), .int (nI nB), .ref ak, .ref av, .ref bk, .ref bv, .ref br, .ref a_s, .ref a_t, .int zsg, .ref g1, .ref g2, .ref g3, .long zl1, .long zl2, .long zl3, .long zl4, .int zpb, .ref pa, .ref ru, .ref tx, .int zln, .int zat, .int zrk, .int zrv, .int zre, .int zwr, .int zrm, .int zrs, .int zis, .int zss, .int zsc, .ref dk, .ref dv, .ref ek, .ref ev, .ref er, .ref es, .ref et])), (ak, .inl (g.2.1.1, 152, .inl fk)), (av, .inl (g.2.1.1, 152, .inl fv)), (bk, .inl (g.2.1.1, 24, .inl ck)), (bv, .inl (g.2.1.1, 24, .inl cv)), (br, .inl (g.2.1.1, 24, .inl cr))]
set_option maxHeartbeats 4000000 in
set_option maxRecDepth 100000 in
theorem c_X7_main (l : Launch) (g : kG) (h : Nat) (zth : Int32) (zsg : Int32) (zl1 : Int64) (zl2 : Int64) (zl3 : Int64) (zl4 : Int64) (zpb : Int32) (zln : Int32) (zat : Int32) (zrk : Int32) (zrv : Int32) (zre : Int32) (zwr : Int32) (zrm : Int32) (zrs : Int32) (zis : Int32) (zss : Int32) (zsc : Int32) (ak : Nat) (av : Nat) (bk : Nat) (bv : Nat) (br : Nat) (a_s : Nat) (a_t : Nat) (g1 : Nat) (g2 : Nat) (g3 : Nat) (pa : Nat) (ru : Nat) (tx : Nat) (dk : Nat) (dv : Nat) (ek : Nat) (ev : Nat) (er : Nat) (es : Nat) (et : Nat) (nA : Nat) (fk : Nat → Int32) (fv : Nat → Int32) (nB : Nat) (ck : Nat → Int32) (cv : Nat → Int32) (cr : Nat → Int32) (M : List kE3) (C : List kE3) (y : Int32) (b : Int32) (hMM : kMM nA fk fv nB ck cv cr M C) : KI l yX7_main wsX7_main rm_X7_main g [.ref h, .int y, .int b] [(h, .inr (9, [.int zth, .int (nI nA), .int (nI nB), .ref ak, .ref av, .ref bk, .ref bv, .ref br, .ref a_s, .ref a_t, .int zsg, .ref g1, .ref g2, .ref g3, .long zl1, .long zl2, .long zl3, .long zl4, .int zpb, .ref pa, .ref ru, .ref tx, .int zln, .int zat, .int zrk, .int zrv, .int zre, .int zwr, .int zrm, .int zrs, .int zis, .int zss, .int zsc, .ref dk, .ref dv, .ref ek, .ref ev, .ref er, .ref es, .ref et])), (ak, .inl (g.2.1.1, 152, .inl fk)), (av, .inl (g.2.1.1, 152, .inl fv)), (bk, .inl (g.2.1.1, 24, .inl ck)), (bv, .inl (g.2.1.1, 24, .inl cv)), (br, .inl (g.2.1.1, 24, .inl cr))] (p_X7_main g h zth zsg zl1 zl2 zl3 zl4 zpb zln zat zrk zrv zre zwr zrm zrs zis zss zsc ak av bk bv br a_s a_t g1 g2 g3 pa ru tx dk dv ek ev er es et nA fk fv nB ck cv cr M C y b) := by
  refine kbodyI (cc := cX7_main) (n := 3) (k := 6) (own := RX7) (plainFor_of_name (by decide)) rfl rfl rfl rfl ?_
  intro p e s m below meth cd A ls hcx
  obtain ⟨hx, hb, hRt, hml, hts, hown, hlk, hA, hP, hK, hD, hE, hS, hl⟩ := hcx
  have hl : lv_has ls 3 [(0, .ref h), (1, .int y), (2, .int b)] := hl
  obtain ⟨⟨hM, hC⟩, ⟨hnM, hnC⟩, ⟨hIM, hIC⟩, hlen, hrem⟩ := id hMM
  have hsM : kSo (EL nA fk fv fz0) := by rw [hM]; exact hIM.1
  have hsC : kSo (EL nB ck cv cr) := by rw [hC]; exact hIC.1
  have hnl : nA = M.length := by rw [← hM, EL_len]
  have hcl : nB = C.length := by rw [← hC, EL_len]
  refine lv_aload_n hx hb dX7_main_0 rfl (lv_at hl 0 rfl) ?_
  refine lv_iconst (v := 1) hx hb dX7_main_1 (by decide) ?_
  refine lv_iload_n hx hb dX7_main_2 rfl (lv_at hl 1 rfl) ?_
  refine lv_iconst (v := 0) hx hb dX7_main_3 (by decide) ?_
  refine lv_aload_n hx hb dX7_main_4 rfl (lv_at hl 0 rfl) ?_
  refine va_get (D := g.1) (ci := 9) (v := .int (nI nA)) (C := RX7) (T := TX7) (N := 40) hx hb hts (by decide +kernel) hown hK hP 0 rfl rfl 1 (by decide) (hts (.fieldLink RX7 79 "LearnedIndexModel" "size" "I") (by decide +kernel)) (fun _ h9 => h9) rfl dX7_main_5 ?_
  refine lv_iconst (v := 1) hx hb dX7_main_8 (by decide) ?_
  refine lv_isub hx hb dX7_main_9 ?_
  rw [show ((nI nA) - 1 : Int32) = kH nA from kH_sub _]
  refine kcalli (wc := []) [] (va_runS (As := [.int y, .int 0, .int (kH nA)]) (rest := [.int 1, .ref h]) ⟨hx, hb, hml, hown, hts⟩ ((c_X7_isBetween l g y 0 (kH nA)) _) (va_cwS 3 hts gX7_main_X7_isBetween rfl rfl rfl (by decide +kernel) ⟨Nat.le_of_ble_eq_true rfl, Nat.le_of_ble_eq_true rfl⟩) (kpreS (wc := []) hK hP hD hS hA hE [] rfl rfl) rfl rfl hl.1 rfl (lv_room (Nat.le_of_ble_eq_true rfl)) dX7_main_10 ⟨Nat.zero_le _, Nat.zero_le _⟩) hP hD hS hA rfl (fun r_1 w_1 H locs hp hP hD hS => ?_)
  obtain ⟨rfl, rfl⟩ := hp
  have hP : va_P g.1 vwCl [(h, .inr (9, [.int zth, .int (nI nA), .int (nI nB), .ref ak, .ref av, .ref bk, .ref bv, .ref br, .ref a_s, .ref a_t, .int zsg, .ref g1, .ref g2, .ref g3, .long zl1, .long zl2, .long zl3, .long zl4, .int zpb, .ref pa, .ref ru, .ref tx, .int zln, .int zat, .int zrk, .int zrv, .int zre, .int zwr, .int zrm, .int zrs, .int zis, .int zss, .int zsc, .ref dk, .ref dv, .ref ek, .ref ev, .ref er, .ref es, .ref et])), (ak, .inl (g.2.1.1, 152, .inl fk)), (av, .inl (g.2.1.1, 152, .inl fv)), (bk, .inl (g.2.1.1, 24, .inl ck)), (bv, .inl (g.2.1.1, 24, .inl cv)), (br, .inl (g.2.1.1, 24, .inl cr))] H := hP
  have hD : va_D A [(h, .inr (9, [.int zth, .int (nI nA), .int (nI nB), .ref ak, .ref av, .ref bk, .ref bv, .ref br, .ref a_s, .ref a_t, .int zsg, .ref g1, .ref g2, .ref g3, .long zl1, .long zl2, .long zl3, .long zl4, .int zpb, .ref pa, .ref ru, .ref tx, .int zln, .int zat, .int zrk, .int zrv, .int zre, .int zwr, .int zrm, .int zrs, .int zis, .int zss, .int zsc, .ref dk, .ref dv, .ref ek, .ref ev, .ref er, .ref es, .ref et])), (ak, .inl (g.2.1.1, 152, .inl fk)), (av, .inl (g.2.1.1, 152, .inl fv)), (bk, .inl (g.2.1.1, 24, .inl ck)), (bv, .inl (g.2.1.1, 24, .inl cv)), (br, .inl (g.2.1.1, 24, .inl cr))] := hD
  refine lv_if_ne (tgt := 20) hx hb dX7_main_13 (by decide) (fun c_13 => ?_) (fun c_13 => ?_)
  · skip
    obtain ⟨hy1, hy2, hy3⟩ := isB_rng (by omega) c_13
    have hk9 : manK M y = 0 := by rw [manK, if_pos ⟨hy2, by rw [← hnl]; exact hy3⟩]
    refine lv_iconst (v := 0) hx hb dX7_main_20 (by decide) ?_
    refine kcalli (wc := [(h, .inr (9, [.int zth, .int (nI nA), .int (nI nB), .ref ak, .ref av, .ref bk, .ref bv, .ref br, .ref a_s, .ref a_t, .int zsg, .ref g1, .ref g2, .ref g3, .long zl1, .long zl2, .long zl3, .long zl4, .int zpb, .ref pa, .ref ru, .ref tx, .int zln, .int zat, .int zrk, .int zrv, .int zre, .int zwr, .int zrm, .int zrs, .int zis, .int zss, .int zsc, .ref dk, .ref dv, .ref ek, .ref ev, .ref er, .ref es, .ref et]))]) [0] (va_runV (C := RX7) (As := [.int 1, .int 0]) (rest := []) ⟨hx, hb, hml, hown, hts⟩ ((c_X7_fails0 l g h zth (nI nA) (nI nB) zsg zl1 zl2 zl3 zl4 zpb zln zat zrk zrv zre zwr zrm zrs zis zss zsc ak av bk bv br a_s a_t g1 g2 g3 pa ru tx dk dv ek ev er es et 1) _) (cwV 2 hts gX7_main_X7_fails rfl rfl rfl (by decide +kernel) ⟨Nat.le_of_ble_eq_true rfl, Nat.le_of_ble_eq_true rfl⟩) (kpreV (wc := [(h, .inr (9, [.int zth, .int (nI nA), .int (nI nB), .ref ak, .ref av, .ref bk, .ref bv, .ref br, .ref a_s, .ref a_t, .int zsg, .ref g1, .ref g2, .ref g3, .long zl1, .long zl2, .long zl3, .long zl4, .int zpb, .ref pa, .ref ru, .ref tx, .int zln, .int zat, .int zrk, .int zrv, .int zre, .int zwr, .int zrm, .int zrs, .int zis, .int zss, .int zsc, .ref dk, .ref dv, .ref ek, .ref ev, .ref er, .ref es, .ref et]))]) (ci := 9) hK hP hD hS hA hE [0] rfl rfl rfl rfl) rfl rfl hl.1 rfl (lv_room (Nat.le_of_ble_eq_true rfl)) dX7_main_21 ⟨Nat.zero_le _, Nat.zero_le _⟩) hP hD hS hA rfl (fun r_2 w_2 H locs hp hP hD hS => ?_)
    obtain ⟨rfl, rfl⟩ := hp
    have hP : va_P g.1 vwCl [(h, .inr (9, [.int 0, .int (nI nA), .int (nI nB), .ref ak, .ref av, .ref bk, .ref bv, .ref br, .ref a_s, .ref a_t, .int zsg, .ref g1, .ref g2, .ref g3, .long zl1, .long zl2, .long zl3, .long zl4, .int zpb, .ref pa, .ref ru, .ref tx, .int zln, .int zat, .int zrk, .int zrv, .int zre, .int zwr, .int zrm, .int zrs, .int zis, .int zss, .int zsc, .ref dk, .ref dv, .ref ek, .ref ev, .ref er, .ref es, .ref et])), (ak, .inl (g.2.1.1, 152, .inl fk)), (av, .inl (g.2.1.1, 152, .inl fv)), (bk, .inl (g.2.1.1, 24, .inl ck)), (bv, .inl (g.2.1.1, 24, .inl cv)), (br, .inl (g.2.1.1, 24, .inl cr))] H := hP
    have hD : va_D A [(h, .inr (9, [.int 0, .int (nI nA), .int (nI nB), .ref ak, .ref av, .ref bk, .ref bv, .ref br, .ref a_s, .ref a_t, .int zsg, .ref g1, .ref g2, .ref g3, .long zl1, .long zl2, .long zl3, .long zl4, .int zpb, .ref pa, .ref ru, .ref tx, .int zln, .int zat, .int zrk, .int zrv, .int zre, .int zwr, .int zrm, .int zrs, .int zis, .int zss, .int zsc, .ref dk, .ref dv, .ref ek, .ref ev, .ref er, .ref es, .ref et])), (ak, .inl (g.2.1.1, 152, .inl fk)), (av, .inl (g.2.1.1, 152, .inl fv)), (bk, .inl (g.2.1.1, 24, .inl ck)), (bv, .inl (g.2.1.1, 24, .inl cv)), (br, .inl (g.2.1.1, 24, .inl cr))] := hD
    refine lv_if_eq (tgt := 29) hx hb dX7_main_24 (by decide) (fun c_24 => ?_) (fun c_24 => absurd (by decide) c_24)
    refine lv_iload_n hx hb dX7_main_29 rfl (lv_at hl 2 rfl) ?_
    refine lv_if_eq (tgt := 42) hx hb dX7_main_30 (by decide) (fun c_30 => ?_) (fun c_30 => ?_)
    · skip
      refine lv_aload_n hx hb dX7_main_42 rfl (lv_at hl 0 rfl) ?_
      refine va_get (D := g.1) (ci := 9) (v := .ref ak) (C := RX7) (T := TX7) (N := 40) hx hb hts (by decide +kernel) hown hK hP 0 rfl rfl 3 (by decide) (hts (.fieldLink RX7 9 "LearnedIndexModel" "keys" "[I") (by decide +kernel)) (fun _ h9 => h9) rfl dX7_main_43 ?_
      refine lv_iload_n hx hb dX7_main_46 rfl (lv_at hl 1 rfl) ?_
      refine lv_topi (fun v47 e_v47 => ?_)
      rw [show (v47 : Int32) = nI y.toInt.toNat from e_v47.trans hy1]
      refine va_iald hx hb hK hP 1 0 rfl rfl (vp_in_nI (show y.toInt.toNat < 152 by omega) (by omega)) dX7_main_47 ?_
      rw [show (nI y.toInt.toNat : Int32).toNatClampNeg = y.toInt.toNat from nI_clamp (n := y.toInt.toNat) (by omega)]
      exact kreti hx hb hRt hlk hK hP hD hS rfl dX7_main_48 (⟨by rw [hk9, if_pos rfl, manV, if_pos c_30, (EL_g hM hy3).1], by rw [hk9]⟩)
    · skip
      refine lv_aload_n hx hb dX7_main_33 rfl (lv_at hl 0 rfl) ?_
      refine va_get (D := g.1) (ci := 9) (v := .ref av) (C := RX7) (T := TX7) (N := 40) hx hb hts (by decide +kernel) hown hK hP 0 rfl rfl 4 (by decide) (hts (.fieldLink RX7 13 "LearnedIndexModel" "values" "[I") (by decide +kernel)) (fun _ h9 => h9) rfl dX7_main_34 ?_
      refine lv_iload_n hx hb dX7_main_37 rfl (lv_at hl 1 rfl) ?_
      refine lv_topi (fun v38 e_v38 => ?_)
      rw [show (v38 : Int32) = nI y.toInt.toNat from e_v38.trans hy1]
      refine va_iald hx hb hK hP 2 0 rfl rfl (vp_in_nI (show y.toInt.toNat < 152 by omega) (by omega)) dX7_main_38 ?_
      rw [show (nI y.toInt.toNat : Int32).toNatClampNeg = y.toInt.toNat from nI_clamp (n := y.toInt.toNat) (by omega)]
      refine lv_goto (tgt := 48) hx hb dX7_main_39 (by decide) ?_
      exact kreti hx hb hRt hlk hK hP hD hS rfl dX7_main_48 (⟨by rw [hk9, if_pos rfl, manV, if_neg c_30, (EL_g hM hy3).2.1], by rw [hk9]⟩)
  · skip
    have hk9 : manK M y = 1 := by rw [manK, if_neg (by rw [← hnl]; exact isB_nrng (by omega) c_13)]
    refine lv_iconst (v := 1) hx hb dX7_main_16 (by decide) ?_
    refine lv_goto (tgt := 21) hx hb dX7_main_17 (by decide) ?_
    refine kcalli (wc := [(h, .inr (9, [.int zth, .int (nI nA), .int (nI nB), .ref ak, .ref av, .ref bk, .ref bv, .ref br, .ref a_s, .ref a_t, .int zsg, .ref g1, .ref g2, .ref g3, .long zl1, .long zl2, .long zl3, .long zl4, .int zpb, .ref pa, .ref ru, .ref tx, .int zln, .int zat, .int zrk, .int zrv, .int zre, .int zwr, .int zrm, .int zrs, .int zis, .int zss, .int zsc, .ref dk, .ref dv, .ref ek, .ref ev, .ref er, .ref es, .ref et]))]) [0] (va_runV (C := RX7) (As := [.int 1, .int 1]) (rest := []) ⟨hx, hb, hml, hown, hts⟩ ((c_X7_fails1 l g h zth (nI nA) (nI nB) zsg zl1 zl2 zl3 zl4 zpb zln zat zrk zrv zre zwr zrm zrs zis zss zsc ak av bk bv br a_s a_t g1 g2 g3 pa ru tx dk dv ek ev er es et 1) _) (cwV 2 hts gX7_main_X7_fails rfl rfl rfl (by decide +kernel) ⟨Nat.le_of_ble_eq_true rfl, Nat.le_of_ble_eq_true rfl⟩) (kpreV (wc := [(h, .inr (9, [.int zth, .int (nI nA), .int (nI nB), .ref ak, .ref av, .ref bk, .ref bv, .ref br, .ref a_s, .ref a_t, .int zsg, .ref g1, .ref g2, .ref g3, .long zl1, .long zl2, .long zl3, .long zl4, .int zpb, .ref pa, .ref ru, .ref tx, .int zln, .int zat, .int zrk, .int zrv, .int zre, .int zwr, .int zrm, .int zrs, .int zis, .int zss, .int zsc, .ref dk, .ref dv, .ref ek, .ref ev, .ref er, .ref es, .ref et]))]) (ci := 9) hK hP hD hS hA hE [0] rfl rfl rfl rfl) rfl rfl hl.1 rfl (lv_room (Nat.le_of_ble_eq_true rfl)) dX7_main_21 ⟨Nat.zero_le _, Nat.zero_le _⟩) hP hD hS hA rfl (fun r_3 w_3 H locs hp hP hD hS => ?_)
    obtain ⟨rfl, rfl⟩ := hp
    have hP : va_P g.1 vwCl [(h, .inr (9, [.int 1, .int (nI nA), .int (nI nB), .ref ak, .ref av, .ref bk, .ref bv, .ref br, .ref a_s, .ref a_t, .int zsg, .ref g1, .ref g2, .ref g3, .long zl1, .long zl2, .long zl3, .long zl4, .int zpb, .ref pa, .ref ru, .ref tx, .int zln, .int zat, .int zrk, .int zrv, .int zre, .int zwr, .int zrm, .int zrs, .int zis, .int zss, .int zsc, .ref dk, .ref dv, .ref ek, .ref ev, .ref er, .ref es, .ref et])), (ak, .inl (g.2.1.1, 152, .inl fk)), (av, .inl (g.2.1.1, 152, .inl fv)), (bk, .inl (g.2.1.1, 24, .inl ck)), (bv, .inl (g.2.1.1, 24, .inl cv)), (br, .inl (g.2.1.1, 24, .inl cr))] H := hP
    have hD : va_D A [(h, .inr (9, [.int 1, .int (nI nA), .int (nI nB), .ref ak, .ref av, .ref bk, .ref bv, .ref br, .ref a_s, .ref a_t, .int zsg, .ref g1, .ref g2, .ref g3, .long zl1, .long zl2, .long zl3, .long zl4, .int zpb, .ref pa, .ref ru, .ref tx, .int zln, .int zat, .int zrk, .int zrv, .int zre, .int zwr, .int zrm, .int zrs, .int zis, .int zss, .int zsc, .ref dk, .ref dv, .ref ek, .ref ev, .ref er, .ref es, .ref et])), (ak, .inl (g.2.1.1, 152, .inl fk)), (av, .inl (g.2.1.1, 152, .inl fv)), (bk, .inl (g.2.1.1, 24, .inl ck)), (bv, .inl (g.2.1.1, 24, .inl cv)), (br, .inl (g.2.1.1, 24, .inl cr))] := hD
    refine lv_if_eq (tgt := 29) hx hb dX7_main_24 (by decide) (fun c_24 => absurd c_24 (by decide)) (fun c_24 => ?_)
    refine lv_iconst (v := 0) hx hb dX7_main_27 (by decide) ?_
    exact kreti hx hb hRt hlk hK hP hD hS rfl dX7_main_28 (⟨by rw [hk9]; rfl, by rw [hk9]⟩)
set_option maxRecDepth 20000 in
theorem ggX7_change_X7_isBetween : GoodIn wsX7_change wsX7_isBetween := goodIn_r _ [8] (by decide +kernel) (by decide +kernel)
set_option maxRecDepth 20000 in
theorem gX7_change_X7_isBetween : GoodIn wsX7_change (va_wsS RX7 75 yX7_isBetween wsX7_isBetween) := goodIn_app (goodIn_of _ (by decide +kernel)) ggX7_change_X7_isBetween
set_option maxRecDepth 20000 in
theorem ggX7_change_X7_fails : GoodIn wsX7_change wsX7_fails := goodIn_r _ [12, 13, 14, 15, 16, 17, 18, 19, 20, 21, 22, 23, 24, 25, 26, 27, 28, 29, 30, 31, 32, 33, 34, 35, 36, 37, 38, 39, 40, 41, 42, 43, 44, 45, 46, 47, 48, 49, 50, 51, 52, 53] (by decide +kernel) (by decide +kernel)
set_option maxRecDepth 20000 in
theorem gX7_change_X7_fails : GoodIn wsX7_change (wsV RX7 120 RX7 yX7_fails wsX7_fails) := goodIn_app (goodIn_of _ (by decide +kernel)) ggX7_change_X7_fails
theorem dX7_change_0 : decode cX7_change 0 = .ok (.aload_n 0, 1) := by decide +kernel
theorem dX7_change_1 : decode cX7_change 1 = .ok (.iconst 1, 1) := by decide +kernel
theorem dX7_change_2 : decode cX7_change 2 = .ok (.iload_n 1, 1) := by decide +kernel
theorem dX7_change_3 : decode cX7_change 3 = .ok (.iconst 0, 1) := by decide +kernel
theorem dX7_change_4 : decode cX7_change 4 = .ok (.aload_n 0, 1) := by decide +kernel
theorem dX7_change_5 : decode cX7_change 5 = .ok (.getfield 82, 3) := by decide +kernel
theorem dX7_change_8 : decode cX7_change 8 = .ok (.iconst 1, 1) := by decide +kernel
theorem dX7_change_9 : decode cX7_change 9 = .ok (.isub, 1) := by decide +kernel
theorem dX7_change_10 : decode cX7_change 10 = .ok (.invokestatic 75, 3) := by decide +kernel
theorem dX7_change_13 : decode cX7_change 13 = .ok (.ifCond .ne 7, 3) := by decide +kernel
theorem dX7_change_16 : decode cX7_change 16 = .ok (.iconst 1, 1) := by decide +kernel
theorem dX7_change_17 : decode cX7_change 17 = .ok (.goto 4, 3) := by decide +kernel
theorem dX7_change_20 : decode cX7_change 20 = .ok (.iconst 0, 1) := by decide +kernel
theorem dX7_change_21 : decode cX7_change 21 = .ok (.invokevirtual 120, 3) := by decide +kernel
theorem dX7_change_24 : decode cX7_change 24 = .ok (.ifCond .ne 25, 3) := by decide +kernel
theorem dX7_change_27 : decode cX7_change 27 = .ok (.aload_n 0, 1) := by decide +kernel
theorem dX7_change_28 : decode cX7_change 28 = .ok (.iconst 2, 1) := by decide +kernel
theorem dX7_change_29 : decode cX7_change 29 = .ok (.iload_n 2, 1) := by decide +kernel
theorem dX7_change_30 : decode cX7_change 30 = .ok (.iconst 0, 1) := by decide +kernel
theorem dX7_change_31 : decode cX7_change 31 = .ok (.iconst 2, 1) := by decide +kernel
theorem dX7_change_32 : decode cX7_change 32 = .ok (.invokestatic 75, 3) := by decide +kernel
theorem dX7_change_35 : decode cX7_change 35 = .ok (.ifCond .ne 7, 3) := by decide +kernel
theorem dX7_change_38 : decode cX7_change 38 = .ok (.iconst 1, 1) := by decide +kernel
theorem dX7_change_39 : decode cX7_change 39 = .ok (.goto 4, 3) := by decide +kernel
theorem dX7_change_42 : decode cX7_change 42 = .ok (.iconst 0, 1) := by decide +kernel
theorem dX7_change_43 : decode cX7_change 43 = .ok (.invokevirtual 120, 3) := by decide +kernel
theorem dX7_change_46 : decode cX7_change 46 = .ok (.ifCond .eq 5, 3) := by decide +kernel
theorem dX7_change_49 : decode cX7_change 49 = .ok (.iconst 0, 1) := by decide +kernel
theorem dX7_change_50 : decode cX7_change 50 = .ok (.ireturn, 1) := by decide +kernel
theorem dX7_change_51 : decode cX7_change 51 = .ok (.iload_n 2, 1) := by decide +kernel
theorem dX7_change_52 : decode cX7_change 52 = .ok (.ifCond .ne 12, 3) := by decide +kernel
theorem dX7_change_55 : decode cX7_change 55 = .ok (.aload_n 0, 1) := by decide +kernel
theorem dX7_change_56 : decode cX7_change 56 = .ok (.getfield 16, 3) := by decide +kernel
theorem dX7_change_59 : decode cX7_change 59 = .ok (.iload_n 1, 1) := by decide +kernel
theorem dX7_change_60 : decode cX7_change 60 = .ok (.iaload, 1) := by decide +kernel
theorem dX7_change_61 : decode cX7_change 61 = .ok (.goto 23, 3) := by decide +kernel
theorem dX7_change_64 : decode cX7_change 64 = .ok (.iload_n 2, 1) := by decide +kernel
theorem dX7_change_65 : decode cX7_change 65 = .ok (.iconst 1, 1) := by decide +kernel
theorem dX7_change_66 : decode cX7_change 66 = .ok (.if_icmp .ne 12, 3) := by decide +kernel
theorem dX7_change_69 : decode cX7_change 69 = .ok (.aload_n 0, 1) := by decide +kernel
theorem dX7_change_70 : decode cX7_change 70 = .ok (.getfield 22, 3) := by decide +kernel
theorem dX7_change_73 : decode cX7_change 73 = .ok (.iload_n 1, 1) := by decide +kernel
theorem dX7_change_74 : decode cX7_change 74 = .ok (.iaload, 1) := by decide +kernel
theorem dX7_change_75 : decode cX7_change 75 = .ok (.goto 9, 3) := by decide +kernel
theorem dX7_change_78 : decode cX7_change 78 = .ok (.aload_n 0, 1) := by decide +kernel
theorem dX7_change_79 : decode cX7_change 79 = .ok (.getfield 19, 3) := by decide +kernel
theorem dX7_change_82 : decode cX7_change 82 = .ok (.iload_n 1, 1) := by decide +kernel
theorem dX7_change_83 : decode cX7_change 83 = .ok (.iaload, 1) := by decide +kernel
theorem dX7_change_84 : decode cX7_change 84 = .ok (.ireturn, 1) := by decide +kernel
def rm_X7_change : Room := { frames := 1, cells := 0, slots := 0, locals := 22 }
abbrev p_X7_change (g : kG) (h : Nat) (zth : Int32) (zsg : Int32) (zl1 : Int64) (zl2 : Int64) (zl3 : Int64) (zl4 : Int64) (zpb : Int32) (zln : Int32) (zat : Int32) (zrk : Int32) (zrv : Int32) (zre : Int32) (zwr : Int32) (zrm : Int32) (zrs : Int32) (zis : Int32) (zss : Int32) (zsc : Int32) (ak : Nat) (av : Nat) (bk : Nat) (bv : Nat) (br : Nat) (a_s : Nat) (a_t : Nat) (g1 : Nat) (g2 : Nat) (g3 : Nat) (pa : Nat) (ru : Nat) (tx : Nat) (dk : Nat) (dv : Nat) (ek : Nat) (ev : Nat) (er : Nat) (es : Nat) (et : Nat) (nA : Nat) (fk : Nat → Int32) (fv : Nat → Int32) (nB : Nat) (ck : Nat → Int32) (cv : Nat → Int32) (cr : Nat → Int32) (M : List kE3) (C : List kE3) (y : Int32) (w : Int32) : Int32 → va_W → Prop := fun r w1 => r = (if (chgK C y w) = 0 then chgV C y w else 0) ∧ w1 = [(h, .inr (9, [.int (chgK C y w), .int (nI nA), .int (nI nB), .ref ak, .ref av, .ref bk, .ref bv, .ref br, .ref a_s, .ref a_t, .int zsg, .ref g1, .ref g2, .ref g3, .long zl1, .long zl2, .long zl3, .long zl4, .int zpb, .ref pa, .ref ru, .ref tx, .int zln, .int zat, .int zrk, .int zrv, .int zre, .int zwr, .int zrm, .int zrs, .int zis, .int zss, .int zsc, .ref dk, .ref dv, .ref ek, .ref ev, .ref er, .ref es, .ref et])), (ak, .inl (g.2.1.1, 152, .inl fk)), (av, .inl (g.2.1.1, 152, .inl fv)), (bk, .inl (g.2.1.1, 24, .inl ck)), (bv, .inl (g.2.1.1, 24, .inl cv)), (br, .inl (g.2.1.1, 24, .inl cr))]
set_option maxHeartbeats 4000000 in
set_option maxRecDepth 100000 in
theorem c_X7_change (l : Launch) (g : kG) (h : Nat) (zth : Int32) (zsg : Int32) (zl1 : Int64) (zl2 : Int64) (zl3 : Int64) (zl4 : Int64) (zpb : Int32) (zln : Int32) (zat : Int32) (zrk : Int32) (zrv : Int32) (zre : Int32) (zwr : Int32) (zrm : Int32) (zrs : Int32) (zis : Int32) (zss : Int32) (zsc : Int32) (ak : Nat) (av : Nat) (bk : Nat) (bv : Nat) (br : Nat) (a_s : Nat) (a_t : Nat) (g1 : Nat) (g2 : Nat) (g3 : Nat) (pa : Nat) (ru : Nat) (tx : Nat) (dk : Nat) (dv : Nat) (ek : Nat) (ev : Nat) (er : Nat) (es : Nat) (et : Nat) (nA : Nat) (fk : Nat → Int32) (fv : Nat → Int32) (nB : Nat) (ck : Nat → Int32) (cv : Nat → Int32) (cr : Nat → Int32) (M : List kE3) (C : List kE3) (y : Int32) (w : Int32) (hMM : kMM nA fk fv nB ck cv cr M C) : KI l yX7_change wsX7_change rm_X7_change g [.ref h, .int y, .int w] [(h, .inr (9, [.int zth, .int (nI nA), .int (nI nB), .ref ak, .ref av, .ref bk, .ref bv, .ref br, .ref a_s, .ref a_t, .int zsg, .ref g1, .ref g2, .ref g3, .long zl1, .long zl2, .long zl3, .long zl4, .int zpb, .ref pa, .ref ru, .ref tx, .int zln, .int zat, .int zrk, .int zrv, .int zre, .int zwr, .int zrm, .int zrs, .int zis, .int zss, .int zsc, .ref dk, .ref dv, .ref ek, .ref ev, .ref er, .ref es, .ref et])), (ak, .inl (g.2.1.1, 152, .inl fk)), (av, .inl (g.2.1.1, 152, .inl fv)), (bk, .inl (g.2.1.1, 24, .inl ck)), (bv, .inl (g.2.1.1, 24, .inl cv)), (br, .inl (g.2.1.1, 24, .inl cr))] (p_X7_change g h zth zsg zl1 zl2 zl3 zl4 zpb zln zat zrk zrv zre zwr zrm zrs zis zss zsc ak av bk bv br a_s a_t g1 g2 g3 pa ru tx dk dv ek ev er es et nA fk fv nB ck cv cr M C y w) := by
  refine kbodyI (cc := cX7_change) (n := 3) (k := 6) (own := RX7) (plainFor_of_name (by decide)) rfl rfl rfl rfl ?_
  intro p e s m below meth cd A ls hcx
  obtain ⟨hx, hb, hRt, hml, hts, hown, hlk, hA, hP, hK, hD, hE, hS, hl⟩ := hcx
  have hl : lv_has ls 3 [(0, .ref h), (1, .int y), (2, .int w)] := hl
  obtain ⟨⟨hM, hC⟩, ⟨hnM, hnC⟩, ⟨hIM, hIC⟩, hlen, hrem⟩ := id hMM
  have hsM : kSo (EL nA fk fv fz0) := by rw [hM]; exact hIM.1
  have hsC : kSo (EL nB ck cv cr) := by rw [hC]; exact hIC.1
  have hnl : nA = M.length := by rw [← hM, EL_len]
  have hcl : nB = C.length := by rw [← hC, EL_len]
  refine lv_aload_n hx hb dX7_change_0 rfl (lv_at hl 0 rfl) ?_
  refine lv_iconst (v := 1) hx hb dX7_change_1 (by decide) ?_
  refine lv_iload_n hx hb dX7_change_2 rfl (lv_at hl 1 rfl) ?_
  refine lv_iconst (v := 0) hx hb dX7_change_3 (by decide) ?_
  refine lv_aload_n hx hb dX7_change_4 rfl (lv_at hl 0 rfl) ?_
  refine va_get (D := g.1) (ci := 9) (v := .int (nI nB)) (C := RX7) (T := TX7) (N := 40) hx hb hts (by decide +kernel) hown hK hP 0 rfl rfl 2 (by decide) (hts (.fieldLink RX7 82 "LearnedIndexModel" "changes" "I") (by decide +kernel)) (fun _ h9 => h9) rfl dX7_change_5 ?_
  refine lv_iconst (v := 1) hx hb dX7_change_8 (by decide) ?_
  refine lv_isub hx hb dX7_change_9 ?_
  rw [show ((nI nB) - 1 : Int32) = kH nB from kH_sub _]
  refine kcalli (wc := []) [] (va_runS (As := [.int y, .int 0, .int (kH nB)]) (rest := [.int 1, .ref h]) ⟨hx, hb, hml, hown, hts⟩ ((c_X7_isBetween l g y 0 (kH nB)) _) (va_cwS 3 hts gX7_change_X7_isBetween rfl rfl rfl (by decide +kernel) ⟨Nat.le_of_ble_eq_true rfl, Nat.le_of_ble_eq_true rfl⟩) (kpreS (wc := []) hK hP hD hS hA hE [] rfl rfl) rfl rfl hl.1 rfl (lv_room (Nat.le_of_ble_eq_true rfl)) dX7_change_10 ⟨Nat.zero_le _, Nat.zero_le _⟩) hP hD hS hA rfl (fun r_1 w_1 H locs hp hP hD hS => ?_)
  obtain ⟨rfl, rfl⟩ := hp
  have hP : va_P g.1 vwCl [(h, .inr (9, [.int zth, .int (nI nA), .int (nI nB), .ref ak, .ref av, .ref bk, .ref bv, .ref br, .ref a_s, .ref a_t, .int zsg, .ref g1, .ref g2, .ref g3, .long zl1, .long zl2, .long zl3, .long zl4, .int zpb, .ref pa, .ref ru, .ref tx, .int zln, .int zat, .int zrk, .int zrv, .int zre, .int zwr, .int zrm, .int zrs, .int zis, .int zss, .int zsc, .ref dk, .ref dv, .ref ek, .ref ev, .ref er, .ref es, .ref et])), (ak, .inl (g.2.1.1, 152, .inl fk)), (av, .inl (g.2.1.1, 152, .inl fv)), (bk, .inl (g.2.1.1, 24, .inl ck)), (bv, .inl (g.2.1.1, 24, .inl cv)), (br, .inl (g.2.1.1, 24, .inl cr))] H := hP
  have hD : va_D A [(h, .inr (9, [.int zth, .int (nI nA), .int (nI nB), .ref ak, .ref av, .ref bk, .ref bv, .ref br, .ref a_s, .ref a_t, .int zsg, .ref g1, .ref g2, .ref g3, .long zl1, .long zl2, .long zl3, .long zl4, .int zpb, .ref pa, .ref ru, .ref tx, .int zln, .int zat, .int zrk, .int zrv, .int zre, .int zwr, .int zrm, .int zrs, .int zis, .int zss, .int zsc, .ref dk, .ref dv, .ref ek, .ref ev, .ref er, .ref es, .ref et])), (ak, .inl (g.2.1.1, 152, .inl fk)), (av, .inl (g.2.1.1, 152, .inl fv)), (bk, .inl (g.2.1.1, 24, .inl ck)), (bv, .inl (g.2.1.1, 24, .inl cv)), (br, .inl (g.2.1.1, 24, .inl cr))] := hD
  refine lv_if_ne (tgt := 20) hx hb dX7_change_13 (by decide) (fun c_13 => ?_) (fun c_13 => ?_)
  · skip
    obtain ⟨hy1, hy2, hy3⟩ := isB_rng (by omega) c_13
    refine lv_iconst (v := 0) hx hb dX7_change_20 (by decide) ?_
    refine kcalli (wc := [(h, .inr (9, [.int zth, .int (nI nA), .int (nI nB), .ref ak, .ref av, .ref bk, .ref bv, .ref br, .ref a_s, .ref a_t, .int zsg, .ref g1, .ref g2, .ref g3, .long zl1, .long zl2, .long zl3, .long zl4, .int zpb, .ref pa, .ref ru, .ref tx, .int zln, .int zat, .int zrk, .int zrv, .int zre, .int zwr, .int zrm, .int zrs, .int zis, .int zss, .int zsc, .ref dk, .ref dv, .ref ek, .ref ev, .ref er, .ref es, .ref et]))]) [0] (va_runV (C := RX7) (As := [.int 1, .int 0]) (rest := []) ⟨hx, hb, hml, hown, hts⟩ ((c_X7_fails0 l g h zth (nI nA) (nI nB) zsg zl1 zl2 zl3 zl4 zpb zln zat zrk zrv zre zwr zrm zrs zis zss zsc ak av bk bv br a_s a_t g1 g2 g3 pa ru tx dk dv ek ev er es et 1) _) (cwV 2 hts gX7_change_X7_fails rfl rfl rfl (by decide +kernel) ⟨Nat.le_of_ble_eq_true rfl, Nat.le_of_ble_eq_true rfl⟩) (kpreV (wc := [(h, .inr (9, [.int zth, .int (nI nA), .int (nI nB), .ref ak, .ref av, .ref bk, .ref bv, .ref br, .ref a_s, .ref a_t, .int zsg, .ref g1, .ref g2, .ref g3, .long zl1, .long zl2, .long zl3, .long zl4, .int zpb, .ref pa, .ref ru, .ref tx, .int zln, .int zat, .int zrk, .int zrv, .int zre, .int zwr, .int zrm, .int zrs, .int zis, .int zss, .int zsc, .ref dk, .ref dv, .ref ek, .ref ev, .ref er, .ref es, .ref et]))]) (ci := 9) hK hP hD hS hA hE [0] rfl rfl rfl rfl) rfl rfl hl.1 rfl (lv_room (Nat.le_of_ble_eq_true rfl)) dX7_change_21 ⟨Nat.zero_le _, Nat.zero_le _⟩) hP hD hS hA rfl (fun r_2 w_2 H locs hp hP hD hS => ?_)
    obtain ⟨rfl, rfl⟩ := hp
    have hP : va_P g.1 vwCl [(h, .inr (9, [.int 0, .int (nI nA), .int (nI nB), .ref ak, .ref av, .ref bk, .ref bv, .ref br, .ref a_s, .ref a_t, .int zsg, .ref g1, .ref g2, .ref g3, .long zl1, .long zl2, .long zl3, .long zl4, .int zpb, .ref pa, .ref ru, .ref tx, .int zln, .int zat, .int zrk, .int zrv, .int zre, .int zwr, .int zrm, .int zrs, .int zis, .int zss, .int zsc, .ref dk, .ref dv, .ref ek, .ref ev, .ref er, .ref es, .ref et])), (ak, .inl (g.2.1.1, 152, .inl fk)), (av, .inl (g.2.1.1, 152, .inl fv)), (bk, .inl (g.2.1.1, 24, .inl ck)), (bv, .inl (g.2.1.1, 24, .inl cv)), (br, .inl (g.2.1.1, 24, .inl cr))] H := hP
    have hD : va_D A [(h, .inr (9, [.int 0, .int (nI nA), .int (nI nB), .ref ak, .ref av, .ref bk, .ref bv, .ref br, .ref a_s, .ref a_t, .int zsg, .ref g1, .ref g2, .ref g3, .long zl1, .long zl2, .long zl3, .long zl4, .int zpb, .ref pa, .ref ru, .ref tx, .int zln, .int zat, .int zrk, .int zrv, .int zre, .int zwr, .int zrm, .int zrs, .int zis, .int zss, .int zsc, .ref dk, .ref dv, .ref ek, .ref ev, .ref er, .ref es, .ref et])), (ak, .inl (g.2.1.1, 152, .inl fk)), (av, .inl (g.2.1.1, 152, .inl fv)), (bk, .inl (g.2.1.1, 24, .inl ck)), (bv, .inl (g.2.1.1, 24, .inl cv)), (br, .inl (g.2.1.1, 24, .inl cr))] := hD
    refine lv_if_ne (tgt := 49) hx hb dX7_change_24 (by decide) (fun c_24 => absurd c_24 (fun z => z rfl)) (fun c_24 => ?_)
    refine lv_aload_n hx hb dX7_change_27 rfl (lv_at hl 0 rfl) ?_
    refine lv_iconst (v := 2) hx hb dX7_change_28 (by decide) ?_
    refine lv_iload_n hx hb dX7_change_29 rfl (lv_at hl 2 rfl) ?_
    refine lv_iconst (v := 0) hx hb dX7_change_30 (by decide) ?_
    refine lv_iconst (v := 2) hx hb dX7_change_31 (by decide) ?_
    refine kcalli (wc := []) [] (va_runS (As := [.int w, .int 0, .int 2]) (rest := [.int 2, .ref h]) ⟨hx, hb, hml, hown, hts⟩ ((c_X7_isBetween l g w 0 2) _) (va_cwS 3 hts gX7_change_X7_isBetween rfl rfl rfl (by decide +kernel) ⟨Nat.le_of_ble_eq_true rfl, Nat.le_of_ble_eq_true rfl⟩) (kpreS (wc := []) hK hP hD hS hA hE [] rfl rfl) rfl rfl hl.1 rfl (lv_room (Nat.le_of_ble_eq_true rfl)) dX7_change_32 ⟨Nat.zero_le _, Nat.zero_le _⟩) hP hD hS hA rfl (fun r_3 w_3 H locs hp hP hD hS => ?_)
    obtain ⟨rfl, rfl⟩ := hp
    have hP : va_P g.1 vwCl [(h, .inr (9, [.int 0, .int (nI nA), .int (nI nB), .ref ak, .ref av, .ref bk, .ref bv, .ref br, .ref a_s, .ref a_t, .int zsg, .ref g1, .ref g2, .ref g3, .long zl1, .long zl2, .long zl3, .long zl4, .int zpb, .ref pa, .ref ru, .ref tx, .int zln, .int zat, .int zrk, .int zrv, .int zre, .int zwr, .int zrm, .int zrs, .int zis, .int zss, .int zsc, .ref dk, .ref dv, .ref ek, .ref ev, .ref er, .ref es, .ref et])), (ak, .inl (g.2.1.1, 152, .inl fk)), (av, .inl (g.2.1.1, 152, .inl fv)), (bk, .inl (g.2.1.1, 24, .inl ck)), (bv, .inl (g.2.1.1, 24, .inl cv)), (br, .inl (g.2.1.1, 24, .inl cr))] H := hP
    have hD : va_D A [(h, .inr (9, [.int 0, .int (nI nA), .int (nI nB), .ref ak, .ref av, .ref bk, .ref bv, .ref br, .ref a_s, .ref a_t, .int zsg, .ref g1, .ref g2, .ref g3, .long zl1, .long zl2, .long zl3, .long zl4, .int zpb, .ref pa, .ref ru, .ref tx, .int zln, .int zat, .int zrk, .int zrv, .int zre, .int zwr, .int zrm, .int zrs, .int zis, .int zss, .int zsc, .ref dk, .ref dv, .ref ek, .ref ev, .ref er, .ref es, .ref et])), (ak, .inl (g.2.1.1, 152, .inl fk)), (av, .inl (g.2.1.1, 152, .inl fv)), (bk, .inl (g.2.1.1, 24, .inl ck)), (bv, .inl (g.2.1.1, 24, .inl cv)), (br, .inl (g.2.1.1, 24, .inl cr))] := hD
    have hib := isB_lit (w := w) (a := 0) (b := 2) (by decide) (by decide) (by decide) (by decide)
    refine lv_if_ne (tgt := 42) hx hb dX7_change_35 (by decide) (fun c_35 => ?_) (fun c_35 => ?_)
    · skip
      have hw9 := hib.mp c_35
      have hk9 : chgK C y w = 0 := by rw [chgK, if_neg (fun z => z ⟨hy2, by rw [← hcl]; exact hy3⟩), if_neg (by omega)]
      refine lv_iconst (v := 0) hx hb dX7_change_42 (by decide) ?_
      refine kcalli (wc := [(h, .inr (9, [.int 0, .int (nI nA), .int (nI nB), .ref ak, .ref av, .ref bk, .ref bv, .ref br, .ref a_s, .ref a_t, .int zsg, .ref g1, .ref g2, .ref g3, .long zl1, .long zl2, .long zl3, .long zl4, .int zpb, .ref pa, .ref ru, .ref tx, .int zln, .int zat, .int zrk, .int zrv, .int zre, .int zwr, .int zrm, .int zrs, .int zis, .int zss, .int zsc, .ref dk, .ref dv, .ref ek, .ref ev, .ref er, .ref es, .ref et]))]) [0] (va_runV (C := RX7) (As := [.int 2, .int 0]) (rest := []) ⟨hx, hb, hml, hown, hts⟩ ((c_X7_fails0 l g h 0 (nI nA) (nI nB) zsg zl1 zl2 zl3 zl4 zpb zln zat zrk zrv zre zwr zrm zrs zis zss zsc ak av bk bv br a_s a_t g1 g2 g3 pa ru tx dk dv ek ev er es et 2) _) (cwV 2 hts gX7_change_X7_fails rfl rfl rfl (by decide +kernel) ⟨Nat.le_of_ble_eq_true rfl, Nat.le_of_ble_eq_true rfl⟩) (kpreV (wc := [(h, .inr (9, [.int 0, .int (nI nA), .int (nI nB), .ref ak, .ref av, .ref bk, .ref bv, .ref br, .ref a_s, .ref a_t, .int zsg, .ref g1, .ref g2, .ref g3, .long zl1, .long zl2, .long zl3, .long zl4, .int zpb, .ref pa, .ref ru, .ref tx, .int zln, .int zat, .int zrk, .int zrv, .int zre, .int zwr, .int zrm, .int zrs, .int zis, .int zss, .int zsc, .ref dk, .ref dv, .ref ek, .ref ev, .ref er, .ref es, .ref et]))]) (ci := 9) hK hP hD hS hA hE [0] rfl rfl rfl rfl) rfl rfl hl.1 rfl (lv_room (Nat.le_of_ble_eq_true rfl)) dX7_change_43 ⟨Nat.zero_le _, Nat.zero_le _⟩) hP hD hS hA rfl (fun r_4 w_4 H locs hp hP hD hS => ?_)
      obtain ⟨rfl, rfl⟩ := hp
      have hP : va_P g.1 vwCl [(h, .inr (9, [.int 0, .int (nI nA), .int (nI nB), .ref ak, .ref av, .ref bk, .ref bv, .ref br, .ref a_s, .ref a_t, .int zsg, .ref g1, .ref g2, .ref g3, .long zl1, .long zl2, .long zl3, .long zl4, .int zpb, .ref pa, .ref ru, .ref tx, .int zln, .int zat, .int zrk, .int zrv, .int zre, .int zwr, .int zrm, .int zrs, .int zis, .int zss, .int zsc, .ref dk, .ref dv, .ref ek, .ref ev, .ref er, .ref es, .ref et])), (ak, .inl (g.2.1.1, 152, .inl fk)), (av, .inl (g.2.1.1, 152, .inl fv)), (bk, .inl (g.2.1.1, 24, .inl ck)), (bv, .inl (g.2.1.1, 24, .inl cv)), (br, .inl (g.2.1.1, 24, .inl cr))] H := hP
      have hD : va_D A [(h, .inr (9, [.int 0, .int (nI nA), .int (nI nB), .ref ak, .ref av, .ref bk, .ref bv, .ref br, .ref a_s, .ref a_t, .int zsg, .ref g1, .ref g2, .ref g3, .long zl1, .long zl2, .long zl3, .long zl4, .int zpb, .ref pa, .ref ru, .ref tx, .int zln, .int zat, .int zrk, .int zrv, .int zre, .int zwr, .int zrm, .int zrs, .int zis, .int zss, .int zsc, .ref dk, .ref dv, .ref ek, .ref ev, .ref er, .ref es, .ref et])), (ak, .inl (g.2.1.1, 152, .inl fk)), (av, .inl (g.2.1.1, 152, .inl fv)), (bk, .inl (g.2.1.1, 24, .inl ck)), (bv, .inl (g.2.1.1, 24, .inl cv)), (br, .inl (g.2.1.1, 24, .inl cr))] := hD
      refine lv_if_eq (tgt := 51) hx hb dX7_change_46 (by decide) (fun c_46 => ?_) (fun c_46 => absurd (by decide) c_46)
      refine lv_iload_n hx hb dX7_change_51 rfl (lv_at hl 2 rfl) ?_
      refine lv_if_ne (tgt := 64) hx hb dX7_change_52 (by decide) (fun c_52 => ?_) (fun c_52 => ?_)
      · skip
        refine lv_iload_n hx hb dX7_change_64 rfl (lv_at hl 2 rfl) ?_
        refine lv_iconst (v := 1) hx hb dX7_change_65 (by decide) ?_
        refine lv_icmp_ne (tgt := 78) hx hb dX7_change_66 (by decide) (fun c_66 => ?_) (fun c_66 => ?_)
        · skip
          refine lv_aload_n hx hb dX7_change_78 rfl (lv_at hl 0 rfl) ?_
          refine va_get (D := g.1) (ci := 9) (v := .ref bv) (C := RX7) (T := TX7) (N := 40) hx hb hts (by decide +kernel) hown hK hP 0 rfl rfl 6 (by decide) (hts (.fieldLink RX7 19 "LearnedIndexModel" "changedValues" "[I") (by decide +kernel)) (fun _ h9 => h9) rfl dX7_change_79 ?_
          refine lv_iload_n hx hb dX7_change_82 rfl (lv_at hl 1 rfl) ?_
          refine lv_topi (fun v83 e_v83 => ?_)
          rw [show (v83 : Int32) = nI y.toInt.toNat from e_v83.trans hy1]
          refine va_iald hx hb hK hP 4 0 rfl rfl (vp_in_nI (show y.toInt.toNat < 24 by omega) (by omega)) dX7_change_83 ?_
          rw [show (nI y.toInt.toNat : Int32).toNatClampNeg = y.toInt.toNat from nI_clamp (n := y.toInt.toNat) (by omega)]
          exact kreti hx hb hRt hlk hK hP hD hS rfl dX7_change_84 (⟨by rw [hk9, if_pos rfl, chgV, if_neg c_52, if_neg c_66, (EL_g hC hy3).2.1], by rw [hk9]⟩)
        · skip
          refine lv_aload_n hx hb dX7_change_69 rfl (lv_at hl 0 rfl) ?_
          refine va_get (D := g.1) (ci := 9) (v := .ref br) (C := RX7) (T := TX7) (N := 40) hx hb hts (by decide +kernel) hown hK hP 0 rfl rfl 7 (by decide) (hts (.fieldLink RX7 22 "LearnedIndexModel" "changedKinds" "[I") (by decide +kernel)) (fun _ h9 => h9) rfl dX7_change_70 ?_
          refine lv_iload_n hx hb dX7_change_73 rfl (lv_at hl 1 rfl) ?_
          refine lv_topi (fun v74 e_v74 => ?_)
          rw [show (v74 : Int32) = nI y.toInt.toNat from e_v74.trans hy1]
          refine va_iald hx hb hK hP 5 0 rfl rfl (vp_in_nI (show y.toInt.toNat < 24 by omega) (by omega)) dX7_change_74 ?_
          rw [show (nI y.toInt.toNat : Int32).toNatClampNeg = y.toInt.toNat from nI_clamp (n := y.toInt.toNat) (by omega)]
          refine lv_goto (tgt := 84) hx hb dX7_change_75 (by decide) ?_
          exact kreti hx hb hRt hlk hK hP hD hS rfl dX7_change_84 (⟨by rw [hk9, if_pos rfl, chgV, if_neg c_52, if_pos c_66, (EL_g hC hy3).2.2], by rw [hk9]⟩)
      · skip
        refine lv_aload_n hx hb dX7_change_55 rfl (lv_at hl 0 rfl) ?_
        refine va_get (D := g.1) (ci := 9) (v := .ref bk) (C := RX7) (T := TX7) (N := 40) hx hb hts (by decide +kernel) hown hK hP 0 rfl rfl 5 (by decide) (hts (.fieldLink RX7 16 "LearnedIndexModel" "changedKeys" "[I") (by decide +kernel)) (fun _ h9 => h9) rfl dX7_change_56 ?_
        refine lv_iload_n hx hb dX7_change_59 rfl (lv_at hl 1 rfl) ?_
        refine lv_topi (fun v60 e_v60 => ?_)
        rw [show (v60 : Int32) = nI y.toInt.toNat from e_v60.trans hy1]
        refine va_iald hx hb hK hP 3 0 rfl rfl (vp_in_nI (show y.toInt.toNat < 24 by omega) (by omega)) dX7_change_60 ?_
        rw [show (nI y.toInt.toNat : Int32).toNatClampNeg = y.toInt.toNat from nI_clamp (n := y.toInt.toNat) (by omega)]
        refine lv_goto (tgt := 84) hx hb dX7_change_61 (by decide) ?_
        exact kreti hx hb hRt hlk hK hP hD hS rfl dX7_change_84 (⟨by rw [hk9, if_pos rfl, chgV, if_pos c_52, (EL_g hC hy3).1], by rw [hk9]⟩)
    · skip
      have hw9 : ¬ (0 ≤ w.toInt ∧ w.toInt ≤ 2) := fun z => hib.mpr z c_35
      have hk9 : chgK C y w = 2 := by rw [chgK, if_neg (fun z => z ⟨hy2, by rw [← hcl]; exact hy3⟩), if_pos (by omega)]
      refine lv_iconst (v := 1) hx hb dX7_change_38 (by decide) ?_
      refine lv_goto (tgt := 43) hx hb dX7_change_39 (by decide) ?_
      refine kcalli (wc := [(h, .inr (9, [.int 0, .int (nI nA), .int (nI nB), .ref ak, .ref av, .ref bk, .ref bv, .ref br, .ref a_s, .ref a_t, .int zsg, .ref g1, .ref g2, .ref g3, .long zl1, .long zl2, .long zl3, .long zl4, .int zpb, .ref pa, .ref ru, .ref tx, .int zln, .int zat, .int zrk, .int zrv, .int zre, .int zwr, .int zrm, .int zrs, .int zis, .int zss, .int zsc, .ref dk, .ref dv, .ref ek, .ref ev, .ref er, .ref es, .ref et]))]) [0] (va_runV (C := RX7) (As := [.int 2, .int 1]) (rest := []) ⟨hx, hb, hml, hown, hts⟩ ((c_X7_fails1 l g h 0 (nI nA) (nI nB) zsg zl1 zl2 zl3 zl4 zpb zln zat zrk zrv zre zwr zrm zrs zis zss zsc ak av bk bv br a_s a_t g1 g2 g3 pa ru tx dk dv ek ev er es et 2) _) (cwV 2 hts gX7_change_X7_fails rfl rfl rfl (by decide +kernel) ⟨Nat.le_of_ble_eq_true rfl, Nat.le_of_ble_eq_true rfl⟩) (kpreV (wc := [(h, .inr (9, [.int 0, .int (nI nA), .int (nI nB), .ref ak, .ref av, .ref bk, .ref bv, .ref br, .ref a_s, .ref a_t, .int zsg, .ref g1, .ref g2, .ref g3, .long zl1, .long zl2, .long zl3, .long zl4, .int zpb, .ref pa, .ref ru, .ref tx, .int zln, .int zat, .int zrk, .int zrv, .int zre, .int zwr, .int zrm, .int zrs, .int zis, .int zss, .int zsc, .ref dk, .ref dv, .ref ek, .ref ev, .ref er, .ref es, .ref et]))]) (ci := 9) hK hP hD hS hA hE [0] rfl rfl rfl rfl) rfl rfl hl.1 rfl (lv_room (Nat.le_of_ble_eq_true rfl)) dX7_change_43 ⟨Nat.zero_le _, Nat.zero_le _⟩) hP hD hS hA rfl (fun r_5 w_5 H locs hp hP hD hS => ?_)
      obtain ⟨rfl, rfl⟩ := hp
      have hP : va_P g.1 vwCl [(h, .inr (9, [.int 2, .int (nI nA), .int (nI nB), .ref ak, .ref av, .ref bk, .ref bv, .ref br, .ref a_s, .ref a_t, .int zsg, .ref g1, .ref g2, .ref g3, .long zl1, .long zl2, .long zl3, .long zl4, .int zpb, .ref pa, .ref ru, .ref tx, .int zln, .int zat, .int zrk, .int zrv, .int zre, .int zwr, .int zrm, .int zrs, .int zis, .int zss, .int zsc, .ref dk, .ref dv, .ref ek, .ref ev, .ref er, .ref es, .ref et])), (ak, .inl (g.2.1.1, 152, .inl fk)), (av, .inl (g.2.1.1, 152, .inl fv)), (bk, .inl (g.2.1.1, 24, .inl ck)), (bv, .inl (g.2.1.1, 24, .inl cv)), (br, .inl (g.2.1.1, 24, .inl cr))] H := hP
      have hD : va_D A [(h, .inr (9, [.int 2, .int (nI nA), .int (nI nB), .ref ak, .ref av, .ref bk, .ref bv, .ref br, .ref a_s, .ref a_t, .int zsg, .ref g1, .ref g2, .ref g3, .long zl1, .long zl2, .long zl3, .long zl4, .int zpb, .ref pa, .ref ru, .ref tx, .int zln, .int zat, .int zrk, .int zrv, .int zre, .int zwr, .int zrm, .int zrs, .int zis, .int zss, .int zsc, .ref dk, .ref dv, .ref ek, .ref ev, .ref er, .ref es, .ref et])), (ak, .inl (g.2.1.1, 152, .inl fk)), (av, .inl (g.2.1.1, 152, .inl fv)), (bk, .inl (g.2.1.1, 24, .inl ck)), (bv, .inl (g.2.1.1, 24, .inl cv)), (br, .inl (g.2.1.1, 24, .inl cr))] := hD
      refine lv_if_eq (tgt := 51) hx hb dX7_change_46 (by decide) (fun c_46 => absurd c_46 (by decide)) (fun c_46 => ?_)
      refine lv_iconst (v := 0) hx hb dX7_change_49 (by decide) ?_
      exact kreti hx hb hRt hlk hK hP hD hS rfl dX7_change_50 (⟨by rw [hk9]; rfl, by rw [hk9]⟩)
  · skip
    have hk9 : chgK C y w = 1 := by rw [chgK, if_pos (by rw [← hcl]; exact isB_nrng (by omega) c_13)]
    refine lv_iconst (v := 1) hx hb dX7_change_16 (by decide) ?_
    refine lv_goto (tgt := 21) hx hb dX7_change_17 (by decide) ?_
    refine kcalli (wc := [(h, .inr (9, [.int zth, .int (nI nA), .int (nI nB), .ref ak, .ref av, .ref bk, .ref bv, .ref br, .ref a_s, .ref a_t, .int zsg, .ref g1, .ref g2, .ref g3, .long zl1, .long zl2, .long zl3, .long zl4, .int zpb, .ref pa, .ref ru, .ref tx, .int zln, .int zat, .int zrk, .int zrv, .int zre, .int zwr, .int zrm, .int zrs, .int zis, .int zss, .int zsc, .ref dk, .ref dv, .ref ek, .ref ev, .ref er, .ref es, .ref et]))]) [0] (va_runV (C := RX7) (As := [.int 1, .int 1]) (rest := []) ⟨hx, hb, hml, hown, hts⟩ ((c_X7_fails1 l g h zth (nI nA) (nI nB) zsg zl1 zl2 zl3 zl4 zpb zln zat zrk zrv zre zwr zrm zrs zis zss zsc ak av bk bv br a_s a_t g1 g2 g3 pa ru tx dk dv ek ev er es et 1) _) (cwV 2 hts gX7_change_X7_fails rfl rfl rfl (by decide +kernel) ⟨Nat.le_of_ble_eq_true rfl, Nat.le_of_ble_eq_true rfl⟩) (kpreV (wc := [(h, .inr (9, [.int zth, .int (nI nA), .int (nI nB), .ref ak, .ref av, .ref bk, .ref bv, .ref br, .ref a_s, .ref a_t, .int zsg, .ref g1, .ref g2, .ref g3, .long zl1, .long zl2, .long zl3, .long zl4, .int zpb, .ref pa, .ref ru, .ref tx, .int zln, .int zat, .int zrk, .int zrv, .int zre, .int zwr, .int zrm, .int zrs, .int zis, .int zss, .int zsc, .ref dk, .ref dv, .ref ek, .ref ev, .ref er, .ref es, .ref et]))]) (ci := 9) hK hP hD hS hA hE [0] rfl rfl rfl rfl) rfl rfl hl.1 rfl (lv_room (Nat.le_of_ble_eq_true rfl)) dX7_change_21 ⟨Nat.zero_le _, Nat.zero_le _⟩) hP hD hS hA rfl (fun r_6 w_6 H locs hp hP hD hS => ?_)
    obtain ⟨rfl, rfl⟩ := hp
    have hP : va_P g.1 vwCl [(h, .inr (9, [.int 1, .int (nI nA), .int (nI nB), .ref ak, .ref av, .ref bk, .ref bv, .ref br, .ref a_s, .ref a_t, .int zsg, .ref g1, .ref g2, .ref g3, .long zl1, .long zl2, .long zl3, .long zl4, .int zpb, .ref pa, .ref ru, .ref tx, .int zln, .int zat, .int zrk, .int zrv, .int zre, .int zwr, .int zrm, .int zrs, .int zis, .int zss, .int zsc, .ref dk, .ref dv, .ref ek, .ref ev, .ref er, .ref es, .ref et])), (ak, .inl (g.2.1.1, 152, .inl fk)), (av, .inl (g.2.1.1, 152, .inl fv)), (bk, .inl (g.2.1.1, 24, .inl ck)), (bv, .inl (g.2.1.1, 24, .inl cv)), (br, .inl (g.2.1.1, 24, .inl cr))] H := hP
    have hD : va_D A [(h, .inr (9, [.int 1, .int (nI nA), .int (nI nB), .ref ak, .ref av, .ref bk, .ref bv, .ref br, .ref a_s, .ref a_t, .int zsg, .ref g1, .ref g2, .ref g3, .long zl1, .long zl2, .long zl3, .long zl4, .int zpb, .ref pa, .ref ru, .ref tx, .int zln, .int zat, .int zrk, .int zrv, .int zre, .int zwr, .int zrm, .int zrs, .int zis, .int zss, .int zsc, .ref dk, .ref dv, .ref ek, .ref ev, .ref er, .ref es, .ref et])), (ak, .inl (g.2.1.1, 152, .inl fk)), (av, .inl (g.2.1.1, 152, .inl fv)), (bk, .inl (g.2.1.1, 24, .inl ck)), (bv, .inl (g.2.1.1, 24, .inl cv)), (br, .inl (g.2.1.1, 24, .inl cr))] := hD
    refine lv_if_ne (tgt := 49) hx hb dX7_change_24 (by decide) (fun c_24 => ?_) (fun c_24 => absurd c_24 (by decide))
    refine lv_iconst (v := 0) hx hb dX7_change_49 (by decide) ?_
    exact kreti hx hb hRt hlk hK hP hD hS rfl dX7_change_50 (⟨by rw [hk9]; rfl, by rw [hk9]⟩)
set_option maxRecDepth 20000 in
theorem ggX7_isSetting_X7_isBetween : GoodIn wsX7_isSetting wsX7_isBetween := goodIn_r _ [4] (by decide +kernel) (by decide +kernel)
set_option maxRecDepth 20000 in
theorem gX7_isSetting_X7_isBetween : GoodIn wsX7_isSetting (va_wsS RX7 75 yX7_isBetween wsX7_isBetween) := goodIn_app (goodIn_of _ (by decide +kernel)) ggX7_isSetting_X7_isBetween
theorem dX7_isSetting_0 : decode cX7_isSetting 0 = .ok (.iload_n 0, 1) := by decide +kernel
theorem dX7_isSetting_1 : decode cX7_isSetting 1 = .ok (.tableswitch 63 0 3 #[31, 39, 47, 55], 31) := by decide +kernel
theorem dX7_isSetting_32 : decode cX7_isSetting 32 = .ok (.iload_n 1, 1) := by decide +kernel
theorem dX7_isSetting_33 : decode cX7_isSetting 33 = .ok (.iconst 1, 1) := by decide +kernel
theorem dX7_isSetting_34 : decode cX7_isSetting 34 = .ok (.bipush 8, 2) := by decide +kernel
theorem dX7_isSetting_36 : decode cX7_isSetting 36 = .ok (.invokestatic 75, 3) := by decide +kernel
theorem dX7_isSetting_39 : decode cX7_isSetting 39 = .ok (.ireturn, 1) := by decide +kernel
theorem dX7_isSetting_40 : decode cX7_isSetting 40 = .ok (.iload_n 1, 1) := by decide +kernel
theorem dX7_isSetting_41 : decode cX7_isSetting 41 = .ok (.iconst 1, 1) := by decide +kernel
theorem dX7_isSetting_42 : decode cX7_isSetting 42 = .ok (.bipush 20, 2) := by decide +kernel
theorem dX7_isSetting_44 : decode cX7_isSetting 44 = .ok (.invokestatic 75, 3) := by decide +kernel
theorem dX7_isSetting_47 : decode cX7_isSetting 47 = .ok (.ireturn, 1) := by decide +kernel
theorem dX7_isSetting_48 : decode cX7_isSetting 48 = .ok (.iload_n 1, 1) := by decide +kernel
theorem dX7_isSetting_49 : decode cX7_isSetting 49 = .ok (.iconst 1, 1) := by decide +kernel
theorem dX7_isSetting_50 : decode cX7_isSetting 50 = .ok (.bipush 16, 2) := by decide +kernel
theorem dX7_isSetting_52 : decode cX7_isSetting 52 = .ok (.invokestatic 75, 3) := by decide +kernel
theorem dX7_isSetting_55 : decode cX7_isSetting 55 = .ok (.ireturn, 1) := by decide +kernel
theorem dX7_isSetting_56 : decode cX7_isSetting 56 = .ok (.iload_n 1, 1) := by decide +kernel
theorem dX7_isSetting_57 : decode cX7_isSetting 57 = .ok (.iconst 0, 1) := by decide +kernel
theorem dX7_isSetting_58 : decode cX7_isSetting 58 = .ok (.bipush 9, 2) := by decide +kernel
theorem dX7_isSetting_60 : decode cX7_isSetting 60 = .ok (.invokestatic 75, 3) := by decide +kernel
theorem dX7_isSetting_63 : decode cX7_isSetting 63 = .ok (.ireturn, 1) := by decide +kernel
theorem dX7_isSetting_64 : decode cX7_isSetting 64 = .ok (.iconst 0, 1) := by decide +kernel
theorem dX7_isSetting_65 : decode cX7_isSetting 65 = .ok (.ireturn, 1) := by decide +kernel
def rm_X7_isSetting : Room := { frames := 1, cells := 0, slots := 0, locals := 22 }
abbrev p_X7_isSetting (g : kG) (w : Int32) (v : Int32) : Int32 → va_W → Prop := fun r w1 => r = kbool (stV w v) ∧ w1 = []
set_option maxHeartbeats 4000000 in
set_option maxRecDepth 100000 in
theorem c_X7_isSetting (l : Launch) (g : kG) (w : Int32) (v : Int32) : KI l yX7_isSetting wsX7_isSetting rm_X7_isSetting g [.int w, .int v] [] (p_X7_isSetting g w v) := by
  refine kbodyI (cc := cX7_isSetting) (n := 2) (k := 0) (own := RX7) (plainFor_of_name (by decide)) rfl rfl rfl rfl ?_
  intro p e s m below meth cd A ls hcx
  obtain ⟨hx, hb, hRt, hml, hts, hown, hlk, hA, hP, hK, hD, hE, hS, hl⟩ := hcx
  have hl : lv_has ls 2 [(0, .int w), (1, .int v)] := hl
  refine lv_iload_n hx hb dX7_isSetting_0 rfl (lv_at hl 0 rfl) ?_
  rcases (show w.toInt < 0 ∨ 3 < w.toInt ∨ w.toInt = 0 ∨ w.toInt = 1 ∨ w.toInt = 2 ∨ w.toInt = 3 from by omega) with s_1 | s_1 | s_1 | s_1 | s_1 | s_1
  · skip
    refine lv_tableOut (tgt := 64) hx hb dX7_isSetting_1 (Or.inl s_1) (by decide) ?_
    refine lv_iconst (v := 0) hx hb dX7_isSetting_64 (by decide) ?_
    exact kretz hx hb hRt hlk hK hP hD hS rfl dX7_isSetting_65 (by decide) (⟨by rw [stV_out (by omega)]; rfl, rfl⟩)
  · skip
    refine lv_tableOut (tgt := 64) hx hb dX7_isSetting_1 (Or.inr s_1) (by decide) ?_
    refine lv_iconst (v := 0) hx hb dX7_isSetting_64 (by decide) ?_
    exact kretz hx hb hRt hlk hK hP hD hS rfl dX7_isSetting_65 (by decide) (⟨by rw [stV_out (by omega)]; rfl, rfl⟩)
  · skip
    have e_1 : w = 0 := Int32.toInt_inj.mp (s_1.trans (show (0 : Int) = (0 : Int32).toInt by decide))
    refine lv_tableIn (off := 31) (tgt := 32) hx hb dX7_isSetting_1 (by omega) (by omega) (by rw [s_1]; rfl) (by decide) ?_
    refine lv_iload_n hx hb dX7_isSetting_32 rfl (lv_at hl 1 rfl) ?_
    refine lv_iconst (v := 1) hx hb dX7_isSetting_33 (by decide) ?_
    refine lv_bipush (v := 8) hx hb dX7_isSetting_34 (by decide) ?_
    refine kcalli (wc := []) [] (va_runS (As := [.int v, .int 1, .int 8]) (rest := []) ⟨hx, hb, hml, hown, hts⟩ ((c_X7_isBetween l g v 1 8) _) (va_cwS 3 hts gX7_isSetting_X7_isBetween rfl rfl rfl (by decide +kernel) ⟨Nat.le_of_ble_eq_true rfl, Nat.le_of_ble_eq_true rfl⟩) (kpreS (wc := []) hK hP hD hS hA hE [] rfl rfl) rfl rfl hl.1 rfl (lv_room (Nat.le_of_ble_eq_true rfl)) dX7_isSetting_36 ⟨Nat.zero_le _, Nat.zero_le _⟩) hP hD hS hA rfl (fun r_1 w_1 H locs hp hP hD hS => ?_)
    obtain ⟨rfl, rfl⟩ := hp
    have hP : va_P g.1 vwCl [] H := hP
    have hD : va_D A [] := hD
    exact kretz hx hb hRt hlk hK hP hD hS rfl dX7_isSetting_39 (isB_01 _ _ _) (⟨by rw [e_1, stV_0, isB_k], rfl⟩)
  · skip
    have e_1 : w = 1 := Int32.toInt_inj.mp (s_1.trans (show (1 : Int) = (1 : Int32).toInt by decide))
    refine lv_tableIn (off := 39) (tgt := 40) hx hb dX7_isSetting_1 (by omega) (by omega) (by rw [s_1]; rfl) (by decide) ?_
    refine lv_iload_n hx hb dX7_isSetting_40 rfl (lv_at hl 1 rfl) ?_
    refine lv_iconst (v := 1) hx hb dX7_isSetting_41 (by decide) ?_
    refine lv_bipush (v := 20) hx hb dX7_isSetting_42 (by decide) ?_
    refine kcalli (wc := []) [] (va_runS (As := [.int v, .int 1, .int 20]) (rest := []) ⟨hx, hb, hml, hown, hts⟩ ((c_X7_isBetween l g v 1 20) _) (va_cwS 3 hts gX7_isSetting_X7_isBetween rfl rfl rfl (by decide +kernel) ⟨Nat.le_of_ble_eq_true rfl, Nat.le_of_ble_eq_true rfl⟩) (kpreS (wc := []) hK hP hD hS hA hE [] rfl rfl) rfl rfl hl.1 rfl (lv_room (Nat.le_of_ble_eq_true rfl)) dX7_isSetting_44 ⟨Nat.zero_le _, Nat.zero_le _⟩) hP hD hS hA rfl (fun r_2 w_2 H locs hp hP hD hS => ?_)
    obtain ⟨rfl, rfl⟩ := hp
    have hP : va_P g.1 vwCl [] H := hP
    have hD : va_D A [] := hD
    exact kretz hx hb hRt hlk hK hP hD hS rfl dX7_isSetting_47 (isB_01 _ _ _) (⟨by rw [e_1, stV_1, isB_k], rfl⟩)
  · skip
    have e_1 : w = 2 := Int32.toInt_inj.mp (s_1.trans (show (2 : Int) = (2 : Int32).toInt by decide))
    refine lv_tableIn (off := 47) (tgt := 48) hx hb dX7_isSetting_1 (by omega) (by omega) (by rw [s_1]; rfl) (by decide) ?_
    refine lv_iload_n hx hb dX7_isSetting_48 rfl (lv_at hl 1 rfl) ?_
    refine lv_iconst (v := 1) hx hb dX7_isSetting_49 (by decide) ?_
    refine lv_bipush (v := 16) hx hb dX7_isSetting_50 (by decide) ?_
    refine kcalli (wc := []) [] (va_runS (As := [.int v, .int 1, .int 16]) (rest := []) ⟨hx, hb, hml, hown, hts⟩ ((c_X7_isBetween l g v 1 16) _) (va_cwS 3 hts gX7_isSetting_X7_isBetween rfl rfl rfl (by decide +kernel) ⟨Nat.le_of_ble_eq_true rfl, Nat.le_of_ble_eq_true rfl⟩) (kpreS (wc := []) hK hP hD hS hA hE [] rfl rfl) rfl rfl hl.1 rfl (lv_room (Nat.le_of_ble_eq_true rfl)) dX7_isSetting_52 ⟨Nat.zero_le _, Nat.zero_le _⟩) hP hD hS hA rfl (fun r_3 w_3 H locs hp hP hD hS => ?_)
    obtain ⟨rfl, rfl⟩ := hp
    have hP : va_P g.1 vwCl [] H := hP
    have hD : va_D A [] := hD
    exact kretz hx hb hRt hlk hK hP hD hS rfl dX7_isSetting_55 (isB_01 _ _ _) (⟨by rw [e_1, stV_2, isB_k], rfl⟩)
  · skip
    have e_1 : w = 3 := Int32.toInt_inj.mp (s_1.trans (show (3 : Int) = (3 : Int32).toInt by decide))
    refine lv_tableIn (off := 55) (tgt := 56) hx hb dX7_isSetting_1 (by omega) (by omega) (by rw [s_1]; rfl) (by decide) ?_
    refine lv_iload_n hx hb dX7_isSetting_56 rfl (lv_at hl 1 rfl) ?_
    refine lv_iconst (v := 0) hx hb dX7_isSetting_57 (by decide) ?_
    refine lv_bipush (v := 9) hx hb dX7_isSetting_58 (by decide) ?_
    refine kcalli (wc := []) [] (va_runS (As := [.int v, .int 0, .int 9]) (rest := []) ⟨hx, hb, hml, hown, hts⟩ ((c_X7_isBetween l g v 0 9) _) (va_cwS 3 hts gX7_isSetting_X7_isBetween rfl rfl rfl (by decide +kernel) ⟨Nat.le_of_ble_eq_true rfl, Nat.le_of_ble_eq_true rfl⟩) (kpreS (wc := []) hK hP hD hS hA hE [] rfl rfl) rfl rfl hl.1 rfl (lv_room (Nat.le_of_ble_eq_true rfl)) dX7_isSetting_60 ⟨Nat.zero_le _, Nat.zero_le _⟩) hP hD hS hA rfl (fun r_4 w_4 H locs hp hP hD hS => ?_)
    obtain ⟨rfl, rfl⟩ := hp
    have hP : va_P g.1 vwCl [] H := hP
    have hD : va_D A [] := hD
    exact kretz hx hb hRt hlk hK hP hD hS rfl dX7_isSetting_63 (isB_01 _ _ _) (⟨by rw [e_1, stV_3, isB_k], rfl⟩)
set_option maxRecDepth 20000 in
theorem ggX7_set_X7_isSetting : GoodIn wsX7_set wsX7_isSetting := goodIn_r _ [5, 6, 7, 4, 8] (by decide +kernel) (by decide +kernel)
set_option maxRecDepth 20000 in
theorem gX7_set_X7_isSetting : GoodIn wsX7_set (va_wsS RX7 206 yX7_isSetting wsX7_isSetting) := goodIn_app (goodIn_of _ (by decide +kernel)) ggX7_set_X7_isSetting
set_option maxRecDepth 20000 in
theorem ggX7_set_X7_fails : GoodIn wsX7_set wsX7_fails := goodIn_r _ [12, 13, 69, 70, 71, 72, 73, 74, 75, 76, 77, 78, 79, 80, 81, 82, 83, 84, 85, 86, 87, 88, 89, 90, 91, 92, 93, 94, 95, 96, 97, 98, 99, 100, 101, 102, 103, 104, 105, 106, 107, 108] (by decide +kernel) (by decide +kernel)
set_option maxRecDepth 20000 in
theorem gX7_set_X7_fails : GoodIn wsX7_set (wsV RX7 120 RX7 yX7_fails wsX7_fails) := goodIn_app (goodIn_of _ (by decide +kernel)) ggX7_set_X7_fails
set_option maxRecDepth 20000 in
theorem ggX7_set_X7_build : GoodIn wsX7_set wsX7_build := goodIn_ca (goodIn_ca (goodIn_r _ [17, 18, 19, 20, 21, 22, 23, 24, 25, 26, 27, 4, 28, 29, 30, 31, 32, 33, 34, 35, 36, 37, 38, 39, 40, 41, 42, 69, 70, 71, 72, 73, 74, 75, 76, 77, 78, 79, 80, 81, 82, 83, 84, 85, 86, 87, 88, 89, 90, 91, 92, 93, 94, 95, 96, 97, 98, 99, 100, 101, 102, 103, 104, 105, 106, 107, 108] (by decide +kernel) (by decide +kernel)) (goodIn_sub (fun _ h => List.mem_cons_of_mem _ (List.mem_append_left _ (List.mem_append_right _ h))) (by decide +kernel))) (goodIn_sub (fun _ h => List.mem_cons_of_mem _ (List.mem_append_right _ h)) (by decide +kernel))
set_option maxRecDepth 20000 in
theorem gX7_set_X7_build : GoodIn wsX7_set (wsV RX7 100 RX7 yX7_build wsX7_build) := goodIn_app (goodIn_of _ (by decide +kernel)) ggX7_set_X7_build
set_option maxRecDepth 20000 in
theorem ggX7_set_X7_mergeIfFull : GoodIn wsX7_set wsX7_mergeIfFull := goodIn_ca (goodIn_ca (goodIn_r _ [46, 47, 1, 48, 49, 50, 4, 51, 52, 53, 54, 55, 56, 57, 58, 59, 60, 19, 39, 61, 62, 63, 64, 65, 66, 67, 68, 14, 15, 16, 17, 18, 20, 21, 22, 23, 24, 25, 26, 27, 28, 29, 30, 31, 32, 33, 34, 35, 36, 37, 38, 40, 41, 42, 69, 70, 71, 72, 73, 74, 75, 76, 77, 78, 79, 80, 81, 82, 83, 84, 85, 86, 87, 88, 89, 90, 91, 92, 93, 94, 95, 96, 97, 98, 99, 100, 101, 102, 103, 104, 105, 106, 107, 108] (by decide +kernel) (by decide +kernel)) (goodIn_sub (fun _ h => List.mem_cons_of_mem _ (List.mem_append_left _ (List.mem_append_right _ h))) (by decide +kernel))) (goodIn_sub (fun _ h => List.mem_cons_of_mem _ (List.mem_append_right _ h)) (by decide +kernel))
set_option maxRecDepth 20000 in
theorem gX7_set_X7_mergeIfFull : GoodIn wsX7_set (wsV RX7 110 RX7 yX7_mergeIfFull wsX7_mergeIfFull) := goodIn_app (goodIn_of _ (by decide +kernel)) ggX7_set_X7_mergeIfFull
theorem dX7_set_0 : decode cX7_set 0 = .ok (.aload_n 0, 1) := by decide +kernel
theorem dX7_set_1 : decode cX7_set 1 = .ok (.iconst 1, 1) := by decide +kernel
theorem dX7_set_2 : decode cX7_set 2 = .ok (.iload_n 1, 1) := by decide +kernel
theorem dX7_set_3 : decode cX7_set 3 = .ok (.iload_n 2, 1) := by decide +kernel
theorem dX7_set_4 : decode cX7_set 4 = .ok (.invokestatic 206, 3) := by decide +kernel
theorem dX7_set_7 : decode cX7_set 7 = .ok (.ifCond .ne 7, 3) := by decide +kernel
theorem dX7_set_10 : decode cX7_set 10 = .ok (.iconst 1, 1) := by decide +kernel
theorem dX7_set_11 : decode cX7_set 11 = .ok (.goto 4, 3) := by decide +kernel
theorem dX7_set_14 : decode cX7_set 14 = .ok (.iconst 0, 1) := by decide +kernel
theorem dX7_set_15 : decode cX7_set 15 = .ok (.invokevirtual 120, 3) := by decide +kernel
theorem dX7_set_18 : decode cX7_set 18 = .ok (.ifCond .eq 5, 3) := by decide +kernel
theorem dX7_set_21 : decode cX7_set 21 = .ok (.iconst 0, 1) := by decide +kernel
theorem dX7_set_22 : decode cX7_set 22 = .ok (.ireturn, 1) := by decide +kernel
theorem dX7_set_23 : decode cX7_set 23 = .ok (.aload_n 0, 1) := by decide +kernel
theorem dX7_set_24 : decode cX7_set 24 = .ok (.getfield 25, 3) := by decide +kernel
theorem dX7_set_27 : decode cX7_set 27 = .ok (.iload_n 1, 1) := by decide +kernel
theorem dX7_set_28 : decode cX7_set 28 = .ok (.iaload, 1) := by decide +kernel
theorem dX7_set_29 : decode cX7_set 29 = .ok (.istore_n 3, 1) := by decide +kernel
theorem dX7_set_30 : decode cX7_set 30 = .ok (.aload_n 0, 1) := by decide +kernel
theorem dX7_set_31 : decode cX7_set 31 = .ok (.getfield 25, 3) := by decide +kernel
theorem dX7_set_34 : decode cX7_set 34 = .ok (.iload_n 1, 1) := by decide +kernel
theorem dX7_set_35 : decode cX7_set 35 = .ok (.iload_n 2, 1) := by decide +kernel
theorem dX7_set_36 : decode cX7_set 36 = .ok (.iastore, 1) := by decide +kernel
theorem dX7_set_37 : decode cX7_set 37 = .ok (.iload_n 1, 1) := by decide +kernel
theorem dX7_set_38 : decode cX7_set 38 = .ok (.ifCond .ne 8, 3) := by decide +kernel
theorem dX7_set_41 : decode cX7_set 41 = .ok (.aload_n 0, 1) := by decide +kernel
theorem dX7_set_42 : decode cX7_set 42 = .ok (.iload_n 2, 1) := by decide +kernel
theorem dX7_set_43 : decode cX7_set 43 = .ok (.invokevirtual 100, 3) := by decide +kernel
theorem dX7_set_46 : decode cX7_set 46 = .ok (.iload_n 1, 1) := by decide +kernel
theorem dX7_set_47 : decode cX7_set 47 = .ok (.iconst 1, 1) := by decide +kernel
theorem dX7_set_48 : decode cX7_set 48 = .ok (.if_icmp .ne 7, 3) := by decide +kernel
theorem dX7_set_51 : decode cX7_set 51 = .ok (.aload_n 0, 1) := by decide +kernel
theorem dX7_set_52 : decode cX7_set 52 = .ok (.invokevirtual 110, 3) := by decide +kernel
theorem dX7_set_55 : decode cX7_set 55 = .ok (.iload_n 3, 1) := by decide +kernel
theorem dX7_set_56 : decode cX7_set 56 = .ok (.ireturn, 1) := by decide +kernel
def rm_X7_set : Room := { frames := 70, cells := 0, slots := 0, locals := 1473 }
abbrev p_X7_set (g : kG) (h : Nat) (zth : Int32) (zl1 : Int64) (zl2 : Int64) (zl3 : Int64) (zl4 : Int64) (zpb : Int32) (zln : Int32) (zat : Int32) (zrk : Int32) (zrv : Int32) (zre : Int32) (zwr : Int32) (zrm : Int32) (zrs : Int32) (zis : Int32) (zss : Int32) (zsc : Int32) (ak : Nat) (av : Nat) (bk : Nat) (bv : Nat) (br : Nat) (a_s : Nat) (a_t : Nat) (g1 : Nat) (g2 : Nat) (g3 : Nat) (pa : Nat) (ru : Nat) (tx : Nat) (dk : Nat) (dv : Nat) (ek : Nat) (ev : Nat) (er : Nat) (es : Nat) (et : Nat) (nA : Nat) (fk : Nat → Int32) (fv : Nat → Int32) (nB : Nat) (ck : Nat → Int32) (cv : Nat → Int32) (cr : Nat → Int32) (fS : Nat → Int32) (fT : Nat → Int32) (mS : Nat) (y1 : Nat → Int32) (y2 : Nat → Int32) (y3 : Nat → Int32) (M : List kE3) (C : List kE3) (S : Nat → Int32) (T : Nat → Int32) (w : Int32) (v : Int32) : Int32 → va_W → Prop := fun r w1 => ∃ (n2 : Nat), ∃ (fk2 : Nat → Int32), ∃ (fv2 : Nat → Int32), ∃ (c2 : Nat), ∃ (ck2 : Nat → Int32), ∃ (cv2 : Nat → Int32), ∃ (cr2 : Nat → Int32), ∃ (t2 : Nat → Int32), ∃ (m2 : Nat), ∃ (x1 : Nat → Int32), ∃ (x2 : Nat → Int32), ∃ (x3 : Nat → Int32), ∃ (l1x : Int64), ∃ (l2x : Int64), ∃ (l3x : Int64), ∃ (l4x : Int64), ∃ (fS2 : Nat → Int32), r = (if (setK w v) = 0 then S w.toNatClampNeg else 0) ∧ (kMX n2 fk2 fv2 c2 ck2 cv2 cr2 fS2 t2 m2 x1 x2 x3 (if (setK w v) = 0 then (setS M C S T w v).1 else M) (if (setK w v) = 0 then (setS M C S T w v).2.1 else C) (if (setK w v) = 0 then upd S w.toNatClampNeg v else S) (if (setK w v) = 0 then (setS M C S T w v).2.2 else T)) ∧ w1 = [(h, .inr (9, [.int (setK w v), .int (nI n2), .int (nI c2), .ref ak, .ref av, .ref bk, .ref bv, .ref br, .ref a_s, .ref a_t, .int (nI m2), .ref g1, .ref g2, .ref g3, .long l1x, .long l2x, .long l3x, .long l4x, .int zpb, .ref pa, .ref ru, .ref tx, .int zln, .int zat, .int zrk, .int zrv, .int zre, .int zwr, .int zrm, .int zrs, .int zis, .int zss, .int zsc, .ref dk, .ref dv, .ref ek, .ref ev, .ref er, .ref es, .ref et])), (ak, .inl (g.2.1.1, 152, .inl fk2)), (av, .inl (g.2.1.1, 152, .inl fv2)), (bk, .inl (g.2.1.1, 24, .inl ck2)), (bv, .inl (g.2.1.1, 24, .inl cv2)), (br, .inl (g.2.1.1, 24, .inl cr2)), (a_s, .inl (g.2.1.1, 4, .inl fS2)), (a_t, .inl (g.2.1.1, 5, .inl t2)), (g1, .inl (g.2.1.1, 152, .inl x1)), (g2, .inl (g.2.1.1, 152, .inl x2)), (g3, .inl (g.2.1.1, 152, .inl x3))]
set_option maxHeartbeats 4000000 in
set_option maxRecDepth 100000 in
theorem c_X7_set (l : Launch) (g : kG) (h : Nat) (zth : Int32) (zl1 : Int64) (zl2 : Int64) (zl3 : Int64) (zl4 : Int64) (zpb : Int32) (zln : Int32) (zat : Int32) (zrk : Int32) (zrv : Int32) (zre : Int32) (zwr : Int32) (zrm : Int32) (zrs : Int32) (zis : Int32) (zss : Int32) (zsc : Int32) (ak : Nat) (av : Nat) (bk : Nat) (bv : Nat) (br : Nat) (a_s : Nat) (a_t : Nat) (g1 : Nat) (g2 : Nat) (g3 : Nat) (pa : Nat) (ru : Nat) (tx : Nat) (dk : Nat) (dv : Nat) (ek : Nat) (ev : Nat) (er : Nat) (es : Nat) (et : Nat) (nA : Nat) (fk : Nat → Int32) (fv : Nat → Int32) (nB : Nat) (ck : Nat → Int32) (cv : Nat → Int32) (cr : Nat → Int32) (fS : Nat → Int32) (fT : Nat → Int32) (mS : Nat) (y1 : Nat → Int32) (y2 : Nat → Int32) (y3 : Nat → Int32) (M : List kE3) (C : List kE3) (S : Nat → Int32) (T : Nat → Int32) (w : Int32) (v : Int32) (hMX : kMX nA fk fv nB ck cv cr fS fT mS y1 y2 y3 M C S T) : KI l yX7_set wsX7_set rm_X7_set g [.ref h, .int w, .int v] [(h, .inr (9, [.int zth, .int (nI nA), .int (nI nB), .ref ak, .ref av, .ref bk, .ref bv, .ref br, .ref a_s, .ref a_t, .int (nI mS), .ref g1, .ref g2, .ref g3, .long zl1, .long zl2, .long zl3, .long zl4, .int zpb, .ref pa, .ref ru, .ref tx, .int zln, .int zat, .int zrk, .int zrv, .int zre, .int zwr, .int zrm, .int zrs, .int zis, .int zss, .int zsc, .ref dk, .ref dv, .ref ek, .ref ev, .ref er, .ref es, .ref et])), (ak, .inl (g.2.1.1, 152, .inl fk)), (av, .inl (g.2.1.1, 152, .inl fv)), (bk, .inl (g.2.1.1, 24, .inl ck)), (bv, .inl (g.2.1.1, 24, .inl cv)), (br, .inl (g.2.1.1, 24, .inl cr)), (a_s, .inl (g.2.1.1, 4, .inl fS)), (a_t, .inl (g.2.1.1, 5, .inl fT)), (g1, .inl (g.2.1.1, 152, .inl y1)), (g2, .inl (g.2.1.1, 152, .inl y2)), (g3, .inl (g.2.1.1, 152, .inl y3))] (p_X7_set g h zth zl1 zl2 zl3 zl4 zpb zln zat zrk zrv zre zwr zrm zrs zis zss zsc ak av bk bv br a_s a_t g1 g2 g3 pa ru tx dk dv ek ev er es et nA fk fv nB ck cv cr fS fT mS y1 y2 y3 M C S T w v) := by
  refine kbodyI (cc := cX7_set) (n := 4) (k := 11) (own := RX7) (plainFor_of_name (by decide)) rfl rfl rfl rfl ?_
  intro p e s m below meth cd A ls hcx
  obtain ⟨hx, hb, hRt, hml, hts, hown, hlk, hA, hP, hK, hD, hE, hS, hl⟩ := hcx
  have hl : lv_has ls 4 [(0, .ref h), (1, .int w), (2, .int v)] := hl
  obtain ⟨hMM, hS4, hT5, hKS, hSGm⟩ := id hMX
  obtain ⟨⟨hM, hC⟩, ⟨hnM, hnC⟩, ⟨hIM, hIC⟩, hlen, hrem⟩ := id hMM
  have hsM : kSo (EL nA fk fv fz0) := by rw [hM]; exact hIM.1
  have hsC : kSo (EL nB ck cv cr) := by rw [hC]; exact hIC.1
  have hnl : nA = M.length := by rw [← hM, EL_len]
  have hcl : nB = C.length := by rw [← hC, EL_len]
  obtain ⟨⟨hS01, hS02⟩, ⟨hS11, hS12⟩, ⟨hS21, hS22⟩, ⟨hS31, hS32⟩⟩ := id hKS
  refine lv_aload_n hx hb dX7_set_0 rfl (lv_at hl 0 rfl) ?_
  refine lv_iconst (v := 1) hx hb dX7_set_1 (by decide) ?_
  refine lv_iload_n hx hb dX7_set_2 rfl (lv_at hl 1 rfl) ?_
  refine lv_iload_n hx hb dX7_set_3 rfl (lv_at hl 2 rfl) ?_
  refine kcalli (wc := []) [] (va_runS (As := [.int w, .int v]) (rest := [.int 1, .ref h]) ⟨hx, hb, hml, hown, hts⟩ ((c_X7_isSetting l g w v) _) (va_cwS 2 hts gX7_set_X7_isSetting rfl rfl rfl (by decide +kernel) ⟨Nat.le_of_ble_eq_true rfl, Nat.le_of_ble_eq_true rfl⟩) (kpreS (wc := []) hK hP hD hS hA hE [] rfl rfl) rfl rfl hl.1 rfl (lv_room (Nat.le_of_ble_eq_true rfl)) dX7_set_4 ⟨Nat.zero_le _, Nat.zero_le _⟩) hP hD hS hA rfl (fun r_1 w_1 H locs hp hP hD hS => ?_)
  obtain ⟨rfl, rfl⟩ := hp
  have hP : va_P g.1 vwCl [(h, .inr (9, [.int zth, .int (nI nA), .int (nI nB), .ref ak, .ref av, .ref bk, .ref bv, .ref br, .ref a_s, .ref a_t, .int (nI mS), .ref g1, .ref g2, .ref g3, .long zl1, .long zl2, .long zl3, .long zl4, .int zpb, .ref pa, .ref ru, .ref tx, .int zln, .int zat, .int zrk, .int zrv, .int zre, .int zwr, .int zrm, .int zrs, .int zis, .int zss, .int zsc, .ref dk, .ref dv, .ref ek, .ref ev, .ref er, .ref es, .ref et])), (ak, .inl (g.2.1.1, 152, .inl fk)), (av, .inl (g.2.1.1, 152, .inl fv)), (bk, .inl (g.2.1.1, 24, .inl ck)), (bv, .inl (g.2.1.1, 24, .inl cv)), (br, .inl (g.2.1.1, 24, .inl cr)), (a_s, .inl (g.2.1.1, 4, .inl fS)), (a_t, .inl (g.2.1.1, 5, .inl fT)), (g1, .inl (g.2.1.1, 152, .inl y1)), (g2, .inl (g.2.1.1, 152, .inl y2)), (g3, .inl (g.2.1.1, 152, .inl y3))] H := hP
  have hD : va_D A [(h, .inr (9, [.int zth, .int (nI nA), .int (nI nB), .ref ak, .ref av, .ref bk, .ref bv, .ref br, .ref a_s, .ref a_t, .int (nI mS), .ref g1, .ref g2, .ref g3, .long zl1, .long zl2, .long zl3, .long zl4, .int zpb, .ref pa, .ref ru, .ref tx, .int zln, .int zat, .int zrk, .int zrv, .int zre, .int zwr, .int zrm, .int zrs, .int zis, .int zss, .int zsc, .ref dk, .ref dv, .ref ek, .ref ev, .ref er, .ref es, .ref et])), (ak, .inl (g.2.1.1, 152, .inl fk)), (av, .inl (g.2.1.1, 152, .inl fv)), (bk, .inl (g.2.1.1, 24, .inl ck)), (bv, .inl (g.2.1.1, 24, .inl cv)), (br, .inl (g.2.1.1, 24, .inl cr)), (a_s, .inl (g.2.1.1, 4, .inl fS)), (a_t, .inl (g.2.1.1, 5, .inl fT)), (g1, .inl (g.2.1.1, 152, .inl y1)), (g2, .inl (g.2.1.1, 152, .inl y2)), (g3, .inl (g.2.1.1, 152, .inl y3))] := hD
  refine lv_if_ne (tgt := 14) hx hb dX7_set_7 (by decide) (fun c_7 => ?_) (fun c_7 => ?_)
  · skip
    have hst : stV w v = true := (kbool_ne _).mp c_7
    obtain ⟨hw4, hK2⟩ := stV_ok hst hKS
    have hw5 : w = nI w.toNatClampNeg ∧ w.toNatClampNeg < 4 := by rcases hw4 with rfl | rfl | rfl | rfl <;> decide
    have hk9 : setK w v = 0 := by rw [setK, if_pos hst]
    refine lv_iconst (v := 0) hx hb dX7_set_14 (by decide) ?_
    refine kcalli (wc := [(h, .inr (9, [.int zth, .int (nI nA), .int (nI nB), .ref ak, .ref av, .ref bk, .ref bv, .ref br, .ref a_s, .ref a_t, .int (nI mS), .ref g1, .ref g2, .ref g3, .long zl1, .long zl2, .long zl3, .long zl4, .int zpb, .ref pa, .ref ru, .ref tx, .int zln, .int zat, .int zrk, .int zrv, .int zre, .int zwr, .int zrm, .int zrs, .int zis, .int zss, .int zsc, .ref dk, .ref dv, .ref ek, .ref ev, .ref er, .ref es, .ref et]))]) [0] (va_runV (C := RX7) (As := [.int 1, .int 0]) (rest := []) ⟨hx, hb, hml, hown, hts⟩ ((c_X7_fails0 l g h zth (nI nA) (nI nB) (nI mS) zl1 zl2 zl3 zl4 zpb zln zat zrk zrv zre zwr zrm zrs zis zss zsc ak av bk bv br a_s a_t g1 g2 g3 pa ru tx dk dv ek ev er es et 1) _) (cwV 2 hts gX7_set_X7_fails rfl rfl rfl (by decide +kernel) ⟨Nat.le_of_ble_eq_true rfl, Nat.le_of_ble_eq_true rfl⟩) (kpreV (wc := [(h, .inr (9, [.int zth, .int (nI nA), .int (nI nB), .ref ak, .ref av, .ref bk, .ref bv, .ref br, .ref a_s, .ref a_t, .int (nI mS), .ref g1, .ref g2, .ref g3, .long zl1, .long zl2, .long zl3, .long zl4, .int zpb, .ref pa, .ref ru, .ref tx, .int zln, .int zat, .int zrk, .int zrv, .int zre, .int zwr, .int zrm, .int zrs, .int zis, .int zss, .int zsc, .ref dk, .ref dv, .ref ek, .ref ev, .ref er, .ref es, .ref et]))]) (ci := 9) hK hP hD hS hA hE [0] rfl rfl rfl rfl) rfl rfl hl.1 rfl (lv_room (Nat.le_of_ble_eq_true rfl)) dX7_set_15 ⟨Nat.zero_le _, Nat.zero_le _⟩) hP hD hS hA rfl (fun r_2 w_2 H locs hp hP hD hS => ?_)
    obtain ⟨rfl, rfl⟩ := hp
    have hP : va_P g.1 vwCl [(h, .inr (9, [.int 0, .int (nI nA), .int (nI nB), .ref ak, .ref av, .ref bk, .ref bv, .ref br, .ref a_s, .ref a_t, .int (nI mS), .ref g1, .ref g2, .ref g3, .long zl1, .long zl2, .long zl3, .long zl4, .int zpb, .ref pa, .ref ru, .ref tx, .int zln, .int zat, .int zrk, .int zrv, .int zre, .int zwr, .int zrm, .int zrs, .int zis, .int zss, .int zsc, .ref dk, .ref dv, .ref ek, .ref ev, .ref er, .ref es, .ref et])), (ak, .inl (g.2.1.1, 152, .inl fk)), (av, .inl (g.2.1.1, 152, .inl fv)), (bk, .inl (g.2.1.1, 24, .inl ck)), (bv, .inl (g.2.1.1, 24, .inl cv)), (br, .inl (g.2.1.1, 24, .inl cr)), (a_s, .inl (g.2.1.1, 4, .inl fS)), (a_t, .inl (g.2.1.1, 5, .inl fT)), (g1, .inl (g.2.1.1, 152, .inl y1)), (g2, .inl (g.2.1.1, 152, .inl y2)), (g3, .inl (g.2.1.1, 152, .inl y3))] H := hP
    have hD : va_D A [(h, .inr (9, [.int 0, .int (nI nA), .int (nI nB), .ref ak, .ref av, .ref bk, .ref bv, .ref br, .ref a_s, .ref a_t, .int (nI mS), .ref g1, .ref g2, .ref g3, .long zl1, .long zl2, .long zl3, .long zl4, .int zpb, .ref pa, .ref ru, .ref tx, .int zln, .int zat, .int zrk, .int zrv, .int zre, .int zwr, .int zrm, .int zrs, .int zis, .int zss, .int zsc, .ref dk, .ref dv, .ref ek, .ref ev, .ref er, .ref es, .ref et])), (ak, .inl (g.2.1.1, 152, .inl fk)), (av, .inl (g.2.1.1, 152, .inl fv)), (bk, .inl (g.2.1.1, 24, .inl ck)), (bv, .inl (g.2.1.1, 24, .inl cv)), (br, .inl (g.2.1.1, 24, .inl cr)), (a_s, .inl (g.2.1.1, 4, .inl fS)), (a_t, .inl (g.2.1.1, 5, .inl fT)), (g1, .inl (g.2.1.1, 152, .inl y1)), (g2, .inl (g.2.1.1, 152, .inl y2)), (g3, .inl (g.2.1.1, 152, .inl y3))] := hD
    refine lv_if_eq (tgt := 23) hx hb dX7_set_18 (by decide) (fun c_18 => ?_) (fun c_18 => absurd (by decide) c_18)
    refine lv_aload_n hx hb dX7_set_23 rfl (lv_at hl 0 rfl) ?_
    refine va_get (D := g.1) (ci := 9) (v := .ref a_s) (C := RX7) (T := TX7) (N := 40) hx hb hts (by decide +kernel) hown hK hP 0 rfl rfl 8 (by decide) (hts (.fieldLink RX7 25 "LearnedIndexModel" "settings" "[I") (by decide +kernel)) (fun _ h9 => h9) rfl dX7_set_24 ?_
    refine lv_iload_n hx hb dX7_set_27 rfl (lv_at hl 1 rfl) ?_
    refine lv_topi (fun v28 e_v28 => ?_)
    rw [show (v28 : Int32) = nI w.toNatClampNeg from e_v28.trans hw5.1]
    refine va_iald hx hb hK hP 6 0 rfl rfl (vp_in_nI (show w.toNatClampNeg < 4 by omega) (by omega)) dX7_set_28 ?_
    rw [show (nI w.toNatClampNeg : Int32).toNatClampNeg = w.toNatClampNeg from nI_clamp (n := w.toNatClampNeg) (by omega)]
    rw [show (fS w.toNatClampNeg : Int32) = S w.toNatClampNeg from hS4 _ hw5.2]
    refine lv_istore_n (lv' := [(3, .int (S w.toNatClampNeg)), (0, .ref h), (1, .int w), (2, .int v)]) hx hb dX7_set_29 rfl hl (by decide) rfl (fun ls hl => ?_)
    refine lv_aload_n hx hb dX7_set_30 rfl (lv_at hl 1 rfl) ?_
    refine va_get (D := g.1) (ci := 9) (v := .ref a_s) (C := RX7) (T := TX7) (N := 40) hx hb hts (by decide +kernel) hown hK hP 0 rfl rfl 8 (by decide) (hts (.fieldLink RX7 25 "LearnedIndexModel" "settings" "[I") (by decide +kernel)) (fun _ h9 => h9) rfl dX7_set_31 ?_
    refine lv_iload_n hx hb dX7_set_34 rfl (lv_at hl 2 rfl) ?_
    refine lv_topi (fun v35 e_v35 => ?_)
    rw [show (v35 : Int32) = nI w.toNatClampNeg from e_v35.trans hw5.1]
    refine lv_iload_n hx hb dX7_set_35 rfl (lv_at hl 3 rfl) ?_
    refine va_iast hx hb hK hP hD hS 6 0 rfl rfl (vp_in_nI (show w.toNatClampNeg < 4 by omega) (by omega)) dX7_set_36 (fun H locs hP hD hS => ?_)
    rw [show (nI w.toNatClampNeg : Int32).toNatClampNeg = w.toNatClampNeg from nI_clamp (n := w.toNatClampNeg) (by omega)] at hP hD
    have hP : va_P g.1 vwCl [(h, .inr (9, [.int 0, .int (nI nA), .int (nI nB), .ref ak, .ref av, .ref bk, .ref bv, .ref br, .ref a_s, .ref a_t, .int (nI mS), .ref g1, .ref g2, .ref g3, .long zl1, .long zl2, .long zl3, .long zl4, .int zpb, .ref pa, .ref ru, .ref tx, .int zln, .int zat, .int zrk, .int zrv, .int zre, .int zwr, .int zrm, .int zrs, .int zis, .int zss, .int zsc, .ref dk, .ref dv, .ref ek, .ref ev, .ref er, .ref es, .ref et])), (ak, .inl (g.2.1.1, 152, .inl fk)), (av, .inl (g.2.1.1, 152, .inl fv)), (bk, .inl (g.2.1.1, 24, .inl ck)), (bv, .inl (g.2.1.1, 24, .inl cv)), (br, .inl (g.2.1.1, 24, .inl cr)), (a_s, .inl (g.2.1.1, 4, .inl (upd fS w.toNatClampNeg v))), (a_t, .inl (g.2.1.1, 5, .inl fT)), (g1, .inl (g.2.1.1, 152, .inl y1)), (g2, .inl (g.2.1.1, 152, .inl y2)), (g3, .inl (g.2.1.1, 152, .inl y3))] H := hP
    have hD : va_D A [(h, .inr (9, [.int 0, .int (nI nA), .int (nI nB), .ref ak, .ref av, .ref bk, .ref bv, .ref br, .ref a_s, .ref a_t, .int (nI mS), .ref g1, .ref g2, .ref g3, .long zl1, .long zl2, .long zl3, .long zl4, .int zpb, .ref pa, .ref ru, .ref tx, .int zln, .int zat, .int zrk, .int zrv, .int zre, .int zwr, .int zrm, .int zrs, .int zis, .int zss, .int zsc, .ref dk, .ref dv, .ref ek, .ref ev, .ref er, .ref es, .ref et])), (ak, .inl (g.2.1.1, 152, .inl fk)), (av, .inl (g.2.1.1, 152, .inl fv)), (bk, .inl (g.2.1.1, 24, .inl ck)), (bv, .inl (g.2.1.1, 24, .inl cv)), (br, .inl (g.2.1.1, 24, .inl cr)), (a_s, .inl (g.2.1.1, 4, .inl (upd fS w.toNatClampNeg v))), (a_t, .inl (g.2.1.1, 5, .inl fT)), (g1, .inl (g.2.1.1, 152, .inl y1)), (g2, .inl (g.2.1.1, 152, .inl y2)), (g3, .inl (g.2.1.1, 152, .inl y3))] := hD
    obtain ⟨fS2, hf2⟩ : ∃ f : Nat → Int32, f = upd fS w.toNatClampNeg v := ⟨_, rfl⟩
    have hS2 : ∀ j, j < 4 → fS2 j = upd S w.toNatClampNeg v j := by rw [hf2]; exact upd_ag (v := 0) hS4 rfl
    rw [← hf2] at hP hD
    have hP : va_P g.1 vwCl [(h, .inr (9, [.int 0, .int (nI nA), .int (nI nB), .ref ak, .ref av, .ref bk, .ref bv, .ref br, .ref a_s, .ref a_t, .int (nI mS), .ref g1, .ref g2, .ref g3, .long zl1, .long zl2, .long zl3, .long zl4, .int zpb, .ref pa, .ref ru, .ref tx, .int zln, .int zat, .int zrk, .int zrv, .int zre, .int zwr, .int zrm, .int zrs, .int zis, .int zss, .int zsc, .ref dk, .ref dv, .ref ek, .ref ev, .ref er, .ref es, .ref et])), (ak, .inl (g.2.1.1, 152, .inl fk)), (av, .inl (g.2.1.1, 152, .inl fv)), (bk, .inl (g.2.1.1, 24, .inl ck)), (bv, .inl (g.2.1.1, 24, .inl cv)), (br, .inl (g.2.1.1, 24, .inl cr)), (a_s, .inl (g.2.1.1, 4, .inl fS2)), (a_t, .inl (g.2.1.1, 5, .inl fT)), (g1, .inl (g.2.1.1, 152, .inl y1)), (g2, .inl (g.2.1.1, 152, .inl y2)), (g3, .inl (g.2.1.1, 152, .inl y3))] H := hP
    have hD : va_D A [(h, .inr (9, [.int 0, .int (nI nA), .int (nI nB), .ref ak, .ref av, .ref bk, .ref bv, .ref br, .ref a_s, .ref a_t, .int (nI mS), .ref g1, .ref g2, .ref g3, .long zl1, .long zl2, .long zl3, .long zl4, .int zpb, .ref pa, .ref ru, .ref tx, .int zln, .int zat, .int zrk, .int zrv, .int zre, .int zwr, .int zrm, .int zrs, .int zis, .int zss, .int zsc, .ref dk, .ref dv, .ref ek, .ref ev, .ref er, .ref es, .ref et])), (ak, .inl (g.2.1.1, 152, .inl fk)), (av, .inl (g.2.1.1, 152, .inl fv)), (bk, .inl (g.2.1.1, 24, .inl ck)), (bv, .inl (g.2.1.1, 24, .inl cv)), (br, .inl (g.2.1.1, 24, .inl cr)), (a_s, .inl (g.2.1.1, 4, .inl fS2)), (a_t, .inl (g.2.1.1, 5, .inl fT)), (g1, .inl (g.2.1.1, 152, .inl y1)), (g2, .inl (g.2.1.1, 152, .inl y2)), (g3, .inl (g.2.1.1, 152, .inl y3))] := hD
    refine lv_iload_n hx hb dX7_set_37 rfl (lv_at hl 2 rfl) ?_
    refine lv_if_ne (tgt := 46) hx hb dX7_set_38 (by decide) (fun c_38 => ?_) (fun c_38 => ?_)
    · skip
      have hS0 : upd S w.toNatClampNeg v 0 = S 0 := by rcases hw4 with rfl | rfl | rfl | rfl; exact absurd rfl c_38; rfl; rfl; rfl
      have hXn := kMX_S0 hMX hS2 hK2 hS0
      refine lv_iload_n hx hb dX7_set_46 rfl (lv_at hl 2 rfl) ?_
      refine lv_iconst (v := 1) hx hb dX7_set_47 (by decide) ?_
      refine lv_icmp_ne (tgt := 55) hx hb dX7_set_48 (by decide) (fun c_48 => ?_) (fun c_48 => ?_)
      · skip
        refine lv_iload_n hx hb dX7_set_55 rfl (lv_at hl 0 rfl) ?_
        exact kreti hx hb hRt hlk hK hP hD hS rfl dX7_set_56 (⟨nA, fk, fv, nB, ck, cv, cr, fT, mS, y1, y2, y3, zl1, zl2, zl3, zl4, fS2, by rw [hk9, if_pos rfl], by rw [hk9, setS, if_neg c_48]; exact hXn, by rw [hk9]⟩)
      · skip
        refine lv_aload_n hx hb dX7_set_51 rfl (lv_at hl 1 rfl) ?_
        refine kcallv (wc := [(h, .inr (9, [.int 0, .int (nI nA), .int (nI nB), .ref ak, .ref av, .ref bk, .ref bv, .ref br, .ref a_s, .ref a_t, .int (nI mS), .ref g1, .ref g2, .ref g3, .long zl1, .long zl2, .long zl3, .long zl4, .int zpb, .ref pa, .ref ru, .ref tx, .int zln, .int zat, .int zrk, .int zrv, .int zre, .int zwr, .int zrm, .int zrs, .int zis, .int zss, .int zsc, .ref dk, .ref dv, .ref ek, .ref ev, .ref er, .ref es, .ref et])), (ak, .inl (g.2.1.1, 152, .inl fk)), (av, .inl (g.2.1.1, 152, .inl fv)), (bk, .inl (g.2.1.1, 24, .inl ck)), (bv, .inl (g.2.1.1, 24, .inl cv)), (br, .inl (g.2.1.1, 24, .inl cr)), (a_s, .inl (g.2.1.1, 4, .inl fS2)), (a_t, .inl (g.2.1.1, 5, .inl fT)), (g1, .inl (g.2.1.1, 152, .inl y1)), (g2, .inl (g.2.1.1, 152, .inl y2)), (g3, .inl (g.2.1.1, 152, .inl y3))]) [0, 1, 2, 3, 4, 5, 6, 7, 8, 9, 10] (va_runV (C := RX7) (As := []) (rest := []) ⟨hx, hb, hml, hown, hts⟩ ((c_X7_mergeIfFull l g h 0 zl1 zl2 zl3 zl4 zpb zln zat zrk zrv zre zwr zrm zrs zis zss zsc ak av bk bv br a_s a_t g1 g2 g3 pa ru tx dk dv ek ev er es et nA fk fv nB ck cv cr fS2 fT mS y1 y2 y3 M C (upd S w.toNatClampNeg v) T hXn) _) (cwV 0 hts gX7_set_X7_mergeIfFull rfl rfl rfl (by decide +kernel) ⟨Nat.le_of_ble_eq_true rfl, Nat.le_of_ble_eq_true rfl⟩) (kpreV (wc := [(h, .inr (9, [.int 0, .int (nI nA), .int (nI nB), .ref ak, .ref av, .ref bk, .ref bv, .ref br, .ref a_s, .ref a_t, .int (nI mS), .ref g1, .ref g2, .ref g3, .long zl1, .long zl2, .long zl3, .long zl4, .int zpb, .ref pa, .ref ru, .ref tx, .int zln, .int zat, .int zrk, .int zrv, .int zre, .int zwr, .int zrm, .int zrs, .int zis, .int zss, .int zsc, .ref dk, .ref dv, .ref ek, .ref ev, .ref er, .ref es, .ref et])), (ak, .inl (g.2.1.1, 152, .inl fk)), (av, .inl (g.2.1.1, 152, .inl fv)), (bk, .inl (g.2.1.1, 24, .inl ck)), (bv, .inl (g.2.1.1, 24, .inl cv)), (br, .inl (g.2.1.1, 24, .inl cr)), (a_s, .inl (g.2.1.1, 4, .inl fS2)), (a_t, .inl (g.2.1.1, 5, .inl fT)), (g1, .inl (g.2.1.1, 152, .inl y1)), (g2, .inl (g.2.1.1, 152, .inl y2)), (g3, .inl (g.2.1.1, 152, .inl y3))]) (ci := 9) hK hP hD hS hA hE [0, 1, 2, 3, 4, 5, 6, 7, 8, 9, 10] rfl rfl rfl rfl) rfl rfl hl.1 rfl (lv_room (Nat.le_of_ble_eq_true rfl)) dX7_set_52 ⟨Nat.zero_le _, Nat.zero_le _⟩) hP hD hS hA rfl (fun w_3 H locs hp hP hD hS => ?_)
        obtain ⟨n2, fk2, fv2, c2, ck2, cv2, cr2, t2, m2, x1, x2, x3, l1x, l2x, l3x, l4x, hX2, rfl⟩ := hp
        have hP : va_P g.1 vwCl [(h, .inr (9, [.int 0, .int (nI n2), .int (nI c2), .ref ak, .ref av, .ref bk, .ref bv, .ref br, .ref a_s, .ref a_t, .int (nI m2), .ref g1, .ref g2, .ref g3, .long l1x, .long l2x, .long l3x, .long l4x, .int zpb, .ref pa, .ref ru, .ref tx, .int zln, .int zat, .int zrk, .int zrv, .int zre, .int zwr, .int zrm, .int zrs, .int zis, .int zss, .int zsc, .ref dk, .ref dv, .ref ek, .ref ev, .ref er, .ref es, .ref et])), (ak, .inl (g.2.1.1, 152, .inl fk2)), (av, .inl (g.2.1.1, 152, .inl fv2)), (bk, .inl (g.2.1.1, 24, .inl ck2)), (bv, .inl (g.2.1.1, 24, .inl cv2)), (br, .inl (g.2.1.1, 24, .inl cr2)), (a_s, .inl (g.2.1.1, 4, .inl fS2)), (a_t, .inl (g.2.1.1, 5, .inl t2)), (g1, .inl (g.2.1.1, 152, .inl x1)), (g2, .inl (g.2.1.1, 152, .inl x2)), (g3, .inl (g.2.1.1, 152, .inl x3))] H := hP
        have hD : va_D A [(h, .inr (9, [.int 0, .int (nI n2), .int (nI c2), .ref ak, .ref av, .ref bk, .ref bv, .ref br, .ref a_s, .ref a_t, .int (nI m2), .ref g1, .ref g2, .ref g3, .long l1x, .long l2x, .long l3x, .long l4x, .int zpb, .ref pa, .ref ru, .ref tx, .int zln, .int zat, .int zrk, .int zrv, .int zre, .int zwr, .int zrm, .int zrs, .int zis, .int zss, .int zsc, .ref dk, .ref dv, .ref ek, .ref ev, .ref er, .ref es, .ref et])), (ak, .inl (g.2.1.1, 152, .inl fk2)), (av, .inl (g.2.1.1, 152, .inl fv2)), (bk, .inl (g.2.1.1, 24, .inl ck2)), (bv, .inl (g.2.1.1, 24, .inl cv2)), (br, .inl (g.2.1.1, 24, .inl cr2)), (a_s, .inl (g.2.1.1, 4, .inl fS2)), (a_t, .inl (g.2.1.1, 5, .inl t2)), (g1, .inl (g.2.1.1, 152, .inl x1)), (g2, .inl (g.2.1.1, 152, .inl x2)), (g3, .inl (g.2.1.1, 152, .inl x3))] := hD
        refine lv_iload_n hx hb dX7_set_55 rfl (lv_at hl 0 rfl) ?_
        exact kreti hx hb hRt hlk hK hP hD hS rfl dX7_set_56 (⟨n2, fk2, fv2, c2, ck2, cv2, cr2, t2, m2, x1, x2, x3, l1x, l2x, l3x, l4x, fS2, by rw [hk9, if_pos rfl], by rw [hk9, setS, if_pos c_48]; exact hX2, by rw [hk9]⟩)
    · skip
      have hv0 : v = kI (upd S w.toNatClampNeg v 0).toInt := by rw [c_38]; exact kI_of v
      refine lv_aload_n hx hb dX7_set_41 rfl (lv_at hl 1 rfl) ?_
      refine lv_iload_n hx hb dX7_set_42 rfl (lv_at hl 3 rfl) ?_
      refine lv_topi (fun v43 e_v43 => ?_)
      rw [show (v43 : Int32) = kI (upd S w.toNatClampNeg v 0).toInt from e_v43.trans hv0]
      refine kcallv (wc := [(h, .inr (9, [.int 0, .int (nI nA), .int (nI nB), .ref ak, .ref av, .ref bk, .ref bv, .ref br, .ref a_s, .ref a_t, .int (nI mS), .ref g1, .ref g2, .ref g3, .long zl1, .long zl2, .long zl3, .long zl4, .int zpb, .ref pa, .ref ru, .ref tx, .int zln, .int zat, .int zrk, .int zrv, .int zre, .int zwr, .int zrm, .int zrs, .int zis, .int zss, .int zsc, .ref dk, .ref dv, .ref ek, .ref ev, .ref er, .ref es, .ref et])), (ak, .inl (g.2.1.1, 152, .inl fk)), (g1, .inl (g.2.1.1, 152, .inl y1)), (g2, .inl (g.2.1.1, 152, .inl y2)), (g3, .inl (g.2.1.1, 152, .inl y3))]) [0, 1, 8, 9, 10] (va_runV (C := RX7) (As := [.int (kI (upd S w.toNatClampNeg v 0).toInt)]) (rest := []) ⟨hx, hb, hml, hown, hts⟩ ((c_X7_build l g h 0 (nI nB) (nI mS) zl1 zl2 zl3 zl4 zpb zln zat zrk zrv zre zwr zrm zrs zis zss zsc ak av bk bv br a_s a_t g1 g2 g3 pa ru tx dk dv ek ev er es et nA fk y1 y2 y3 ((upd S w.toNatClampNeg v 0).toInt) (kap M) (fun i hi => EL_kap hM hi) (kap_asc hM hIM) (by omega) (⟨by have := hK2.1; omega, by have := hK2.1; omega⟩)) _) (cwV 1 hts gX7_set_X7_build rfl rfl rfl (by decide +kernel) ⟨Nat.le_of_ble_eq_true rfl, Nat.le_of_ble_eq_true rfl⟩) (kpreV (wc := [(h, .inr (9, [.int 0, .int (nI nA), .int (nI nB), .ref ak, .ref av, .ref bk, .ref bv, .ref br, .ref a_s, .ref a_t, .int (nI mS), .ref g1, .ref g2, .ref g3, .long zl1, .long zl2, .long zl3, .long zl4, .int zpb, .ref pa, .ref ru, .ref tx, .int zln, .int zat, .int zrk, .int zrv, .int zre, .int zwr, .int zrm, .int zrs, .int zis, .int zss, .int zsc, .ref dk, .ref dv, .ref ek, .ref ev, .ref er, .ref es, .ref et])), (ak, .inl (g.2.1.1, 152, .inl fk)), (g1, .inl (g.2.1.1, 152, .inl y1)), (g2, .inl (g.2.1.1, 152, .inl y2)), (g3, .inl (g.2.1.1, 152, .inl y3))]) (ci := 9) hK hP hD hS hA hE [0, 1, 8, 9, 10] rfl rfl rfl rfl) rfl rfl hl.1 rfl (lv_room (Nat.le_of_ble_eq_true rfl)) dX7_set_43 ⟨Nat.zero_le _, Nat.zero_le _⟩) hP hD hS hA rfl (fun w_4 H locs hp hP hD hS => ?_)
      obtain ⟨m9, x19, x29, x39, v29, v39, l19, l29, l39, l49, hSG2, rfl⟩ := hp
      have hP : va_P g.1 vwCl [(h, .inr (9, [.int 0, .int (nI nA), .int (nI nB), .ref ak, .ref av, .ref bk, .ref bv, .ref br, .ref a_s, .ref a_t, .int (nI m9), .ref g1, .ref g2, .ref g3, .long l19, .long l29, .long l39, .long l49, .int zpb, .ref pa, .ref ru, .ref tx, .int zln, .int zat, .int zrk, .int zrv, .int zre, .int zwr, .int zrm, .int zrs, .int zis, .int zss, .int zsc, .ref dk, .ref dv, .ref ek, .ref ev, .ref er, .ref es, .ref et])), (ak, .inl (g.2.1.1, 152, .inl fk)), (av, .inl (g.2.1.1, 152, .inl fv)), (bk, .inl (g.2.1.1, 24, .inl ck)), (bv, .inl (g.2.1.1, 24, .inl cv)), (br, .inl (g.2.1.1, 24, .inl cr)), (a_s, .inl (g.2.1.1, 4, .inl fS2)), (a_t, .inl (g.2.1.1, 5, .inl fT)), (g1, .inl (g.2.1.1, 152, .inl x19)), (g2, .inl (g.2.1.1, 152, .inl x29)), (g3, .inl (g.2.1.1, 152, .inl x39))] H := hP
      have hD : va_D A [(h, .inr (9, [.int 0, .int (nI nA), .int (nI nB), .ref ak, .ref av, .ref bk, .ref bv, .ref br, .ref a_s, .ref a_t, .int (nI m9), .ref g1, .ref g2, .ref g3, .long l19, .long l29, .long l39, .long l49, .int zpb, .ref pa, .ref ru, .ref tx, .int zln, .int zat, .int zrk, .int zrv, .int zre, .int zwr, .int zrm, .int zrs, .int zis, .int zss, .int zsc, .ref dk, .ref dv, .ref ek, .ref ev, .ref er, .ref es, .ref et])), (ak, .inl (g.2.1.1, 152, .inl fk)), (av, .inl (g.2.1.1, 152, .inl fv)), (bk, .inl (g.2.1.1, 24, .inl ck)), (bv, .inl (g.2.1.1, 24, .inl cv)), (br, .inl (g.2.1.1, 24, .inl cr)), (a_s, .inl (g.2.1.1, 4, .inl fS2)), (a_t, .inl (g.2.1.1, 5, .inl fT)), (g1, .inl (g.2.1.1, 152, .inl x19)), (g2, .inl (g.2.1.1, 152, .inl x29)), (g3, .inl (g.2.1.1, 152, .inl x39))] := hD
      have hXn := kMX_S hMX hS2 hK2 hSG2
      refine lv_iload_n hx hb dX7_set_46 rfl (lv_at hl 2 rfl) ?_
      refine lv_iconst (v := 1) hx hb dX7_set_47 (by decide) ?_
      refine lv_icmp_ne (tgt := 55) hx hb dX7_set_48 (by decide) (fun c_48 => ?_) (fun c_48 => ?_)
      · skip
        refine lv_iload_n hx hb dX7_set_55 rfl (lv_at hl 0 rfl) ?_
        exact kreti hx hb hRt hlk hK hP hD hS rfl dX7_set_56 (⟨nA, fk, fv, nB, ck, cv, cr, fT, m9, x19, x29, x39, l19, l29, l39, l49, fS2, by rw [hk9, if_pos rfl], by rw [hk9, setS, if_neg c_48]; exact hXn, by rw [hk9]⟩)
      · skip
        refine lv_aload_n hx hb dX7_set_51 rfl (lv_at hl 1 rfl) ?_
        refine kcallv (wc := [(h, .inr (9, [.int 0, .int (nI nA), .int (nI nB), .ref ak, .ref av, .ref bk, .ref bv, .ref br, .ref a_s, .ref a_t, .int (nI m9), .ref g1, .ref g2, .ref g3, .long l19, .long l29, .long l39, .long l49, .int zpb, .ref pa, .ref ru, .ref tx, .int zln, .int zat, .int zrk, .int zrv, .int zre, .int zwr, .int zrm, .int zrs, .int zis, .int zss, .int zsc, .ref dk, .ref dv, .ref ek, .ref ev, .ref er, .ref es, .ref et])), (ak, .inl (g.2.1.1, 152, .inl fk)), (av, .inl (g.2.1.1, 152, .inl fv)), (bk, .inl (g.2.1.1, 24, .inl ck)), (bv, .inl (g.2.1.1, 24, .inl cv)), (br, .inl (g.2.1.1, 24, .inl cr)), (a_s, .inl (g.2.1.1, 4, .inl fS2)), (a_t, .inl (g.2.1.1, 5, .inl fT)), (g1, .inl (g.2.1.1, 152, .inl x19)), (g2, .inl (g.2.1.1, 152, .inl x29)), (g3, .inl (g.2.1.1, 152, .inl x39))]) [0, 1, 2, 3, 4, 5, 6, 7, 8, 9, 10] (va_runV (C := RX7) (As := []) (rest := []) ⟨hx, hb, hml, hown, hts⟩ ((c_X7_mergeIfFull l g h 0 l19 l29 l39 l49 zpb zln zat zrk zrv zre zwr zrm zrs zis zss zsc ak av bk bv br a_s a_t g1 g2 g3 pa ru tx dk dv ek ev er es et nA fk fv nB ck cv cr fS2 fT m9 x19 x29 x39 M C (upd S w.toNatClampNeg v) T hXn) _) (cwV 0 hts gX7_set_X7_mergeIfFull rfl rfl rfl (by decide +kernel) ⟨Nat.le_of_ble_eq_true rfl, Nat.le_of_ble_eq_true rfl⟩) (kpreV (wc := [(h, .inr (9, [.int 0, .int (nI nA), .int (nI nB), .ref ak, .ref av, .ref bk, .ref bv, .ref br, .ref a_s, .ref a_t, .int (nI m9), .ref g1, .ref g2, .ref g3, .long l19, .long l29, .long l39, .long l49, .int zpb, .ref pa, .ref ru, .ref tx, .int zln, .int zat, .int zrk, .int zrv, .int zre, .int zwr, .int zrm, .int zrs, .int zis, .int zss, .int zsc, .ref dk, .ref dv, .ref ek, .ref ev, .ref er, .ref es, .ref et])), (ak, .inl (g.2.1.1, 152, .inl fk)), (av, .inl (g.2.1.1, 152, .inl fv)), (bk, .inl (g.2.1.1, 24, .inl ck)), (bv, .inl (g.2.1.1, 24, .inl cv)), (br, .inl (g.2.1.1, 24, .inl cr)), (a_s, .inl (g.2.1.1, 4, .inl fS2)), (a_t, .inl (g.2.1.1, 5, .inl fT)), (g1, .inl (g.2.1.1, 152, .inl x19)), (g2, .inl (g.2.1.1, 152, .inl x29)), (g3, .inl (g.2.1.1, 152, .inl x39))]) (ci := 9) hK hP hD hS hA hE [0, 1, 2, 3, 4, 5, 6, 7, 8, 9, 10] rfl rfl rfl rfl) rfl rfl hl.1 rfl (lv_room (Nat.le_of_ble_eq_true rfl)) dX7_set_52 ⟨Nat.zero_le _, Nat.zero_le _⟩) hP hD hS hA rfl (fun w_5 H locs hp hP hD hS => ?_)
        obtain ⟨n2, fk2, fv2, c2, ck2, cv2, cr2, t2, m2, x1, x2, x3, l1x, l2x, l3x, l4x, hX2, rfl⟩ := hp
        have hP : va_P g.1 vwCl [(h, .inr (9, [.int 0, .int (nI n2), .int (nI c2), .ref ak, .ref av, .ref bk, .ref bv, .ref br, .ref a_s, .ref a_t, .int (nI m2), .ref g1, .ref g2, .ref g3, .long l1x, .long l2x, .long l3x, .long l4x, .int zpb, .ref pa, .ref ru, .ref tx, .int zln, .int zat, .int zrk, .int zrv, .int zre, .int zwr, .int zrm, .int zrs, .int zis, .int zss, .int zsc, .ref dk, .ref dv, .ref ek, .ref ev, .ref er, .ref es, .ref et])), (ak, .inl (g.2.1.1, 152, .inl fk2)), (av, .inl (g.2.1.1, 152, .inl fv2)), (bk, .inl (g.2.1.1, 24, .inl ck2)), (bv, .inl (g.2.1.1, 24, .inl cv2)), (br, .inl (g.2.1.1, 24, .inl cr2)), (a_s, .inl (g.2.1.1, 4, .inl fS2)), (a_t, .inl (g.2.1.1, 5, .inl t2)), (g1, .inl (g.2.1.1, 152, .inl x1)), (g2, .inl (g.2.1.1, 152, .inl x2)), (g3, .inl (g.2.1.1, 152, .inl x3))] H := hP
        have hD : va_D A [(h, .inr (9, [.int 0, .int (nI n2), .int (nI c2), .ref ak, .ref av, .ref bk, .ref bv, .ref br, .ref a_s, .ref a_t, .int (nI m2), .ref g1, .ref g2, .ref g3, .long l1x, .long l2x, .long l3x, .long l4x, .int zpb, .ref pa, .ref ru, .ref tx, .int zln, .int zat, .int zrk, .int zrv, .int zre, .int zwr, .int zrm, .int zrs, .int zis, .int zss, .int zsc, .ref dk, .ref dv, .ref ek, .ref ev, .ref er, .ref es, .ref et])), (ak, .inl (g.2.1.1, 152, .inl fk2)), (av, .inl (g.2.1.1, 152, .inl fv2)), (bk, .inl (g.2.1.1, 24, .inl ck2)), (bv, .inl (g.2.1.1, 24, .inl cv2)), (br, .inl (g.2.1.1, 24, .inl cr2)), (a_s, .inl (g.2.1.1, 4, .inl fS2)), (a_t, .inl (g.2.1.1, 5, .inl t2)), (g1, .inl (g.2.1.1, 152, .inl x1)), (g2, .inl (g.2.1.1, 152, .inl x2)), (g3, .inl (g.2.1.1, 152, .inl x3))] := hD
        refine lv_iload_n hx hb dX7_set_55 rfl (lv_at hl 0 rfl) ?_
        exact kreti hx hb hRt hlk hK hP hD hS rfl dX7_set_56 (⟨n2, fk2, fv2, c2, ck2, cv2, cr2, t2, m2, x1, x2, x3, l1x, l2x, l3x, l4x, fS2, by rw [hk9, if_pos rfl], by rw [hk9, setS, if_pos c_48]; exact hX2, by rw [hk9]⟩)
  · skip
    have hst : stV w v = false := (kbool_eq _).mp c_7
    have hk9 : setK w v = 1 := by rw [setK, if_neg (by rw [hst]; decide)]
    refine lv_iconst (v := 1) hx hb dX7_set_10 (by decide) ?_
    refine lv_goto (tgt := 15) hx hb dX7_set_11 (by decide) ?_
    refine kcalli (wc := [(h, .inr (9, [.int zth, .int (nI nA), .int (nI nB), .ref ak, .ref av, .ref bk, .ref bv, .ref br, .ref a_s, .ref a_t, .int (nI mS), .ref g1, .ref g2, .ref g3, .long zl1, .long zl2, .long zl3, .long zl4, .int zpb, .ref pa, .ref ru, .ref tx, .int zln, .int zat, .int zrk, .int zrv, .int zre, .int zwr, .int zrm, .int zrs, .int zis, .int zss, .int zsc, .ref dk, .ref dv, .ref ek, .ref ev, .ref er, .ref es, .ref et]))]) [0] (va_runV (C := RX7) (As := [.int 1, .int 1]) (rest := []) ⟨hx, hb, hml, hown, hts⟩ ((c_X7_fails1 l g h zth (nI nA) (nI nB) (nI mS) zl1 zl2 zl3 zl4 zpb zln zat zrk zrv zre zwr zrm zrs zis zss zsc ak av bk bv br a_s a_t g1 g2 g3 pa ru tx dk dv ek ev er es et 1) _) (cwV 2 hts gX7_set_X7_fails rfl rfl rfl (by decide +kernel) ⟨Nat.le_of_ble_eq_true rfl, Nat.le_of_ble_eq_true rfl⟩) (kpreV (wc := [(h, .inr (9, [.int zth, .int (nI nA), .int (nI nB), .ref ak, .ref av, .ref bk, .ref bv, .ref br, .ref a_s, .ref a_t, .int (nI mS), .ref g1, .ref g2, .ref g3, .long zl1, .long zl2, .long zl3, .long zl4, .int zpb, .ref pa, .ref ru, .ref tx, .int zln, .int zat, .int zrk, .int zrv, .int zre, .int zwr, .int zrm, .int zrs, .int zis, .int zss, .int zsc, .ref dk, .ref dv, .ref ek, .ref ev, .ref er, .ref es, .ref et]))]) (ci := 9) hK hP hD hS hA hE [0] rfl rfl rfl rfl) rfl rfl hl.1 rfl (lv_room (Nat.le_of_ble_eq_true rfl)) dX7_set_15 ⟨Nat.zero_le _, Nat.zero_le _⟩) hP hD hS hA rfl (fun r_6 w_6 H locs hp hP hD hS => ?_)
    obtain ⟨rfl, rfl⟩ := hp
    have hP : va_P g.1 vwCl [(h, .inr (9, [.int 1, .int (nI nA), .int (nI nB), .ref ak, .ref av, .ref bk, .ref bv, .ref br, .ref a_s, .ref a_t, .int (nI mS), .ref g1, .ref g2, .ref g3, .long zl1, .long zl2, .long zl3, .long zl4, .int zpb, .ref pa, .ref ru, .ref tx, .int zln, .int zat, .int zrk, .int zrv, .int zre, .int zwr, .int zrm, .int zrs, .int zis, .int zss, .int zsc, .ref dk, .ref dv, .ref ek, .ref ev, .ref er, .ref es, .ref et])), (ak, .inl (g.2.1.1, 152, .inl fk)), (av, .inl (g.2.1.1, 152, .inl fv)), (bk, .inl (g.2.1.1, 24, .inl ck)), (bv, .inl (g.2.1.1, 24, .inl cv)), (br, .inl (g.2.1.1, 24, .inl cr)), (a_s, .inl (g.2.1.1, 4, .inl fS)), (a_t, .inl (g.2.1.1, 5, .inl fT)), (g1, .inl (g.2.1.1, 152, .inl y1)), (g2, .inl (g.2.1.1, 152, .inl y2)), (g3, .inl (g.2.1.1, 152, .inl y3))] H := hP
    have hD : va_D A [(h, .inr (9, [.int 1, .int (nI nA), .int (nI nB), .ref ak, .ref av, .ref bk, .ref bv, .ref br, .ref a_s, .ref a_t, .int (nI mS), .ref g1, .ref g2, .ref g3, .long zl1, .long zl2, .long zl3, .long zl4, .int zpb, .ref pa, .ref ru, .ref tx, .int zln, .int zat, .int zrk, .int zrv, .int zre, .int zwr, .int zrm, .int zrs, .int zis, .int zss, .int zsc, .ref dk, .ref dv, .ref ek, .ref ev, .ref er, .ref es, .ref et])), (ak, .inl (g.2.1.1, 152, .inl fk)), (av, .inl (g.2.1.1, 152, .inl fv)), (bk, .inl (g.2.1.1, 24, .inl ck)), (bv, .inl (g.2.1.1, 24, .inl cv)), (br, .inl (g.2.1.1, 24, .inl cr)), (a_s, .inl (g.2.1.1, 4, .inl fS)), (a_t, .inl (g.2.1.1, 5, .inl fT)), (g1, .inl (g.2.1.1, 152, .inl y1)), (g2, .inl (g.2.1.1, 152, .inl y2)), (g3, .inl (g.2.1.1, 152, .inl y3))] := hD
    refine lv_if_eq (tgt := 23) hx hb dX7_set_18 (by decide) (fun c_18 => absurd c_18 (by decide)) (fun c_18 => ?_)
    refine lv_iconst (v := 0) hx hb dX7_set_21 (by decide) ?_
    exact kreti hx hb hRt hlk hK hP hD hS rfl dX7_set_22 (⟨nA, fk, fv, nB, ck, cv, cr, fT, mS, y1, y2, y3, zl1, zl2, zl3, zl4, fS, by rw [hk9]; rfl, by rw [hk9]; exact hMX, by rw [hk9]⟩)
