/-! ===== the model: predictions and windows ===== -/
def B9 (x : Int) : Prop := -9000000 ≤ x ∧ x ≤ 9000000
theorem lg9_le {x y : Int} (h : B9 x) (h2 : B9 y) : lg_cmp (kL x) (kL y) ≤ 0 ↔ x ≤ y := by unfold B9 at h h2; rw [lg_cmp_le, kL_le (by omega) (by omega) (by omega) (by omega)]
theorem lg9_ge {x y : Int} (h : B9 x) (h2 : B9 y) : 0 ≤ lg_cmp (kL x) (kL y) ↔ y ≤ x := by unfold B9 at h h2; rw [lg_cmp_ge, kL_le (by omega) (by omega) (by omega) (by omega)]

set_option maxRecDepth 20000 in
theorem ggX7_prediction_X7_segmentAt : GoodIn wsX7_prediction wsX7_segmentAt := goodIn_ca (goodIn_r _ [9, 10, 3, 1, 19, 20, 21, 22, 23, 24, 25, 26, 27, 28, 29, 30, 31, 32, 33, 34, 35, 36, 37, 38, 39, 40, 41, 42, 43, 44, 45, 46, 47, 48, 49, 50, 51, 52, 53, 54, 55, 56, 57, 58] (by decide +kernel) (by decide +kernel)) (goodIn_sub (fun _ h => List.mem_cons_of_mem _ (List.mem_append_left _ (List.mem_append_right _ h))) (by decide +kernel))
set_option maxRecDepth 20000 in
theorem gX7_prediction_X7_segmentAt : GoodIn wsX7_prediction (wsV RX7 169 RX7 yX7_segmentAt wsX7_segmentAt) := goodIn_app (goodIn_of _ (by decide +kernel)) ggX7_prediction_X7_segmentAt
set_option maxRecDepth 20000 in
theorem ggX7_prediction_X7_floor : GoodIn wsX7_prediction wsX7_floor := goodIn_ca (goodIn_r _ [13] (by decide +kernel) (by decide +kernel)) (goodIn_sub (fun _ h => List.mem_cons_of_mem _ (List.mem_append_right _ h)) (by decide +kernel))
set_option maxRecDepth 20000 in
theorem gX7_prediction_X7_floor : GoodIn wsX7_prediction (va_wsS RX7 172 yX7_floor wsX7_floor) := goodIn_app (goodIn_of _ (by decide +kernel)) ggX7_prediction_X7_floor
set_option maxRecDepth 20000 in
theorem ggX7_prediction_X7_lastOf : GoodIn wsX7_prediction wsX7_lastOf := goodIn_ca (goodIn_r _ [17, 10, 1, 18, 19, 20, 21, 22, 23, 24, 25, 26, 27, 28, 29, 30, 31, 32, 33, 34, 35, 36, 37, 38, 39, 40, 41, 42, 43, 44, 45, 46, 47, 48, 49, 50, 51, 52, 53, 54, 55, 56, 57, 58] (by decide +kernel) (by decide +kernel)) (goodIn_sub (fun _ h => List.mem_cons_of_mem _ (List.mem_append_left _ (List.mem_append_right _ h))) (by decide +kernel))
set_option maxRecDepth 20000 in
theorem gX7_prediction_X7_lastOf : GoodIn wsX7_prediction (wsV RX7 176 RX7 yX7_lastOf wsX7_lastOf) := goodIn_app (goodIn_of _ (by decide +kernel)) ggX7_prediction_X7_lastOf
theorem dX7_prediction_0 : decode cX7_prediction 0 = .ok (.aload_n 0, 1) := by decide +kernel
theorem dX7_prediction_1 : decode cX7_prediction 1 = .ok (.iload_n 1, 1) := by decide +kernel
theorem dX7_prediction_2 : decode cX7_prediction 2 = .ok (.invokevirtual 169, 3) := by decide +kernel
theorem dX7_prediction_5 : decode cX7_prediction 5 = .ok (.istore_n 2, 1) := by decide +kernel
theorem dX7_prediction_6 : decode cX7_prediction 6 = .ok (.aload_n 0, 1) := by decide +kernel
theorem dX7_prediction_7 : decode cX7_prediction 7 = .ok (.getfield 31, 3) := by decide +kernel
theorem dX7_prediction_10 : decode cX7_prediction 10 = .ok (.iload_n 2, 1) := by decide +kernel
theorem dX7_prediction_11 : decode cX7_prediction 11 = .ok (.iaload, 1) := by decide +kernel
theorem dX7_prediction_12 : decode cX7_prediction 12 = .ok (.istore_n 3, 1) := by decide +kernel
theorem dX7_prediction_13 : decode cX7_prediction 13 = .ok (.iload_n 3, 1) := by decide +kernel
theorem dX7_prediction_14 : decode cX7_prediction 14 = .ok (.i2l, 1) := by decide +kernel
theorem dX7_prediction_15 : decode cX7_prediction 15 = .ok (.aload_n 0, 1) := by decide +kernel
theorem dX7_prediction_16 : decode cX7_prediction 16 = .ok (.getfield 34, 3) := by decide +kernel
theorem dX7_prediction_19 : decode cX7_prediction 19 = .ok (.iload_n 2, 1) := by decide +kernel
theorem dX7_prediction_20 : decode cX7_prediction 20 = .ok (.iaload, 1) := by decide +kernel
theorem dX7_prediction_21 : decode cX7_prediction 21 = .ok (.i2l, 1) := by decide +kernel
theorem dX7_prediction_22 : decode cX7_prediction 22 = .ok (.iload_n 1, 1) := by decide +kernel
theorem dX7_prediction_23 : decode cX7_prediction 23 = .ok (.aload_n 0, 1) := by decide +kernel
theorem dX7_prediction_24 : decode cX7_prediction 24 = .ok (.getfield 9, 3) := by decide +kernel
theorem dX7_prediction_27 : decode cX7_prediction 27 = .ok (.iload_n 3, 1) := by decide +kernel
theorem dX7_prediction_28 : decode cX7_prediction 28 = .ok (.iaload, 1) := by decide +kernel
theorem dX7_prediction_29 : decode cX7_prediction 29 = .ok (.isub, 1) := by decide +kernel
theorem dX7_prediction_30 : decode cX7_prediction 30 = .ok (.i2l, 1) := by decide +kernel
theorem dX7_prediction_31 : decode cX7_prediction 31 = .ok (.lmul, 1) := by decide +kernel
theorem dX7_prediction_32 : decode cX7_prediction 32 = .ok (.aload_n 0, 1) := by decide +kernel
theorem dX7_prediction_33 : decode cX7_prediction 33 = .ok (.getfield 37, 3) := by decide +kernel
theorem dX7_prediction_36 : decode cX7_prediction 36 = .ok (.iload_n 2, 1) := by decide +kernel
theorem dX7_prediction_37 : decode cX7_prediction 37 = .ok (.iaload, 1) := by decide +kernel
theorem dX7_prediction_38 : decode cX7_prediction 38 = .ok (.i2l, 1) := by decide +kernel
theorem dX7_prediction_39 : decode cX7_prediction 39 = .ok (.invokestatic 172, 3) := by decide +kernel
theorem dX7_prediction_42 : decode cX7_prediction 42 = .ok (.ladd, 1) := by decide +kernel
theorem dX7_prediction_43 : decode cX7_prediction 43 = .ok (.lstore 4, 2) := by decide +kernel
theorem dX7_prediction_45 : decode cX7_prediction 45 = .ok (.lload 4, 2) := by decide +kernel
theorem dX7_prediction_47 : decode cX7_prediction 47 = .ok (.iload_n 3, 1) := by decide +kernel
theorem dX7_prediction_48 : decode cX7_prediction 48 = .ok (.i2l, 1) := by decide +kernel
theorem dX7_prediction_49 : decode cX7_prediction 49 = .ok (.lcmp, 1) := by decide +kernel
theorem dX7_prediction_50 : decode cX7_prediction 50 = .ok (.ifCond .ge 7, 3) := by decide +kernel
theorem dX7_prediction_53 : decode cX7_prediction 53 = .ok (.iload_n 3, 1) := by decide +kernel
theorem dX7_prediction_54 : decode cX7_prediction 54 = .ok (.goto 26, 3) := by decide +kernel
theorem dX7_prediction_57 : decode cX7_prediction 57 = .ok (.lload 4, 2) := by decide +kernel
theorem dX7_prediction_59 : decode cX7_prediction 59 = .ok (.aload_n 0, 1) := by decide +kernel
theorem dX7_prediction_60 : decode cX7_prediction 60 = .ok (.iload_n 2, 1) := by decide +kernel
theorem dX7_prediction_61 : decode cX7_prediction 61 = .ok (.invokevirtual 176, 3) := by decide +kernel
theorem dX7_prediction_64 : decode cX7_prediction 64 = .ok (.i2l, 1) := by decide +kernel
theorem dX7_prediction_65 : decode cX7_prediction 65 = .ok (.lcmp, 1) := by decide +kernel
theorem dX7_prediction_66 : decode cX7_prediction 66 = .ok (.ifCond .le 11, 3) := by decide +kernel
theorem dX7_prediction_69 : decode cX7_prediction 69 = .ok (.aload_n 0, 1) := by decide +kernel
theorem dX7_prediction_70 : decode cX7_prediction 70 = .ok (.iload_n 2, 1) := by decide +kernel
theorem dX7_prediction_71 : decode cX7_prediction 71 = .ok (.invokevirtual 176, 3) := by decide +kernel
theorem dX7_prediction_74 : decode cX7_prediction 74 = .ok (.goto 6, 3) := by decide +kernel
theorem dX7_prediction_77 : decode cX7_prediction 77 = .ok (.lload 4, 2) := by decide +kernel
theorem dX7_prediction_79 : decode cX7_prediction 79 = .ok (.l2i, 1) := by decide +kernel
theorem dX7_prediction_80 : decode cX7_prediction 80 = .ok (.ireturn, 1) := by decide +kernel
def rm_X7_prediction : Room := { frames := 1, cells := 0, slots := 0, locals := 25 }
abbrev p_X7_prediction (g : kG) (h : Nat) (zth : Int32) (zl1 : Int64) (zl2 : Int64) (zl3 : Int64) (zl4 : Int64) (zpb : Int32) (zln : Int32) (zat : Int32) (zrk : Int32) (zrv : Int32) (zre : Int32) (zwr : Int32) (zrm : Int32) (zrs : Int32) (zis : Int32) (zss : Int32) (zsc : Int32) (ak : Nat) (av : Nat) (bk : Nat) (bv : Nat) (br : Nat) (a_s : Nat) (a_t : Nat) (g1 : Nat) (g2 : Nat) (g3 : Nat) (pa : Nat) (ru : Nat) (tx : Nat) (dk : Nat) (dv : Nat) (ek : Nat) (ev : Nat) (er : Nat) (es : Nat) (et : Nat) (nA : Nat) (fk : Nat → Int32) (fv : Nat → Int32) (nB : Nat) (ck : Nat → Int32) (cv : Nat → Int32) (cr : Nat → Int32) (fS : Nat → Int32) (fT : Nat → Int32) (mS : Nat) (y1 : Nat → Int32) (y2 : Nat → Int32) (y3 : Nat → Int32) (M : List kE3) (C : List kE3) (S : Nat → Int32) (T : Nat → Int32) (x : Int32) : Int32 → va_W → Prop := fun r w1 => r = nI (PRD (kap M) (ksegs M S) x) ∧ w1 = [(h, .inr (9, [.int zth, .int (nI nA), .int (nI nB), .ref ak, .ref av, .ref bk, .ref bv, .ref br, .ref a_s, .ref a_t, .int (nI mS), .ref g1, .ref g2, .ref g3, .long zl1, .long zl2, .long zl3, .long zl4, .int zpb, .ref pa, .ref ru, .ref tx, .int zln, .int zat, .int zrk, .int zrv, .int zre, .int zwr, .int zrm, .int zrs, .int zis, .int zss, .int zsc, .ref dk, .ref dv, .ref ek, .ref ev, .ref er, .ref es, .ref et])), (ak, .inl (g.2.1.1, 152, .inl fk)), (av, .inl (g.2.1.1, 152, .inl fv)), (bk, .inl (g.2.1.1, 24, .inl ck)), (bv, .inl (g.2.1.1, 24, .inl cv)), (br, .inl (g.2.1.1, 24, .inl cr)), (a_s, .inl (g.2.1.1, 4, .inl fS)), (a_t, .inl (g.2.1.1, 5, .inl fT)), (g1, .inl (g.2.1.1, 152, .inl y1)), (g2, .inl (g.2.1.1, 152, .inl y2)), (g3, .inl (g.2.1.1, 152, .inl y3))]
set_option maxHeartbeats 4000000 in
set_option maxRecDepth 100000 in
theorem c_X7_prediction (l : Launch) (g : kG) (h : Nat) (zth : Int32) (zl1 : Int64) (zl2 : Int64) (zl3 : Int64) (zl4 : Int64) (zpb : Int32) (zln : Int32) (zat : Int32) (zrk : Int32) (zrv : Int32) (zre : Int32) (zwr : Int32) (zrm : Int32) (zrs : Int32) (zis : Int32) (zss : Int32) (zsc : Int32) (ak : Nat) (av : Nat) (bk : Nat) (bv : Nat) (br : Nat) (a_s : Nat) (a_t : Nat) (g1 : Nat) (g2 : Nat) (g3 : Nat) (pa : Nat) (ru : Nat) (tx : Nat) (dk : Nat) (dv : Nat) (ek : Nat) (ev : Nat) (er : Nat) (es : Nat) (et : Nat) (nA : Nat) (fk : Nat → Int32) (fv : Nat → Int32) (nB : Nat) (ck : Nat → Int32) (cv : Nat → Int32) (cr : Nat → Int32) (fS : Nat → Int32) (fT : Nat → Int32) (mS : Nat) (y1 : Nat → Int32) (y2 : Nat → Int32) (y3 : Nat → Int32) (M : List kE3) (C : List kE3) (S : Nat → Int32) (T : Nat → Int32) (x : Int32) (hMX : kMX nA fk fv nB ck cv cr fS fT mS y1 y2 y3 M C S T) (hne : 0 < M.length) (hxr : 0 ≤ x.toInt ∧ x.toInt < 10000) : KI l yX7_prediction wsX7_prediction rm_X7_prediction g [.ref h, .int x] [(h, .inr (9, [.int zth, .int (nI nA), .int (nI nB), .ref ak, .ref av, .ref bk, .ref bv, .ref br, .ref a_s, .ref a_t, .int (nI mS), .ref g1, .ref g2, .ref g3, .long zl1, .long zl2, .long zl3, .long zl4, .int zpb, .ref pa, .ref ru, .ref tx, .int zln, .int zat, .int zrk, .int zrv, .int zre, .int zwr, .int zrm, .int zrs, .int zis, .int zss, .int zsc, .ref dk, .ref dv, .ref ek, .ref ev, .ref er, .ref es, .ref et])), (ak, .inl (g.2.1.1, 152, .inl fk)), (av, .inl (g.2.1.1, 152, .inl fv)), (bk, .inl (g.2.1.1, 24, .inl ck)), (bv, .inl (g.2.1.1, 24, .inl cv)), (br, .inl (g.2.1.1, 24, .inl cr)), (a_s, .inl (g.2.1.1, 4, .inl fS)), (a_t, .inl (g.2.1.1, 5, .inl fT)), (g1, .inl (g.2.1.1, 152, .inl y1)), (g2, .inl (g.2.1.1, 152, .inl y2)), (g3, .inl (g.2.1.1, 152, .inl y3))] (p_X7_prediction g h zth zl1 zl2 zl3 zl4 zpb zln zat zrk zrv zre zwr zrm zrs zis zss zsc ak av bk bv br a_s a_t g1 g2 g3 pa ru tx dk dv ek ev er es et nA fk fv nB ck cv cr fS fT mS y1 y2 y3 M C S T x) := by
  refine kbodyI (cc := cX7_prediction) (n := 6) (k := 11) (own := RX7) (plainFor_of_name (by decide)) rfl rfl rfl rfl ?_
  intro p e s m below meth cd A ls hcx
  obtain ⟨hx, hb, hRt, hml, hts, hown, hlk, hA, hP, hK, hD, hE, hS, hl⟩ := hcx
  have hl : lv_has ls 6 [(0, .ref h), (1, .int x)] := hl
  obtain ⟨hMM, hS4, hT5, hKS, hSGm⟩ := id hMX
  obtain ⟨⟨hM, hC⟩, ⟨hnM, hnC⟩, ⟨hIM, hIC⟩, hlen, hrem⟩ := id hMM
  have hsM : kSo (EL nA fk fv fz0) := by rw [hM]; exact hIM.1
  have hsC : kSo (EL nB ck cv cr) := by rw [hC]; exact hIC.1
  have hnl : nA = M.length := by rw [← hM, EL_len]
  have hcl : nB = C.length := by rw [← hC, EL_len]
  obtain ⟨⟨hS01, hS02⟩, ⟨hS11, hS12⟩, ⟨hS21, hS22⟩, ⟨hS31, hS32⟩⟩ := id hKS
  obtain ⟨v2, v3, hSG⟩ := hSGm
  obtain ⟨hmL, hseg⟩ := SG_seg hSG
  have hasc := kap_asc hM hIM
  have hsl : (ksegs M S).length ≤ M.length - 0 := sg_len (hnl ▸ hasc) (by omega) ⟨by omega, by omega⟩ _ _
  have hpos : 0 < (ksegs M S).length := sgs_pos hne
  have hpl : pidx (kap M) (ksegs M S) x < mS := by rw [← pidx_eq hSG x]; exact kplc_lt _ _ _ (by omega)
  obtain ⟨f0, j0, a0, b0, hsg⟩ : ∃ f0 j0 a0 b0 : Nat, sgOf (kap M) (ksegs M S) x = (f0, j0, a0, b0) := ⟨(sgOf (kap M) (ksegs M S) x).1, (sgOf (kap M) (ksegs M S) x).2.1, (sgOf (kap M) (ksegs M S) x).2.2.1, (sgOf (kap M) (ksegs M S) x).2.2.2, rfl⟩
  have hsg2 : sgAt (ksegs M S) (pidx (kap M) (ksegs M S) x) = (f0, j0, a0, b0) := hsg
  have hq5 := hseg _ hpl
  rw [hsg2] at hq5
  obtain ⟨q1, q2, q3, q4, q5⟩ := hq5
  have hok := sg_ok (hnl ▸ hasc) (show M.length ≤ 160 by omega) (show 0 ≤ (S 0).toInt ∧ (S 0).toInt ≤ 8 by omega) _ _ _ (sgAt_mem (L := ksegs M S) (i := pidx (kap M) (ksegs M S) x) (by omega))
  rw [hsg2] at hok
  dsimp only at hok q1 q2 q3 q4 q5
  rw [← hnl] at hok
  have hkb := hasc.1 f0 (by omega)
  obtain ⟨kf, hkf⟩ : ∃ z : Int, z = kap M f0 := ⟨_, rfl⟩
  rw [← hkf] at hkb
  have hPRD : PRD (kap M) (ksegs M S) x = kpr f0 j0 a0 b0 kf x.toInt := by rw [PRD, hsg, hkf]
  obtain ⟨uz, huz⟩ : ∃ z : Int, z = (a0 : Int) * (x.toInt - kf) := ⟨_, rfl⟩
  obtain ⟨qz, hqz⟩ : ∃ z : Int, z = uz / (b0 : Int) := ⟨_, rfl⟩
  have hmu : -3000000 ≤ uz ∧ uz ≤ 3000000 := by rw [huz]; exact kmulc (by omega) (by omega) (by omega) (by omega)
  have hdb := kdiv_bd hmu.1 hmu.2 (show (0 : Int) < (b0 : Int) by omega)
  rw [← hqz] at hdb
  have hP2 : PRD (kap M) (ksegs M S) x = (min (max ((f0 : Int) + qz) (f0 : Int)) (j0 : Int)).toNat := by rw [hPRD]; exact kpr_q (by rw [hqz, huz])
  have hBa : B9 ((f0 : Int) + qz) := by unfold B9; omega
  have hBf : B9 (f0 : Int) := by unfold B9; omega
  have hBj : B9 (j0 : Int) := by unfold B9; omega
  clear hPRD
  refine lv_aload_n hx hb dX7_prediction_0 rfl (lv_at hl 0 rfl) ?_
  refine lv_iload_n hx hb dX7_prediction_1 rfl (lv_at hl 1 rfl) ?_
  refine kcalli (wc := [(h, .inr (9, [.int zth, .int (nI nA), .int (nI nB), .ref ak, .ref av, .ref bk, .ref bv, .ref br, .ref a_s, .ref a_t, .int (nI mS), .ref g1, .ref g2, .ref g3, .long zl1, .long zl2, .long zl3, .long zl4, .int zpb, .ref pa, .ref ru, .ref tx, .int zln, .int zat, .int zrk, .int zrv, .int zre, .int zwr, .int zrm, .int zrs, .int zis, .int zss, .int zsc, .ref dk, .ref dv, .ref ek, .ref ev, .ref er, .ref es, .ref et])), (ak, .inl (g.2.1.1, 152, .inl fk)), (av, .inl (g.2.1.1, 152, .inl fv)), (bk, .inl (g.2.1.1, 24, .inl ck)), (bv, .inl (g.2.1.1, 24, .inl cv)), (br, .inl (g.2.1.1, 24, .inl cr)), (a_s, .inl (g.2.1.1, 4, .inl fS)), (a_t, .inl (g.2.1.1, 5, .inl fT)), (g1, .inl (g.2.1.1, 152, .inl y1)), (g2, .inl (g.2.1.1, 152, .inl y2)), (g3, .inl (g.2.1.1, 152, .inl y3))]) [0, 1, 2, 3, 4, 5, 6, 7, 8, 9, 10] (va_runV (C := RX7) (As := [.int x]) (rest := []) ⟨hx, hb, hml, hown, hts⟩ ((c_X7_segmentAt l g h zth zl1 zl2 zl3 zl4 zpb zln zat zrk zrv zre zwr zrm zrs zis zss zsc ak av bk bv br a_s a_t g1 g2 g3 pa ru tx dk dv ek ev er es et nA fk fv nB ck cv cr fS fT mS y1 y2 y3 M C S T x hMX) _) (cwV 1 hts gX7_prediction_X7_segmentAt rfl rfl rfl (by decide +kernel) ⟨Nat.le_of_ble_eq_true rfl, Nat.le_of_ble_eq_true rfl⟩) (kpreV (wc := [(h, .inr (9, [.int zth, .int (nI nA), .int (nI nB), .ref ak, .ref av, .ref bk, .ref bv, .ref br, .ref a_s, .ref a_t, .int (nI mS), .ref g1, .ref g2, .ref g3, .long zl1, .long zl2, .long zl3, .long zl4, .int zpb, .ref pa, .ref ru, .ref tx, .int zln, .int zat, .int zrk, .int zrv, .int zre, .int zwr, .int zrm, .int zrs, .int zis, .int zss, .int zsc, .ref dk, .ref dv, .ref ek, .ref ev, .ref er, .ref es, .ref et])), (ak, .inl (g.2.1.1, 152, .inl fk)), (av, .inl (g.2.1.1, 152, .inl fv)), (bk, .inl (g.2.1.1, 24, .inl ck)), (bv, .inl (g.2.1.1, 24, .inl cv)), (br, .inl (g.2.1.1, 24, .inl cr)), (a_s, .inl (g.2.1.1, 4, .inl fS)), (a_t, .inl (g.2.1.1, 5, .inl fT)), (g1, .inl (g.2.1.1, 152, .inl y1)), (g2, .inl (g.2.1.1, 152, .inl y2)), (g3, .inl (g.2.1.1, 152, .inl y3))]) (ci := 9) hK hP hD hS hA hE [0, 1, 2, 3, 4, 5, 6, 7, 8, 9, 10] rfl rfl rfl rfl) rfl rfl hl.1 rfl (lv_room (Nat.le_of_ble_eq_true rfl)) dX7_prediction_2 ⟨Nat.zero_le _, Nat.zero_le _⟩) hP hD hS hA rfl (fun r_1 w_1 H locs hp hP hD hS => ?_)
  obtain ⟨rfl, rfl⟩ := hp
  have hP : va_P g.1 vwCl [(h, .inr (9, [.int zth, .int (nI nA), .int (nI nB), .ref ak, .ref av, .ref bk, .ref bv, .ref br, .ref a_s, .ref a_t, .int (nI mS), .ref g1, .ref g2, .ref g3, .long zl1, .long zl2, .long zl3, .long zl4, .int zpb, .ref pa, .ref ru, .ref tx, .int zln, .int zat, .int zrk, .int zrv, .int zre, .int zwr, .int zrm, .int zrs, .int zis, .int zss, .int zsc, .ref dk, .ref dv, .ref ek, .ref ev, .ref er, .ref es, .ref et])), (ak, .inl (g.2.1.1, 152, .inl fk)), (av, .inl (g.2.1.1, 152, .inl fv)), (bk, .inl (g.2.1.1, 24, .inl ck)), (bv, .inl (g.2.1.1, 24, .inl cv)), (br, .inl (g.2.1.1, 24, .inl cr)), (a_s, .inl (g.2.1.1, 4, .inl fS)), (a_t, .inl (g.2.1.1, 5, .inl fT)), (g1, .inl (g.2.1.1, 152, .inl y1)), (g2, .inl (g.2.1.1, 152, .inl y2)), (g3, .inl (g.2.1.1, 152, .inl y3))] H := hP
  have hD : va_D A [(h, .inr (9, [.int zth, .int (nI nA), .int (nI nB), .ref ak, .ref av, .ref bk, .ref bv, .ref br, .ref a_s, .ref a_t, .int (nI mS), .ref g1, .ref g2, .ref g3, .long zl1, .long zl2, .long zl3, .long zl4, .int zpb, .ref pa, .ref ru, .ref tx, .int zln, .int zat, .int zrk, .int zrv, .int zre, .int zwr, .int zrm, .int zrs, .int zis, .int zss, .int zsc, .ref dk, .ref dv, .ref ek, .ref ev, .ref er, .ref es, .ref et])), (ak, .inl (g.2.1.1, 152, .inl fk)), (av, .inl (g.2.1.1, 152, .inl fv)), (bk, .inl (g.2.1.1, 24, .inl ck)), (bv, .inl (g.2.1.1, 24, .inl cv)), (br, .inl (g.2.1.1, 24, .inl cr)), (a_s, .inl (g.2.1.1, 4, .inl fS)), (a_t, .inl (g.2.1.1, 5, .inl fT)), (g1, .inl (g.2.1.1, 152, .inl y1)), (g2, .inl (g.2.1.1, 152, .inl y2)), (g3, .inl (g.2.1.1, 152, .inl y3))] := hD
  refine lv_istore_n (lv' := [(2, .int (nI (pidx (kap M) (ksegs M S) x))), (0, .ref h), (1, .int x)]) hx hb dX7_prediction_5 rfl hl (by decide) rfl (fun ls hl => ?_)
  refine lv_aload_n hx hb dX7_prediction_6 rfl (lv_at hl 1 rfl) ?_
  refine va_get (D := g.1) (ci := 9) (v := .ref g1) (C := RX7) (T := TX7) (N := 40) hx hb hts (by decide +kernel) hown hK hP 0 rfl rfl 11 (by decide) (hts (.fieldLink RX7 31 "LearnedIndexModel" "begins" "[I") (by decide +kernel)) (fun _ h9 => h9) rfl dX7_prediction_7 ?_
  refine lv_iload_n hx hb dX7_prediction_10 rfl (lv_at hl 0 rfl) ?_
  refine va_iald hx hb hK hP 8 0 rfl rfl (vp_in_nI (show pidx (kap M) (ksegs M S) x < 152 by omega) (by omega)) dX7_prediction_11 ?_
  rw [show (nI (pidx (kap M) (ksegs M S) x) : Int32).toNatClampNeg = pidx (kap M) (ksegs M S) x from nI_clamp (n := pidx (kap M) (ksegs M S) x) (by omega)]
  rw [show (y1 (pidx (kap M) (ksegs M S) x) : Int32) = nI f0 from q1]
  refine lv_istore_n (lv' := [(3, .int (nI f0)), (2, .int (nI (pidx (kap M) (ksegs M S) x))), (0, .ref h), (1, .int x)]) hx hb dX7_prediction_12 rfl hl (by decide) rfl (fun ls hl => ?_)
  refine lv_iload_n hx hb dX7_prediction_13 rfl (lv_at hl 0 rfl) ?_
  refine lv_i2l hx hb dX7_prediction_14 rfl ?_
  rw [show ((nI f0).toInt64 : Int64) = kL ((f0 : Nat) : Int) from by rw [kI_nI, kL_I (by omega) (by omega)]]
  refine lv_aload_n hx hb dX7_prediction_15 rfl (lv_at hl 2 rfl) ?_
  refine va_get (D := g.1) (ci := 9) (v := .ref g2) (C := RX7) (T := TX7) (N := 40) hx hb hts (by decide +kernel) hown hK hP 0 rfl rfl 12 (by decide) (hts (.fieldLink RX7 34 "LearnedIndexModel" "tops" "[I") (by decide +kernel)) (fun _ h9 => h9) rfl dX7_prediction_16 ?_
  refine lv_iload_n hx hb dX7_prediction_19 rfl (lv_at hl 1 rfl) ?_
  refine va_iald hx hb hK hP 9 0 rfl rfl (vp_in_nI (show pidx (kap M) (ksegs M S) x < 152 by omega) (by omega)) dX7_prediction_20 ?_
  rw [show (nI (pidx (kap M) (ksegs M S) x) : Int32).toNatClampNeg = pidx (kap M) (ksegs M S) x from nI_clamp (n := pidx (kap M) (ksegs M S) x) (by omega)]
  rw [show (y2 (pidx (kap M) (ksegs M S) x) : Int32) = nI a0 from q4]
  refine lv_i2l hx hb dX7_prediction_21 rfl ?_
  rw [show ((nI a0).toInt64 : Int64) = kL ((a0 : Nat) : Int) from by rw [kI_nI, kL_I (by omega) (by omega)]]
  refine lv_iload_n hx hb dX7_prediction_22 rfl (lv_at hl 3 rfl) ?_
  refine lv_aload_n hx hb dX7_prediction_23 rfl (lv_at hl 2 rfl) ?_
  refine va_get (D := g.1) (ci := 9) (v := .ref ak) (C := RX7) (T := TX7) (N := 40) hx hb hts (by decide +kernel) hown hK hP 0 rfl rfl 3 (by decide) (hts (.fieldLink RX7 9 "LearnedIndexModel" "keys" "[I") (by decide +kernel)) (fun _ h9 => h9) rfl dX7_prediction_24 ?_
  refine lv_iload_n hx hb dX7_prediction_27 rfl (lv_at hl 0 rfl) ?_
  refine va_iald hx hb hK hP 1 0 rfl rfl (vp_in_nI (show f0 < 152 by omega) (by omega)) dX7_prediction_28 ?_
  rw [show (nI f0 : Int32).toNatClampNeg = f0 from nI_clamp (n := f0) (by omega)]
  rw [show (fk f0 : Int32) = kI kf from by rw [EL_kap hM (show f0 < nA by omega), hkf]]
  refine lv_isub hx hb dX7_prediction_29 ?_
  rw [show (x - (kI kf) : Int32) = kI (x.toInt - kf) from kI_xs x _]
  refine lv_i2l hx hb dX7_prediction_30 rfl ?_
  rw [show ((kI (x.toInt - kf)).toInt64 : Int64) = kL (x.toInt - kf) from kL_I (by omega) (by omega)]
  refine lv_lmul hx hb dX7_prediction_31 ?_
  rw [show ((kL ((a0 : Nat) : Int)) * (kL (x.toInt - kf)) : Int64) = kL uz from by rw [kL_mul, huz]]
  refine lv_aload_n hx hb dX7_prediction_32 rfl (lv_at hl 2 rfl) ?_
  refine va_get (D := g.1) (ci := 9) (v := .ref g3) (C := RX7) (T := TX7) (N := 40) hx hb hts (by decide +kernel) hown hK hP 0 rfl rfl 13 (by decide) (hts (.fieldLink RX7 37 "LearnedIndexModel" "bottoms" "[I") (by decide +kernel)) (fun _ h9 => h9) rfl dX7_prediction_33 ?_
  refine lv_iload_n hx hb dX7_prediction_36 rfl (lv_at hl 1 rfl) ?_
  refine va_iald hx hb hK hP 10 0 rfl rfl (vp_in_nI (show pidx (kap M) (ksegs M S) x < 152 by omega) (by omega)) dX7_prediction_37 ?_
  rw [show (nI (pidx (kap M) (ksegs M S) x) : Int32).toNatClampNeg = pidx (kap M) (ksegs M S) x from nI_clamp (n := pidx (kap M) (ksegs M S) x) (by omega)]
  rw [show (y3 (pidx (kap M) (ksegs M S) x) : Int32) = nI b0 from q5]
  refine lv_i2l hx hb dX7_prediction_38 rfl ?_
  rw [show ((nI b0).toInt64 : Int64) = kL ((b0 : Nat) : Int) from by rw [kI_nI, kL_I (by omega) (by omega)]]
  refine kcalll (wc := []) [] (va_runS (As := [.long (kL uz), .long (kL ((b0 : Nat) : Int))]) (rest := [.long (kL ((f0 : Nat) : Int))]) ⟨hx, hb, hml, hown, hts⟩ ((c_X7_floor l g uz ((b0 : Nat) : Int) hmu (⟨by omega, by omega⟩)) _) (va_cwS 2 hts gX7_prediction_X7_floor rfl rfl rfl (by decide +kernel) ⟨Nat.le_of_ble_eq_true rfl, Nat.le_of_ble_eq_true rfl⟩) (kpreS (wc := []) hK hP hD hS hA hE [] rfl rfl) rfl rfl hl.1 rfl (lv_room (Nat.le_of_ble_eq_true rfl)) dX7_prediction_39 ⟨Nat.zero_le _, Nat.zero_le _⟩) hP hD hS hA rfl (fun r_2 w_2 H locs hp hP hD hS => ?_)
  obtain ⟨rfl, rfl⟩ := hp
  have hP : va_P g.1 vwCl [(h, .inr (9, [.int zth, .int (nI nA), .int (nI nB), .ref ak, .ref av, .ref bk, .ref bv, .ref br, .ref a_s, .ref a_t, .int (nI mS), .ref g1, .ref g2, .ref g3, .long zl1, .long zl2, .long zl3, .long zl4, .int zpb, .ref pa, .ref ru, .ref tx, .int zln, .int zat, .int zrk, .int zrv, .int zre, .int zwr, .int zrm, .int zrs, .int zis, .int zss, .int zsc, .ref dk, .ref dv, .ref ek, .ref ev, .ref er, .ref es, .ref et])), (ak, .inl (g.2.1.1, 152, .inl fk)), (av, .inl (g.2.1.1, 152, .inl fv)), (bk, .inl (g.2.1.1, 24, .inl ck)), (bv, .inl (g.2.1.1, 24, .inl cv)), (br, .inl (g.2.1.1, 24, .inl cr)), (a_s, .inl (g.2.1.1, 4, .inl fS)), (a_t, .inl (g.2.1.1, 5, .inl fT)), (g1, .inl (g.2.1.1, 152, .inl y1)), (g2, .inl (g.2.1.1, 152, .inl y2)), (g3, .inl (g.2.1.1, 152, .inl y3))] H := hP
  have hD : va_D A [(h, .inr (9, [.int zth, .int (nI nA), .int (nI nB), .ref ak, .ref av, .ref bk, .ref bv, .ref br, .ref a_s, .ref a_t, .int (nI mS), .ref g1, .ref g2, .ref g3, .long zl1, .long zl2, .long zl3, .long zl4, .int zpb, .ref pa, .ref ru, .ref tx, .int zln, .int zat, .int zrk, .int zrv, .int zre, .int zwr, .int zrm, .int zrs, .int zis, .int zss, .int zsc, .ref dk, .ref dv, .ref ek, .ref ev, .ref er, .ref es, .ref et])), (ak, .inl (g.2.1.1, 152, .inl fk)), (av, .inl (g.2.1.1, 152, .inl fv)), (bk, .inl (g.2.1.1, 24, .inl ck)), (bv, .inl (g.2.1.1, 24, .inl cv)), (br, .inl (g.2.1.1, 24, .inl cr)), (a_s, .inl (g.2.1.1, 4, .inl fS)), (a_t, .inl (g.2.1.1, 5, .inl fT)), (g1, .inl (g.2.1.1, 152, .inl y1)), (g2, .inl (g.2.1.1, 152, .inl y2)), (g3, .inl (g.2.1.1, 152, .inl y3))] := hD
  rw [show (kL (uz / ((b0 : Nat) : Int)) : Int64) = kL qz from by rw [hqz]]
  refine lv_ladd hx hb dX7_prediction_42 ?_
  rw [show ((kL ((f0 : Nat) : Int)) + (kL qz) : Int64) = kL ((f0 : Int) + qz) from kL_add _ _]
  refine lv_lstore (lv' := [(4, .long (kL ((f0 : Int) + qz))), (3, .int (nI f0)), (2, .int (nI (pidx (kap M) (ksegs M S) x))), (0, .ref h), (1, .int x)]) hx hb dX7_prediction_43 hl (by decide) rfl (fun ls hl => ?_)
  refine lv_lload hx hb dX7_prediction_45 (lv_at hl 0 rfl) ?_
  refine lv_iload_n hx hb dX7_prediction_47 rfl (lv_at hl 1 rfl) ?_
  refine lv_i2l hx hb dX7_prediction_48 rfl ?_
  rw [show ((nI f0).toInt64 : Int64) = kL ((f0 : Nat) : Int) from by rw [kI_nI, kL_I (by omega) (by omega)]]
  refine W.lcmp hx hb dX7_prediction_49 ?_
  refine lv_if_ge (tgt := 57) hx hb dX7_prediction_50 (by decide) (fun c_50 => ?_) (fun c_50 => ?_)
  · skip
    rw [lg9_ge hBa hBf] at c_50
    refine lv_lload hx hb dX7_prediction_57 (lv_at hl 0 rfl) ?_
    refine lv_aload_n hx hb dX7_prediction_59 rfl (lv_at hl 3 rfl) ?_
    refine lv_iload_n hx hb dX7_prediction_60 rfl (lv_at hl 2 rfl) ?_
    refine kcalli (wc := [(h, .inr (9, [.int zth, .int (nI nA), .int (nI nB), .ref ak, .ref av, .ref bk, .ref bv, .ref br, .ref a_s, .ref a_t, .int (nI mS), .ref g1, .ref g2, .ref g3, .long zl1, .long zl2, .long zl3, .long zl4, .int zpb, .ref pa, .ref ru, .ref tx, .int zln, .int zat, .int zrk, .int zrv, .int zre, .int zwr, .int zrm, .int zrs, .int zis, .int zss, .int zsc, .ref dk, .ref dv, .ref ek, .ref ev, .ref er, .ref es, .ref et])), (ak, .inl (g.2.1.1, 152, .inl fk)), (av, .inl (g.2.1.1, 152, .inl fv)), (bk, .inl (g.2.1.1, 24, .inl ck)), (bv, .inl (g.2.1.1, 24, .inl cv)), (br, .inl (g.2.1.1, 24, .inl cr)), (a_s, .inl (g.2.1.1, 4, .inl fS)), (a_t, .inl (g.2.1.1, 5, .inl fT)), (g1, .inl (g.2.1.1, 152, .inl y1)), (g2, .inl (g.2.1.1, 152, .inl y2)), (g3, .inl (g.2.1.1, 152, .inl y3))]) [0, 1, 2, 3, 4, 5, 6, 7, 8, 9, 10] (va_runV (C := RX7) (As := [.int (nI (pidx (kap M) (ksegs M S) x))]) (rest := [.long (kL ((f0 : Int) + qz))]) ⟨hx, hb, hml, hown, hts⟩ ((c_X7_lastOf l g h zth zl1 zl2 zl3 zl4 zpb zln zat zrk zrv zre zwr zrm zrs zis zss zsc ak av bk bv br a_s a_t g1 g2 g3 pa ru tx dk dv ek ev er es et nA fk fv nB ck cv cr fS fT mS y1 y2 y3 M C S T (pidx (kap M) (ksegs M S) x) hMX hpl) _) (cwV 1 hts gX7_prediction_X7_lastOf rfl rfl rfl (by decide +kernel) ⟨Nat.le_of_ble_eq_true rfl, Nat.le_of_ble_eq_true rfl⟩) (kpreV (wc := [(h, .inr (9, [.int zth, .int (nI nA), .int (nI nB), .ref ak, .ref av, .ref bk, .ref bv, .ref br, .ref a_s, .ref a_t, .int (nI mS), .ref g1, .ref g2, .ref g3, .long zl1, .long zl2, .long zl3, .long zl4, .int zpb, .ref pa, .ref ru, .ref tx, .int zln, .int zat, .int zrk, .int zrv, .int zre, .int zwr, .int zrm, .int zrs, .int zis, .int zss, .int zsc, .ref dk, .ref dv, .ref ek, .ref ev, .ref er, .ref es, .ref et])), (ak, .inl (g.2.1.1, 152, .inl fk)), (av, .inl (g.2.1.1, 152, .inl fv)), (bk, .inl (g.2.1.1, 24, .inl ck)), (bv, .inl (g.2.1.1, 24, .inl cv)), (br, .inl (g.2.1.1, 24, .inl cr)), (a_s, .inl (g.2.1.1, 4, .inl fS)), (a_t, .inl (g.2.1.1, 5, .inl fT)), (g1, .inl (g.2.1.1, 152, .inl y1)), (g2, .inl (g.2.1.1, 152, .inl y2)), (g3, .inl (g.2.1.1, 152, .inl y3))]) (ci := 9) hK hP hD hS hA hE [0, 1, 2, 3, 4, 5, 6, 7, 8, 9, 10] rfl rfl rfl rfl) rfl rfl hl.1 rfl (lv_room (Nat.le_of_ble_eq_true rfl)) dX7_prediction_61 ⟨Nat.zero_le _, Nat.zero_le _⟩) hP hD hS hA rfl (fun r_3 w_3 H locs hp hP hD hS => ?_)
    obtain ⟨rfl, rfl⟩ := hp
    have hP : va_P g.1 vwCl [(h, .inr (9, [.int zth, .int (nI nA), .int (nI nB), .ref ak, .ref av, .ref bk, .ref bv, .ref br, .ref a_s, .ref a_t, .int (nI mS), .ref g1, .ref g2, .ref g3, .long zl1, .long zl2, .long zl3, .long zl4, .int zpb, .ref pa, .ref ru, .ref tx, .int zln, .int zat, .int zrk, .int zrv, .int zre, .int zwr, .int zrm, .int zrs, .int zis, .int zss, .int zsc, .ref dk, .ref dv, .ref ek, .ref ev, .ref er, .ref es, .ref et])), (ak, .inl (g.2.1.1, 152, .inl fk)), (av, .inl (g.2.1.1, 152, .inl fv)), (bk, .inl (g.2.1.1, 24, .inl ck)), (bv, .inl (g.2.1.1, 24, .inl cv)), (br, .inl (g.2.1.1, 24, .inl cr)), (a_s, .inl (g.2.1.1, 4, .inl fS)), (a_t, .inl (g.2.1.1, 5, .inl fT)), (g1, .inl (g.2.1.1, 152, .inl y1)), (g2, .inl (g.2.1.1, 152, .inl y2)), (g3, .inl (g.2.1.1, 152, .inl y3))] H := hP
    have hD : va_D A [(h, .inr (9, [.int zth, .int (nI nA), .int (nI nB), .ref ak, .ref av, .ref bk, .ref bv, .ref br, .ref a_s, .ref a_t, .int (nI mS), .ref g1, .ref g2, .ref g3, .long zl1, .long zl2, .long zl3, .long zl4, .int zpb, .ref pa, .ref ru, .ref tx, .int zln, .int zat, .int zrk, .int zrv, .int zre, .int zwr, .int zrm, .int zrs, .int zis, .int zss, .int zsc, .ref dk, .ref dv, .ref ek, .ref ev, .ref er, .ref es, .ref et])), (ak, .inl (g.2.1.1, 152, .inl fk)), (av, .inl (g.2.1.1, 152, .inl fv)), (bk, .inl (g.2.1.1, 24, .inl ck)), (bv, .inl (g.2.1.1, 24, .inl cv)), (br, .inl (g.2.1.1, 24, .inl cr)), (a_s, .inl (g.2.1.1, 4, .inl fS)), (a_t, .inl (g.2.1.1, 5, .inl fT)), (g1, .inl (g.2.1.1, 152, .inl y1)), (g2, .inl (g.2.1.1, 152, .inl y2)), (g3, .inl (g.2.1.1, 152, .inl y3))] := hD
    rw [show (nI (sgAt (ksegs M S) (pidx (kap M) (ksegs M S) x)).2.1 : Int32) = nI j0 from by rw [hsg2]]
    refine lv_i2l hx hb dX7_prediction_64 rfl ?_
    rw [show ((nI j0).toInt64 : Int64) = kL ((j0 : Nat) : Int) from by rw [kI_nI, kL_I (by omega) (by omega)]]
    refine W.lcmp hx hb dX7_prediction_65 ?_
    refine lv_if_le (tgt := 77) hx hb dX7_prediction_66 (by decide) (fun c_66 => ?_) (fun c_66 => ?_)
    · skip
      rw [lg9_le hBa hBj] at c_66
      refine lv_lload hx hb dX7_prediction_77 (lv_at hl 0 rfl) ?_
      refine lv_l2i hx hb dX7_prediction_79 rfl ?_
      exact kreti hx hb hRt hlk hK hP hD hS rfl dX7_prediction_80 (⟨by rw [hP2, kL_i, kI_tn (by omega)]; congr 1; omega, rfl⟩)
    · skip
      rw [lg9_le hBa hBj] at c_66
      refine lv_aload_n hx hb dX7_prediction_69 rfl (lv_at hl 3 rfl) ?_
      refine lv_iload_n hx hb dX7_prediction_70 rfl (lv_at hl 2 rfl) ?_
      refine kcalli (wc := [(h, .inr (9, [.int zth, .int (nI nA), .int (nI nB), .ref ak, .ref av, .ref bk, .ref bv, .ref br, .ref a_s, .ref a_t, .int (nI mS), .ref g1, .ref g2, .ref g3, .long zl1, .long zl2, .long zl3, .long zl4, .int zpb, .ref pa, .ref ru, .ref tx, .int zln, .int zat, .int zrk, .int zrv, .int zre, .int zwr, .int zrm, .int zrs, .int zis, .int zss, .int zsc, .ref dk, .ref dv, .ref ek, .ref ev, .ref er, .ref es, .ref et])), (ak, .inl (g.2.1.1, 152, .inl fk)), (av, .inl (g.2.1.1, 152, .inl fv)), (bk, .inl (g.2.1.1, 24, .inl ck)), (bv, .inl (g.2.1.1, 24, .inl cv)), (br, .inl (g.2.1.1, 24, .inl cr)), (a_s, .inl (g.2.1.1, 4, .inl fS)), (a_t, .inl (g.2.1.1, 5, .inl fT)), (g1, .inl (g.2.1.1, 152, .inl y1)), (g2, .inl (g.2.1.1, 152, .inl y2)), (g3, .inl (g.2.1.1, 152, .inl y3))]) [0, 1, 2, 3, 4, 5, 6, 7, 8, 9, 10] (va_runV (C := RX7) (As := [.int (nI (pidx (kap M) (ksegs M S) x))]) (rest := []) ⟨hx, hb, hml, hown, hts⟩ ((c_X7_lastOf l g h zth zl1 zl2 zl3 zl4 zpb zln zat zrk zrv zre zwr zrm zrs zis zss zsc ak av bk bv br a_s a_t g1 g2 g3 pa ru tx dk dv ek ev er es et nA fk fv nB ck cv cr fS fT mS y1 y2 y3 M C S T (pidx (kap M) (ksegs M S) x) hMX hpl) _) (cwV 1 hts gX7_prediction_X7_lastOf rfl rfl rfl (by decide +kernel) ⟨Nat.le_of_ble_eq_true rfl, Nat.le_of_ble_eq_true rfl⟩) (kpreV (wc := [(h, .inr (9, [.int zth, .int (nI nA), .int (nI nB), .ref ak, .ref av, .ref bk, .ref bv, .ref br, .ref a_s, .ref a_t, .int (nI mS), .ref g1, .ref g2, .ref g3, .long zl1, .long zl2, .long zl3, .long zl4, .int zpb, .ref pa, .ref ru, .ref tx, .int zln, .int zat, .int zrk, .int zrv, .int zre, .int zwr, .int zrm, .int zrs, .int zis, .int zss, .int zsc, .ref dk, .ref dv, .ref ek, .ref ev, .ref er, .ref es, .ref et])), (ak, .inl (g.2.1.1, 152, .inl fk)), (av, .inl (g.2.1.1, 152, .inl fv)), (bk, .inl (g.2.1.1, 24, .inl ck)), (bv, .inl (g.2.1.1, 24, .inl cv)), (br, .inl (g.2.1.1, 24, .inl cr)), (a_s, .inl (g.2.1.1, 4, .inl fS)), (a_t, .inl (g.2.1.1, 5, .inl fT)), (g1, .inl (g.2.1.1, 152, .inl y1)), (g2, .inl (g.2.1.1, 152, .inl y2)), (g3, .inl (g.2.1.1, 152, .inl y3))]) (ci := 9) hK hP hD hS hA hE [0, 1, 2, 3, 4, 5, 6, 7, 8, 9, 10] rfl rfl rfl rfl) rfl rfl hl.1 rfl (lv_room (Nat.le_of_ble_eq_true rfl)) dX7_prediction_71 ⟨Nat.zero_le _, Nat.zero_le _⟩) hP hD hS hA rfl (fun r_4 w_4 H locs hp hP hD hS => ?_)
      obtain ⟨rfl, rfl⟩ := hp
      have hP : va_P g.1 vwCl [(h, .inr (9, [.int zth, .int (nI nA), .int (nI nB), .ref ak, .ref av, .ref bk, .ref bv, .ref br, .ref a_s, .ref a_t, .int (nI mS), .ref g1, .ref g2, .ref g3, .long zl1, .long zl2, .long zl3, .long zl4, .int zpb, .ref pa, .ref ru, .ref tx, .int zln, .int zat, .int zrk, .int zrv, .int zre, .int zwr, .int zrm, .int zrs, .int zis, .int zss, .int zsc, .ref dk, .ref dv, .ref ek, .ref ev, .ref er, .ref es, .ref et])), (ak, .inl (g.2.1.1, 152, .inl fk)), (av, .inl (g.2.1.1, 152, .inl fv)), (bk, .inl (g.2.1.1, 24, .inl ck)), (bv, .inl (g.2.1.1, 24, .inl cv)), (br, .inl (g.2.1.1, 24, .inl cr)), (a_s, .inl (g.2.1.1, 4, .inl fS)), (a_t, .inl (g.2.1.1, 5, .inl fT)), (g1, .inl (g.2.1.1, 152, .inl y1)), (g2, .inl (g.2.1.1, 152, .inl y2)), (g3, .inl (g.2.1.1, 152, .inl y3))] H := hP
      have hD : va_D A [(h, .inr (9, [.int zth, .int (nI nA), .int (nI nB), .ref ak, .ref av, .ref bk, .ref bv, .ref br, .ref a_s, .ref a_t, .int (nI mS), .ref g1, .ref g2, .ref g3, .long zl1, .long zl2, .long zl3, .long zl4, .int zpb, .ref pa, .ref ru, .ref tx, .int zln, .int zat, .int zrk, .int zrv, .int zre, .int zwr, .int zrm, .int zrs, .int zis, .int zss, .int zsc, .ref dk, .ref dv, .ref ek, .ref ev, .ref er, .ref es, .ref et])), (ak, .inl (g.2.1.1, 152, .inl fk)), (av, .inl (g.2.1.1, 152, .inl fv)), (bk, .inl (g.2.1.1, 24, .inl ck)), (bv, .inl (g.2.1.1, 24, .inl cv)), (br, .inl (g.2.1.1, 24, .inl cr)), (a_s, .inl (g.2.1.1, 4, .inl fS)), (a_t, .inl (g.2.1.1, 5, .inl fT)), (g1, .inl (g.2.1.1, 152, .inl y1)), (g2, .inl (g.2.1.1, 152, .inl y2)), (g3, .inl (g.2.1.1, 152, .inl y3))] := hD
      rw [show (nI (sgAt (ksegs M S) (pidx (kap M) (ksegs M S) x)).2.1 : Int32) = nI j0 from by rw [hsg2]]
      refine lv_goto (tgt := 80) hx hb dX7_prediction_74 (by decide) ?_
      exact kreti hx hb hRt hlk hK hP hD hS rfl dX7_prediction_80 (⟨by rw [hP2]; congr 1; omega, rfl⟩)
  · skip
    rw [lg9_ge hBa hBf] at c_50
    refine lv_iload_n hx hb dX7_prediction_53 rfl (lv_at hl 1 rfl) ?_
    refine lv_goto (tgt := 80) hx hb dX7_prediction_54 (by decide) ?_
    exact kreti hx hb hRt hlk hK hP hD hS rfl dX7_prediction_80 (⟨by rw [hP2]; congr 1; omega, rfl⟩)
set_option maxRecDepth 20000 in
theorem ggX7_windowBegin_X7_prediction : GoodIn wsX7_windowBegin wsX7_prediction := goodIn_ca (goodIn_ca (goodIn_r _ [7, 2, 8, 9, 10, 11, 12, 13, 6, 14, 15, 16, 17, 18, 19, 20, 21, 22, 23, 24, 25, 26, 27, 28, 29, 30, 31, 32, 33, 34, 35, 36, 37, 38, 39, 40, 41, 42, 43, 44, 45, 46, 47, 48, 49, 50, 51, 52, 53, 54, 55, 56, 57, 58, 59, 60, 61, 62, 63] (by decide +kernel) (by decide +kernel)) (goodIn_sub (fun _ h => List.mem_cons_of_mem _ (List.mem_append_left _ (List.mem_append_right _ h))) (by decide +kernel))) (goodIn_sub (fun _ h => List.mem_cons_of_mem _ (List.mem_append_right _ h)) (by decide +kernel))
set_option maxRecDepth 20000 in
theorem gX7_windowBegin_X7_prediction : GoodIn wsX7_windowBegin (wsV RX7 179 RX7 yX7_prediction wsX7_prediction) := goodIn_app (goodIn_of _ (by decide +kernel)) ggX7_windowBegin_X7_prediction
set_option maxRecDepth 20000 in
theorem ggX7_windowBegin_X7_segmentAt : GoodIn wsX7_windowBegin wsX7_segmentAt := goodIn_ca (goodIn_r _ [14, 15, 9, 2, 24, 25, 26, 27, 28, 29, 30, 31, 32, 33, 34, 35, 36, 37, 38, 39, 40, 41, 42, 43, 44, 45, 46, 47, 48, 49, 50, 51, 52, 53, 54, 55, 56, 57, 58, 59, 60, 61, 62, 63] (by decide +kernel) (by decide +kernel)) (goodIn_sub (fun _ h => List.mem_cons_of_mem _ (List.mem_append_left _ (List.mem_append_right _ h))) (by decide +kernel))
set_option maxRecDepth 20000 in
theorem gX7_windowBegin_X7_segmentAt : GoodIn wsX7_windowBegin (wsV RX7 169 RX7 yX7_segmentAt wsX7_segmentAt) := goodIn_app (goodIn_of _ (by decide +kernel)) ggX7_windowBegin_X7_segmentAt
theorem dX7_windowBegin_0 : decode cX7_windowBegin 0 = .ok (.aload_n 0, 1) := by decide +kernel
theorem dX7_windowBegin_1 : decode cX7_windowBegin 1 = .ok (.iload_n 1, 1) := by decide +kernel
theorem dX7_windowBegin_2 : decode cX7_windowBegin 2 = .ok (.invokevirtual 179, 3) := by decide +kernel
theorem dX7_windowBegin_5 : decode cX7_windowBegin 5 = .ok (.aload_n 0, 1) := by decide +kernel
theorem dX7_windowBegin_6 : decode cX7_windowBegin 6 = .ok (.getfield 25, 3) := by decide +kernel
theorem dX7_windowBegin_9 : decode cX7_windowBegin 9 = .ok (.iconst 0, 1) := by decide +kernel
theorem dX7_windowBegin_10 : decode cX7_windowBegin 10 = .ok (.iaload, 1) := by decide +kernel
theorem dX7_windowBegin_11 : decode cX7_windowBegin 11 = .ok (.isub, 1) := by decide +kernel
theorem dX7_windowBegin_12 : decode cX7_windowBegin 12 = .ok (.istore_n 2, 1) := by decide +kernel
theorem dX7_windowBegin_13 : decode cX7_windowBegin 13 = .ok (.aload_n 0, 1) := by decide +kernel
theorem dX7_windowBegin_14 : decode cX7_windowBegin 14 = .ok (.getfield 31, 3) := by decide +kernel
theorem dX7_windowBegin_17 : decode cX7_windowBegin 17 = .ok (.aload_n 0, 1) := by decide +kernel
theorem dX7_windowBegin_18 : decode cX7_windowBegin 18 = .ok (.iload_n 1, 1) := by decide +kernel
theorem dX7_windowBegin_19 : decode cX7_windowBegin 19 = .ok (.invokevirtual 169, 3) := by decide +kernel
theorem dX7_windowBegin_22 : decode cX7_windowBegin 22 = .ok (.iaload, 1) := by decide +kernel
theorem dX7_windowBegin_23 : decode cX7_windowBegin 23 = .ok (.istore_n 3, 1) := by decide +kernel
theorem dX7_windowBegin_24 : decode cX7_windowBegin 24 = .ok (.iload_n 2, 1) := by decide +kernel
theorem dX7_windowBegin_25 : decode cX7_windowBegin 25 = .ok (.iload_n 3, 1) := by decide +kernel
theorem dX7_windowBegin_26 : decode cX7_windowBegin 26 = .ok (.if_icmp .ge 7, 3) := by decide +kernel
theorem dX7_windowBegin_29 : decode cX7_windowBegin 29 = .ok (.iload_n 3, 1) := by decide +kernel
theorem dX7_windowBegin_30 : decode cX7_windowBegin 30 = .ok (.goto 4, 3) := by decide +kernel
theorem dX7_windowBegin_33 : decode cX7_windowBegin 33 = .ok (.iload_n 2, 1) := by decide +kernel
theorem dX7_windowBegin_34 : decode cX7_windowBegin 34 = .ok (.ireturn, 1) := by decide +kernel
def rm_X7_windowBegin : Room := { frames := 2, cells := 0, slots := 0, locals := 50 }
abbrev p_X7_windowBegin (g : kG) (h : Nat) (zth : Int32) (zl1 : Int64) (zl2 : Int64) (zl3 : Int64) (zl4 : Int64) (zpb : Int32) (zln : Int32) (zat : Int32) (zrk : Int32) (zrv : Int32) (zre : Int32) (zwr : Int32) (zrm : Int32) (zrs : Int32) (zis : Int32) (zss : Int32) (zsc : Int32) (ak : Nat) (av : Nat) (bk : Nat) (bv : Nat) (br : Nat) (a_s : Nat) (a_t : Nat) (g1 : Nat) (g2 : Nat) (g3 : Nat) (pa : Nat) (ru : Nat) (tx : Nat) (dk : Nat) (dv : Nat) (ek : Nat) (ev : Nat) (er : Nat) (es : Nat) (et : Nat) (nA : Nat) (fk : Nat → Int32) (fv : Nat → Int32) (nB : Nat) (ck : Nat → Int32) (cv : Nat → Int32) (cr : Nat → Int32) (fS : Nat → Int32) (fT : Nat → Int32) (mS : Nat) (y1 : Nat → Int32) (y2 : Nat → Int32) (y3 : Nat → Int32) (M : List kE3) (C : List kE3) (S : Nat → Int32) (T : Nat → Int32) (x : Int32) : Int32 → va_W → Prop := fun r w1 => r = nI (PLO (kap M) (ksegs M S) (S 0).toInt x) ∧ w1 = [(h, .inr (9, [.int zth, .int (nI nA), .int (nI nB), .ref ak, .ref av, .ref bk, .ref bv, .ref br, .ref a_s, .ref a_t, .int (nI mS), .ref g1, .ref g2, .ref g3, .long zl1, .long zl2, .long zl3, .long zl4, .int zpb, .ref pa, .ref ru, .ref tx, .int zln, .int zat, .int zrk, .int zrv, .int zre, .int zwr, .int zrm, .int zrs, .int zis, .int zss, .int zsc, .ref dk, .ref dv, .ref ek, .ref ev, .ref er, .ref es, .ref et])), (ak, .inl (g.2.1.1, 152, .inl fk)), (av, .inl (g.2.1.1, 152, .inl fv)), (bk, .inl (g.2.1.1, 24, .inl ck)), (bv, .inl (g.2.1.1, 24, .inl cv)), (br, .inl (g.2.1.1, 24, .inl cr)), (a_s, .inl (g.2.1.1, 4, .inl fS)), (a_t, .inl (g.2.1.1, 5, .inl fT)), (g1, .inl (g.2.1.1, 152, .inl y1)), (g2, .inl (g.2.1.1, 152, .inl y2)), (g3, .inl (g.2.1.1, 152, .inl y3))]
set_option maxHeartbeats 4000000 in
set_option maxRecDepth 100000 in
theorem c_X7_windowBegin (l : Launch) (g : kG) (h : Nat) (zth : Int32) (zl1 : Int64) (zl2 : Int64) (zl3 : Int64) (zl4 : Int64) (zpb : Int32) (zln : Int32) (zat : Int32) (zrk : Int32) (zrv : Int32) (zre : Int32) (zwr : Int32) (zrm : Int32) (zrs : Int32) (zis : Int32) (zss : Int32) (zsc : Int32) (ak : Nat) (av : Nat) (bk : Nat) (bv : Nat) (br : Nat) (a_s : Nat) (a_t : Nat) (g1 : Nat) (g2 : Nat) (g3 : Nat) (pa : Nat) (ru : Nat) (tx : Nat) (dk : Nat) (dv : Nat) (ek : Nat) (ev : Nat) (er : Nat) (es : Nat) (et : Nat) (nA : Nat) (fk : Nat → Int32) (fv : Nat → Int32) (nB : Nat) (ck : Nat → Int32) (cv : Nat → Int32) (cr : Nat → Int32) (fS : Nat → Int32) (fT : Nat → Int32) (mS : Nat) (y1 : Nat → Int32) (y2 : Nat → Int32) (y3 : Nat → Int32) (M : List kE3) (C : List kE3) (S : Nat → Int32) (T : Nat → Int32) (x : Int32) (hMX : kMX nA fk fv nB ck cv cr fS fT mS y1 y2 y3 M C S T) (hne : 0 < M.length) (hxr : 0 ≤ x.toInt ∧ x.toInt < 10000) : KI l yX7_windowBegin wsX7_windowBegin rm_X7_windowBegin g [.ref h, .int x] [(h, .inr (9, [.int zth, .int (nI nA), .int (nI nB), .ref ak, .ref av, .ref bk, .ref bv, .ref br, .ref a_s, .ref a_t, .int (nI mS), .ref g1, .ref g2, .ref g3, .long zl1, .long zl2, .long zl3, .long zl4, .int zpb, .ref pa, .ref ru, .ref tx, .int zln, .int zat, .int zrk, .int zrv, .int zre, .int zwr, .int zrm, .int zrs, .int zis, .int zss, .int zsc, .ref dk, .ref dv, .ref ek, .ref ev, .ref er, .ref es, .ref et])), (ak, .inl (g.2.1.1, 152, .inl fk)), (av, .inl (g.2.1.1, 152, .inl fv)), (bk, .inl (g.2.1.1, 24, .inl ck)), (bv, .inl (g.2.1.1, 24, .inl cv)), (br, .inl (g.2.1.1, 24, .inl cr)), (a_s, .inl (g.2.1.1, 4, .inl fS)), (a_t, .inl (g.2.1.1, 5, .inl fT)), (g1, .inl (g.2.1.1, 152, .inl y1)), (g2, .inl (g.2.1.1, 152, .inl y2)), (g3, .inl (g.2.1.1, 152, .inl y3))] (p_X7_windowBegin g h zth zl1 zl2 zl3 zl4 zpb zln zat zrk zrv zre zwr zrm zrs zis zss zsc ak av bk bv br a_s a_t g1 g2 g3 pa ru tx dk dv ek ev er es et nA fk fv nB ck cv cr fS fT mS y1 y2 y3 M C S T x) := by
  refine kbodyI (cc := cX7_windowBegin) (n := 4) (k := 11) (own := RX7) (plainFor_of_name (by decide)) rfl rfl rfl rfl ?_
  intro p e s m below meth cd A ls hcx
  obtain ⟨hx, hb, hRt, hml, hts, hown, hlk, hA, hP, hK, hD, hE, hS, hl⟩ := hcx
  have hl : lv_has ls 4 [(0, .ref h), (1, .int x)] := hl
  obtain ⟨hMM, hS4, hT5, hKS, hSGm⟩ := id hMX
  obtain ⟨⟨hM, hC⟩, ⟨hnM, hnC⟩, ⟨hIM, hIC⟩, hlen, hrem⟩ := id hMM
  have hsM : kSo (EL nA fk fv fz0) := by rw [hM]; exact hIM.1
  have hsC : kSo (EL nB ck cv cr) := by rw [hC]; exact hIC.1
  have hnl : nA = M.length := by rw [← hM, EL_len]
  have hcl : nB = C.length := by rw [← hC, EL_len]
  obtain ⟨⟨hS01, hS02⟩, ⟨hS11, hS12⟩, ⟨hS21, hS22⟩, ⟨hS31, hS32⟩⟩ := id hKS
  obtain ⟨v2, v3, hSG⟩ := hSGm
  obtain ⟨hmL, hseg⟩ := SG_seg hSG
  have hasc := kap_asc hM hIM
  have hsl : (ksegs M S).length ≤ M.length - 0 := sg_len (hnl ▸ hasc) (by omega) ⟨by omega, by omega⟩ _ _
  have hpos : 0 < (ksegs M S).length := sgs_pos hne
  have hpl : pidx (kap M) (ksegs M S) x < mS := by rw [← pidx_eq hSG x]; exact kplc_lt _ _ _ (by omega)
  obtain ⟨f0, j0, a0, b0, hsg⟩ : ∃ f0 j0 a0 b0 : Nat, sgOf (kap M) (ksegs M S) x = (f0, j0, a0, b0) := ⟨(sgOf (kap M) (ksegs M S) x).1, (sgOf (kap M) (ksegs M S) x).2.1, (sgOf (kap M) (ksegs M S) x).2.2.1, (sgOf (kap M) (ksegs M S) x).2.2.2, rfl⟩
  have hsg2 : sgAt (ksegs M S) (pidx (kap M) (ksegs M S) x) = (f0, j0, a0, b0) := hsg
  have hq5 := hseg _ hpl
  rw [hsg2] at hq5
  obtain ⟨q1, q2, q3, q4, q5⟩ := hq5
  have hok := sg_ok (hnl ▸ hasc) (show M.length ≤ 160 by omega) (show 0 ≤ (S 0).toInt ∧ (S 0).toInt ≤ 8 by omega) _ _ _ (sgAt_mem (L := ksegs M S) (i := pidx (kap M) (ksegs M S) x) (by omega))
  rw [hsg2] at hok
  dsimp only at hok q1 q2 q3 q4 q5
  rw [← hnl] at hok
  have hkb := hasc.1 f0 (by omega)
  obtain ⟨kf, hkf⟩ : ∃ z : Int, z = kap M f0 := ⟨_, rfl⟩
  rw [← hkf] at hkb
  have hPRD : PRD (kap M) (ksegs M S) x = kpr f0 j0 a0 b0 kf x.toInt := by rw [PRD, hsg, hkf]
  have hp3 := kpr_in (a := a0) (b := b0) (kf := kf) (x := x.toInt) hok.1
  obtain ⟨pz, hpz⟩ : ∃ z : Nat, z = PRD (kap M) (ksegs M S) x := ⟨_, rfl⟩
  rw [← hPRD, ← hpz] at hp3
  obtain ⟨β0, hβ0⟩ : ∃ z : Int, z = (S 0).toInt := ⟨_, rfl⟩
  have hβ : 1 ≤ β0 ∧ β0 ≤ 8 := by rw [hβ0]; exact ⟨hS01, hS02⟩
  have hLO : PLO (kap M) (ksegs M S) (S 0).toInt x = (max ((pz : Int) - β0) (f0 : Int)).toNat := by rw [PLO, hsg, klo, ← hpz, hβ0]
  have hHI : PHI (kap M) (ksegs M S) (S 0).toInt x = (min ((pz : Int) + β0 + 1) (j0 : Int)).toNat := by rw [PHI, hsg, khi, ← hpz, hβ0]
  clear hPRD
  refine lv_aload_n hx hb dX7_windowBegin_0 rfl (lv_at hl 0 rfl) ?_
  refine lv_iload_n hx hb dX7_windowBegin_1 rfl (lv_at hl 1 rfl) ?_
  refine kcalli (wc := [(h, .inr (9, [.int zth, .int (nI nA), .int (nI nB), .ref ak, .ref av, .ref bk, .ref bv, .ref br, .ref a_s, .ref a_t, .int (nI mS), .ref g1, .ref g2, .ref g3, .long zl1, .long zl2, .long zl3, .long zl4, .int zpb, .ref pa, .ref ru, .ref tx, .int zln, .int zat, .int zrk, .int zrv, .int zre, .int zwr, .int zrm, .int zrs, .int zis, .int zss, .int zsc, .ref dk, .ref dv, .ref ek, .ref ev, .ref er, .ref es, .ref et])), (ak, .inl (g.2.1.1, 152, .inl fk)), (av, .inl (g.2.1.1, 152, .inl fv)), (bk, .inl (g.2.1.1, 24, .inl ck)), (bv, .inl (g.2.1.1, 24, .inl cv)), (br, .inl (g.2.1.1, 24, .inl cr)), (a_s, .inl (g.2.1.1, 4, .inl fS)), (a_t, .inl (g.2.1.1, 5, .inl fT)), (g1, .inl (g.2.1.1, 152, .inl y1)), (g2, .inl (g.2.1.1, 152, .inl y2)), (g3, .inl (g.2.1.1, 152, .inl y3))]) [0, 1, 2, 3, 4, 5, 6, 7, 8, 9, 10] (va_runV (C := RX7) (As := [.int x]) (rest := []) ⟨hx, hb, hml, hown, hts⟩ ((c_X7_prediction l g h zth zl1 zl2 zl3 zl4 zpb zln zat zrk zrv zre zwr zrm zrs zis zss zsc ak av bk bv br a_s a_t g1 g2 g3 pa ru tx dk dv ek ev er es et nA fk fv nB ck cv cr fS fT mS y1 y2 y3 M C S T x hMX hne hxr) _) (cwV 1 hts gX7_windowBegin_X7_prediction rfl rfl rfl (by decide +kernel) ⟨Nat.le_of_ble_eq_true rfl, Nat.le_of_ble_eq_true rfl⟩) (kpreV (wc := [(h, .inr (9, [.int zth, .int (nI nA), .int (nI nB), .ref ak, .ref av, .ref bk, .ref bv, .ref br, .ref a_s, .ref a_t, .int (nI mS), .ref g1, .ref g2, .ref g3, .long zl1, .long zl2, .long zl3, .long zl4, .int zpb, .ref pa, .ref ru, .ref tx, .int zln, .int zat, .int zrk, .int zrv, .int zre, .int zwr, .int zrm, .int zrs, .int zis, .int zss, .int zsc, .ref dk, .ref dv, .ref ek, .ref ev, .ref er, .ref es, .ref et])), (ak, .inl (g.2.1.1, 152, .inl fk)), (av, .inl (g.2.1.1, 152, .inl fv)), (bk, .inl (g.2.1.1, 24, .inl ck)), (bv, .inl (g.2.1.1, 24, .inl cv)), (br, .inl (g.2.1.1, 24, .inl cr)), (a_s, .inl (g.2.1.1, 4, .inl fS)), (a_t, .inl (g.2.1.1, 5, .inl fT)), (g1, .inl (g.2.1.1, 152, .inl y1)), (g2, .inl (g.2.1.1, 152, .inl y2)), (g3, .inl (g.2.1.1, 152, .inl y3))]) (ci := 9) hK hP hD hS hA hE [0, 1, 2, 3, 4, 5, 6, 7, 8, 9, 10] rfl rfl rfl rfl) rfl rfl hl.1 rfl (lv_room (Nat.le_of_ble_eq_true rfl)) dX7_windowBegin_2 ⟨Nat.zero_le _, Nat.zero_le _⟩) hP hD hS hA rfl (fun r_1 w_1 H locs hp hP hD hS => ?_)
  obtain ⟨rfl, rfl⟩ := hp
  have hP : va_P g.1 vwCl [(h, .inr (9, [.int zth, .int (nI nA), .int (nI nB), .ref ak, .ref av, .ref bk, .ref bv, .ref br, .ref a_s, .ref a_t, .int (nI mS), .ref g1, .ref g2, .ref g3, .long zl1, .long zl2, .long zl3, .long zl4, .int zpb, .ref pa, .ref ru, .ref tx, .int zln, .int zat, .int zrk, .int zrv, .int zre, .int zwr, .int zrm, .int zrs, .int zis, .int zss, .int zsc, .ref dk, .ref dv, .ref ek, .ref ev, .ref er, .ref es, .ref et])), (ak, .inl (g.2.1.1, 152, .inl fk)), (av, .inl (g.2.1.1, 152, .inl fv)), (bk, .inl (g.2.1.1, 24, .inl ck)), (bv, .inl (g.2.1.1, 24, .inl cv)), (br, .inl (g.2.1.1, 24, .inl cr)), (a_s, .inl (g.2.1.1, 4, .inl fS)), (a_t, .inl (g.2.1.1, 5, .inl fT)), (g1, .inl (g.2.1.1, 152, .inl y1)), (g2, .inl (g.2.1.1, 152, .inl y2)), (g3, .inl (g.2.1.1, 152, .inl y3))] H := hP
  have hD : va_D A [(h, .inr (9, [.int zth, .int (nI nA), .int (nI nB), .ref ak, .ref av, .ref bk, .ref bv, .ref br, .ref a_s, .ref a_t, .int (nI mS), .ref g1, .ref g2, .ref g3, .long zl1, .long zl2, .long zl3, .long zl4, .int zpb, .ref pa, .ref ru, .ref tx, .int zln, .int zat, .int zrk, .int zrv, .int zre, .int zwr, .int zrm, .int zrs, .int zis, .int zss, .int zsc, .ref dk, .ref dv, .ref ek, .ref ev, .ref er, .ref es, .ref et])), (ak, .inl (g.2.1.1, 152, .inl fk)), (av, .inl (g.2.1.1, 152, .inl fv)), (bk, .inl (g.2.1.1, 24, .inl ck)), (bv, .inl (g.2.1.1, 24, .inl cv)), (br, .inl (g.2.1.1, 24, .inl cr)), (a_s, .inl (g.2.1.1, 4, .inl fS)), (a_t, .inl (g.2.1.1, 5, .inl fT)), (g1, .inl (g.2.1.1, 152, .inl y1)), (g2, .inl (g.2.1.1, 152, .inl y2)), (g3, .inl (g.2.1.1, 152, .inl y3))] := hD
  rw [show (nI (PRD (kap M) (ksegs M S) x) : Int32) = nI pz from by rw [hpz]]
  refine lv_aload_n hx hb dX7_windowBegin_5 rfl (lv_at hl 0 rfl) ?_
  refine va_get (D := g.1) (ci := 9) (v := .ref a_s) (C := RX7) (T := TX7) (N := 40) hx hb hts (by decide +kernel) hown hK hP 0 rfl rfl 8 (by decide) (hts (.fieldLink RX7 25 "LearnedIndexModel" "settings" "[I") (by decide +kernel)) (fun _ h9 => h9) rfl dX7_windowBegin_6 ?_
  refine lv_iconst (v := 0) hx hb dX7_windowBegin_9 (by decide) ?_
  refine va_iald hx hb hK hP 6 0 rfl rfl (show vp_in 0 4 from vp_in_nI (n := 0) (by omega) (by omega)) dX7_windowBegin_10 ?_
  rw [show (0 : Int32).toNatClampNeg = 0 from nI_clamp (n := 0) (by omega)]
  rw [show (fS 0 : Int32) = kI β0 from by rw [hS4 0 (by decide), hβ0]; exact kI_of _]
  refine lv_isub hx hb dX7_windowBegin_11 ?_
  rw [show ((nI pz) - (kI β0) : Int32) = kI ((pz : Int) - β0) from by rw [kI_nI, kI_sub]]
  refine lv_istore_n (lv' := [(2, .int (kI ((pz : Int) - β0))), (0, .ref h), (1, .int x)]) hx hb dX7_windowBegin_12 rfl hl (by decide) rfl (fun ls hl => ?_)
  refine lv_aload_n hx hb dX7_windowBegin_13 rfl (lv_at hl 1 rfl) ?_
  refine va_get (D := g.1) (ci := 9) (v := .ref g1) (C := RX7) (T := TX7) (N := 40) hx hb hts (by decide +kernel) hown hK hP 0 rfl rfl 11 (by decide) (hts (.fieldLink RX7 31 "LearnedIndexModel" "begins" "[I") (by decide +kernel)) (fun _ h9 => h9) rfl dX7_windowBegin_14 ?_
  refine lv_aload_n hx hb dX7_windowBegin_17 rfl (lv_at hl 1 rfl) ?_
  refine lv_iload_n hx hb dX7_windowBegin_18 rfl (lv_at hl 2 rfl) ?_
  refine kcalli (wc := [(h, .inr (9, [.int zth, .int (nI nA), .int (nI nB), .ref ak, .ref av, .ref bk, .ref bv, .ref br, .ref a_s, .ref a_t, .int (nI mS), .ref g1, .ref g2, .ref g3, .long zl1, .long zl2, .long zl3, .long zl4, .int zpb, .ref pa, .ref ru, .ref tx, .int zln, .int zat, .int zrk, .int zrv, .int zre, .int zwr, .int zrm, .int zrs, .int zis, .int zss, .int zsc, .ref dk, .ref dv, .ref ek, .ref ev, .ref er, .ref es, .ref et])), (ak, .inl (g.2.1.1, 152, .inl fk)), (av, .inl (g.2.1.1, 152, .inl fv)), (bk, .inl (g.2.1.1, 24, .inl ck)), (bv, .inl (g.2.1.1, 24, .inl cv)), (br, .inl (g.2.1.1, 24, .inl cr)), (a_s, .inl (g.2.1.1, 4, .inl fS)), (a_t, .inl (g.2.1.1, 5, .inl fT)), (g1, .inl (g.2.1.1, 152, .inl y1)), (g2, .inl (g.2.1.1, 152, .inl y2)), (g3, .inl (g.2.1.1, 152, .inl y3))]) [0, 1, 2, 3, 4, 5, 6, 7, 8, 9, 10] (va_runV (C := RX7) (As := [.int x]) (rest := [.ref g1]) ⟨hx, hb, hml, hown, hts⟩ ((c_X7_segmentAt l g h zth zl1 zl2 zl3 zl4 zpb zln zat zrk zrv zre zwr zrm zrs zis zss zsc ak av bk bv br a_s a_t g1 g2 g3 pa ru tx dk dv ek ev er es et nA fk fv nB ck cv cr fS fT mS y1 y2 y3 M C S T x hMX) _) (cwV 1 hts gX7_windowBegin_X7_segmentAt rfl rfl rfl (by decide +kernel) ⟨Nat.le_of_ble_eq_true rfl, Nat.le_of_ble_eq_true rfl⟩) (kpreV (wc := [(h, .inr (9, [.int zth, .int (nI nA), .int (nI nB), .ref ak, .ref av, .ref bk, .ref bv, .ref br, .ref a_s, .ref a_t, .int (nI mS), .ref g1, .ref g2, .ref g3, .long zl1, .long zl2, .long zl3, .long zl4, .int zpb, .ref pa, .ref ru, .ref tx, .int zln, .int zat, .int zrk, .int zrv, .int zre, .int zwr, .int zrm, .int zrs, .int zis, .int zss, .int zsc, .ref dk, .ref dv, .ref ek, .ref ev, .ref er, .ref es, .ref et])), (ak, .inl (g.2.1.1, 152, .inl fk)), (av, .inl (g.2.1.1, 152, .inl fv)), (bk, .inl (g.2.1.1, 24, .inl ck)), (bv, .inl (g.2.1.1, 24, .inl cv)), (br, .inl (g.2.1.1, 24, .inl cr)), (a_s, .inl (g.2.1.1, 4, .inl fS)), (a_t, .inl (g.2.1.1, 5, .inl fT)), (g1, .inl (g.2.1.1, 152, .inl y1)), (g2, .inl (g.2.1.1, 152, .inl y2)), (g3, .inl (g.2.1.1, 152, .inl y3))]) (ci := 9) hK hP hD hS hA hE [0, 1, 2, 3, 4, 5, 6, 7, 8, 9, 10] rfl rfl rfl rfl) rfl rfl hl.1 rfl (lv_room (Nat.le_of_ble_eq_true rfl)) dX7_windowBegin_19 ⟨Nat.zero_le _, Nat.zero_le _⟩) hP hD hS hA rfl (fun r_2 w_2 H locs hp hP hD hS => ?_)
  obtain ⟨rfl, rfl⟩ := hp
  have hP : va_P g.1 vwCl [(h, .inr (9, [.int zth, .int (nI nA), .int (nI nB), .ref ak, .ref av, .ref bk, .ref bv, .ref br, .ref a_s, .ref a_t, .int (nI mS), .ref g1, .ref g2, .ref g3, .long zl1, .long zl2, .long zl3, .long zl4, .int zpb, .ref pa, .ref ru, .ref tx, .int zln, .int zat, .int zrk, .int zrv, .int zre, .int zwr, .int zrm, .int zrs, .int zis, .int zss, .int zsc, .ref dk, .ref dv, .ref ek, .ref ev, .ref er, .ref es, .ref et])), (ak, .inl (g.2.1.1, 152, .inl fk)), (av, .inl (g.2.1.1, 152, .inl fv)), (bk, .inl (g.2.1.1, 24, .inl ck)), (bv, .inl (g.2.1.1, 24, .inl cv)), (br, .inl (g.2.1.1, 24, .inl cr)), (a_s, .inl (g.2.1.1, 4, .inl fS)), (a_t, .inl (g.2.1.1, 5, .inl fT)), (g1, .inl (g.2.1.1, 152, .inl y1)), (g2, .inl (g.2.1.1, 152, .inl y2)), (g3, .inl (g.2.1.1, 152, .inl y3))] H := hP
  have hD : va_D A [(h, .inr (9, [.int zth, .int (nI nA), .int (nI nB), .ref ak, .ref av, .ref bk, .ref bv, .ref br, .ref a_s, .ref a_t, .int (nI mS), .ref g1, .ref g2, .ref g3, .long zl1, .long zl2, .long zl3, .long zl4, .int zpb, .ref pa, .ref ru, .ref tx, .int zln, .int zat, .int zrk, .int zrv, .int zre, .int zwr, .int zrm, .int zrs, .int zis, .int zss, .int zsc, .ref dk, .ref dv, .ref ek, .ref ev, .ref er, .ref es, .ref et])), (ak, .inl (g.2.1.1, 152, .inl fk)), (av, .inl (g.2.1.1, 152, .inl fv)), (bk, .inl (g.2.1.1, 24, .inl ck)), (bv, .inl (g.2.1.1, 24, .inl cv)), (br, .inl (g.2.1.1, 24, .inl cr)), (a_s, .inl (g.2.1.1, 4, .inl fS)), (a_t, .inl (g.2.1.1, 5, .inl fT)), (g1, .inl (g.2.1.1, 152, .inl y1)), (g2, .inl (g.2.1.1, 152, .inl y2)), (g3, .inl (g.2.1.1, 152, .inl y3))] := hD
  refine va_iald hx hb hK hP 8 0 rfl rfl (vp_in_nI (show pidx (kap M) (ksegs M S) x < 152 by omega) (by omega)) dX7_windowBegin_22 ?_
  rw [show (nI (pidx (kap M) (ksegs M S) x) : Int32).toNatClampNeg = pidx (kap M) (ksegs M S) x from nI_clamp (n := pidx (kap M) (ksegs M S) x) (by omega)]
  rw [show (y1 (pidx (kap M) (ksegs M S) x) : Int32) = kI (f0 : Int) from q1.trans (kI_nI _)]
  refine lv_istore_n (lv' := [(3, .int (kI (f0 : Int))), (2, .int (kI ((pz : Int) - β0))), (0, .ref h), (1, .int x)]) hx hb dX7_windowBegin_23 rfl hl (by decide) rfl (fun ls hl => ?_)
  refine lv_iload_n hx hb dX7_windowBegin_24 rfl (lv_at hl 1 rfl) ?_
  refine lv_iload_n hx hb dX7_windowBegin_25 rfl (lv_at hl 0 rfl) ?_
  refine lv_icmp_ge (tgt := 33) hx hb dX7_windowBegin_26 (by decide) (fun c_26 => ?_) (fun c_26 => ?_)
  · skip
    rw [kI_le (by omega) (by omega) (by omega) (by omega)] at c_26
    refine lv_iload_n hx hb dX7_windowBegin_33 rfl (lv_at hl 1 rfl) ?_
    exact kreti hx hb hRt hlk hK hP hD hS rfl dX7_windowBegin_34 (⟨by rw [hLO, kI_tn (by omega)]; congr 1; omega, rfl⟩)
  · skip
    rw [kI_le (by omega) (by omega) (by omega) (by omega)] at c_26
    refine lv_iload_n hx hb dX7_windowBegin_29 rfl (lv_at hl 0 rfl) ?_
    refine lv_goto (tgt := 34) hx hb dX7_windowBegin_30 (by decide) ?_
    exact kreti hx hb hRt hlk hK hP hD hS rfl dX7_windowBegin_34 (⟨by rw [hLO, ← kI_nI]; congr 1; omega, rfl⟩)
set_option maxRecDepth 20000 in
theorem ggX7_windowEnd_X7_prediction : GoodIn wsX7_windowEnd wsX7_prediction := goodIn_ca (goodIn_ca (goodIn_r _ [6, 7, 8, 9, 10, 11, 12, 13, 5, 14, 15, 16, 17, 18, 19, 20, 21, 22, 23, 24, 25, 26, 27, 28, 29, 30, 31, 32, 33, 34, 35, 36, 37, 38, 39, 40, 41, 42, 43, 44, 45, 46, 47, 48, 49, 50, 51, 52, 53, 54, 55, 56, 57, 58, 59, 60, 61, 62, 63] (by decide +kernel) (by decide +kernel)) (goodIn_sub (fun _ h => List.mem_cons_of_mem _ (List.mem_append_left _ (List.mem_append_right _ h))) (by decide +kernel))) (goodIn_sub (fun _ h => List.mem_cons_of_mem _ (List.mem_append_right _ h)) (by decide +kernel))
set_option maxRecDepth 20000 in
theorem gX7_windowEnd_X7_prediction : GoodIn wsX7_windowEnd (wsV RX7 179 RX7 yX7_prediction wsX7_prediction) := goodIn_app (goodIn_of _ (by decide +kernel)) ggX7_windowEnd_X7_prediction
set_option maxRecDepth 20000 in
theorem ggX7_windowEnd_X7_segmentAt : GoodIn wsX7_windowEnd wsX7_segmentAt := goodIn_ca (goodIn_r _ [14, 15, 9, 7, 24, 25, 26, 27, 28, 29, 30, 31, 32, 33, 34, 35, 36, 37, 38, 39, 40, 41, 42, 43, 44, 45, 46, 47, 48, 49, 50, 51, 52, 53, 54, 55, 56, 57, 58, 59, 60, 61, 62, 63] (by decide +kernel) (by decide +kernel)) (goodIn_sub (fun _ h => List.mem_cons_of_mem _ (List.mem_append_left _ (List.mem_append_right _ h))) (by decide +kernel))
set_option maxRecDepth 20000 in
theorem gX7_windowEnd_X7_segmentAt : GoodIn wsX7_windowEnd (wsV RX7 169 RX7 yX7_segmentAt wsX7_segmentAt) := goodIn_app (goodIn_of _ (by decide +kernel)) ggX7_windowEnd_X7_segmentAt
set_option maxRecDepth 20000 in
theorem ggX7_windowEnd_X7_lastOf : GoodIn wsX7_windowEnd wsX7_lastOf := goodIn_ca (goodIn_r _ [22, 15, 7, 23, 24, 25, 26, 27, 28, 29, 30, 31, 32, 33, 34, 35, 36, 37, 38, 39, 40, 41, 42, 43, 44, 45, 46, 47, 48, 49, 50, 51, 52, 53, 54, 55, 56, 57, 58, 59, 60, 61, 62, 63] (by decide +kernel) (by decide +kernel)) (goodIn_sub (fun _ h => List.mem_cons_of_mem _ (List.mem_append_left _ (List.mem_append_right _ h))) (by decide +kernel))
set_option maxRecDepth 20000 in
theorem gX7_windowEnd_X7_lastOf : GoodIn wsX7_windowEnd (wsV RX7 176 RX7 yX7_lastOf wsX7_lastOf) := goodIn_app (goodIn_of _ (by decide +kernel)) ggX7_windowEnd_X7_lastOf
theorem dX7_windowEnd_0 : decode cX7_windowEnd 0 = .ok (.aload_n 0, 1) := by decide +kernel
theorem dX7_windowEnd_1 : decode cX7_windowEnd 1 = .ok (.iload_n 1, 1) := by decide +kernel
theorem dX7_windowEnd_2 : decode cX7_windowEnd 2 = .ok (.invokevirtual 179, 3) := by decide +kernel
theorem dX7_windowEnd_5 : decode cX7_windowEnd 5 = .ok (.aload_n 0, 1) := by decide +kernel
theorem dX7_windowEnd_6 : decode cX7_windowEnd 6 = .ok (.getfield 25, 3) := by decide +kernel
theorem dX7_windowEnd_9 : decode cX7_windowEnd 9 = .ok (.iconst 0, 1) := by decide +kernel
theorem dX7_windowEnd_10 : decode cX7_windowEnd 10 = .ok (.iaload, 1) := by decide +kernel
theorem dX7_windowEnd_11 : decode cX7_windowEnd 11 = .ok (.iadd, 1) := by decide +kernel
theorem dX7_windowEnd_12 : decode cX7_windowEnd 12 = .ok (.iconst 1, 1) := by decide +kernel
theorem dX7_windowEnd_13 : decode cX7_windowEnd 13 = .ok (.iadd, 1) := by decide +kernel
theorem dX7_windowEnd_14 : decode cX7_windowEnd 14 = .ok (.istore_n 2, 1) := by decide +kernel
theorem dX7_windowEnd_15 : decode cX7_windowEnd 15 = .ok (.aload_n 0, 1) := by decide +kernel
theorem dX7_windowEnd_16 : decode cX7_windowEnd 16 = .ok (.aload_n 0, 1) := by decide +kernel
theorem dX7_windowEnd_17 : decode cX7_windowEnd 17 = .ok (.iload_n 1, 1) := by decide +kernel
theorem dX7_windowEnd_18 : decode cX7_windowEnd 18 = .ok (.invokevirtual 169, 3) := by decide +kernel
theorem dX7_windowEnd_21 : decode cX7_windowEnd 21 = .ok (.invokevirtual 176, 3) := by decide +kernel
theorem dX7_windowEnd_24 : decode cX7_windowEnd 24 = .ok (.istore_n 3, 1) := by decide +kernel
theorem dX7_windowEnd_25 : decode cX7_windowEnd 25 = .ok (.iload_n 2, 1) := by decide +kernel
theorem dX7_windowEnd_26 : decode cX7_windowEnd 26 = .ok (.iload_n 3, 1) := by decide +kernel
theorem dX7_windowEnd_27 : decode cX7_windowEnd 27 = .ok (.if_icmp .le 7, 3) := by decide +kernel
theorem dX7_windowEnd_30 : decode cX7_windowEnd 30 = .ok (.iload_n 3, 1) := by decide +kernel
theorem dX7_windowEnd_31 : decode cX7_windowEnd 31 = .ok (.goto 4, 3) := by decide +kernel
theorem dX7_windowEnd_34 : decode cX7_windowEnd 34 = .ok (.iload_n 2, 1) := by decide +kernel
theorem dX7_windowEnd_35 : decode cX7_windowEnd 35 = .ok (.ireturn, 1) := by decide +kernel
def rm_X7_windowEnd : Room := { frames := 2, cells := 0, slots := 0, locals := 50 }
abbrev p_X7_windowEnd (g : kG) (h : Nat) (zth : Int32) (zl1 : Int64) (zl2 : Int64) (zl3 : Int64) (zl4 : Int64) (zpb : Int32) (zln : Int32) (zat : Int32) (zrk : Int32) (zrv : Int32) (zre : Int32) (zwr : Int32) (zrm : Int32) (zrs : Int32) (zis : Int32) (zss : Int32) (zsc : Int32) (ak : Nat) (av : Nat) (bk : Nat) (bv : Nat) (br : Nat) (a_s : Nat) (a_t : Nat) (g1 : Nat) (g2 : Nat) (g3 : Nat) (pa : Nat) (ru : Nat) (tx : Nat) (dk : Nat) (dv : Nat) (ek : Nat) (ev : Nat) (er : Nat) (es : Nat) (et : Nat) (nA : Nat) (fk : Nat → Int32) (fv : Nat → Int32) (nB : Nat) (ck : Nat → Int32) (cv : Nat → Int32) (cr : Nat → Int32) (fS : Nat → Int32) (fT : Nat → Int32) (mS : Nat) (y1 : Nat → Int32) (y2 : Nat → Int32) (y3 : Nat → Int32) (M : List kE3) (C : List kE3) (S : Nat → Int32) (T : Nat → Int32) (x : Int32) : Int32 → va_W → Prop := fun r w1 => r = nI (PHI (kap M) (ksegs M S) (S 0).toInt x) ∧ w1 = [(h, .inr (9, [.int zth, .int (nI nA), .int (nI nB), .ref ak, .ref av, .ref bk, .ref bv, .ref br, .ref a_s, .ref a_t, .int (nI mS), .ref g1, .ref g2, .ref g3, .long zl1, .long zl2, .long zl3, .long zl4, .int zpb, .ref pa, .ref ru, .ref tx, .int zln, .int zat, .int zrk, .int zrv, .int zre, .int zwr, .int zrm, .int zrs, .int zis, .int zss, .int zsc, .ref dk, .ref dv, .ref ek, .ref ev, .ref er, .ref es, .ref et])), (ak, .inl (g.2.1.1, 152, .inl fk)), (av, .inl (g.2.1.1, 152, .inl fv)), (bk, .inl (g.2.1.1, 24, .inl ck)), (bv, .inl (g.2.1.1, 24, .inl cv)), (br, .inl (g.2.1.1, 24, .inl cr)), (a_s, .inl (g.2.1.1, 4, .inl fS)), (a_t, .inl (g.2.1.1, 5, .inl fT)), (g1, .inl (g.2.1.1, 152, .inl y1)), (g2, .inl (g.2.1.1, 152, .inl y2)), (g3, .inl (g.2.1.1, 152, .inl y3))]
set_option maxHeartbeats 4000000 in
set_option maxRecDepth 100000 in
theorem c_X7_windowEnd (l : Launch) (g : kG) (h : Nat) (zth : Int32) (zl1 : Int64) (zl2 : Int64) (zl3 : Int64) (zl4 : Int64) (zpb : Int32) (zln : Int32) (zat : Int32) (zrk : Int32) (zrv : Int32) (zre : Int32) (zwr : Int32) (zrm : Int32) (zrs : Int32) (zis : Int32) (zss : Int32) (zsc : Int32) (ak : Nat) (av : Nat) (bk : Nat) (bv : Nat) (br : Nat) (a_s : Nat) (a_t : Nat) (g1 : Nat) (g2 : Nat) (g3 : Nat) (pa : Nat) (ru : Nat) (tx : Nat) (dk : Nat) (dv : Nat) (ek : Nat) (ev : Nat) (er : Nat) (es : Nat) (et : Nat) (nA : Nat) (fk : Nat → Int32) (fv : Nat → Int32) (nB : Nat) (ck : Nat → Int32) (cv : Nat → Int32) (cr : Nat → Int32) (fS : Nat → Int32) (fT : Nat → Int32) (mS : Nat) (y1 : Nat → Int32) (y2 : Nat → Int32) (y3 : Nat → Int32) (M : List kE3) (C : List kE3) (S : Nat → Int32) (T : Nat → Int32) (x : Int32) (hMX : kMX nA fk fv nB ck cv cr fS fT mS y1 y2 y3 M C S T) (hne : 0 < M.length) (hxr : 0 ≤ x.toInt ∧ x.toInt < 10000) : KI l yX7_windowEnd wsX7_windowEnd rm_X7_windowEnd g [.ref h, .int x] [(h, .inr (9, [.int zth, .int (nI nA), .int (nI nB), .ref ak, .ref av, .ref bk, .ref bv, .ref br, .ref a_s, .ref a_t, .int (nI mS), .ref g1, .ref g2, .ref g3, .long zl1, .long zl2, .long zl3, .long zl4, .int zpb, .ref pa, .ref ru, .ref tx, .int zln, .int zat, .int zrk, .int zrv, .int zre, .int zwr, .int zrm, .int zrs, .int zis, .int zss, .int zsc, .ref dk, .ref dv, .ref ek, .ref ev, .ref er, .ref es, .ref et])), (ak, .inl (g.2.1.1, 152, .inl fk)), (av, .inl (g.2.1.1, 152, .inl fv)), (bk, .inl (g.2.1.1, 24, .inl ck)), (bv, .inl (g.2.1.1, 24, .inl cv)), (br, .inl (g.2.1.1, 24, .inl cr)), (a_s, .inl (g.2.1.1, 4, .inl fS)), (a_t, .inl (g.2.1.1, 5, .inl fT)), (g1, .inl (g.2.1.1, 152, .inl y1)), (g2, .inl (g.2.1.1, 152, .inl y2)), (g3, .inl (g.2.1.1, 152, .inl y3))] (p_X7_windowEnd g h zth zl1 zl2 zl3 zl4 zpb zln zat zrk zrv zre zwr zrm zrs zis zss zsc ak av bk bv br a_s a_t g1 g2 g3 pa ru tx dk dv ek ev er es et nA fk fv nB ck cv cr fS fT mS y1 y2 y3 M C S T x) := by
  refine kbodyI (cc := cX7_windowEnd) (n := 4) (k := 11) (own := RX7) (plainFor_of_name (by decide)) rfl rfl rfl rfl ?_
  intro p e s m below meth cd A ls hcx
  obtain ⟨hx, hb, hRt, hml, hts, hown, hlk, hA, hP, hK, hD, hE, hS, hl⟩ := hcx
  have hl : lv_has ls 4 [(0, .ref h), (1, .int x)] := hl
  obtain ⟨hMM, hS4, hT5, hKS, hSGm⟩ := id hMX
  obtain ⟨⟨hM, hC⟩, ⟨hnM, hnC⟩, ⟨hIM, hIC⟩, hlen, hrem⟩ := id hMM
  have hsM : kSo (EL nA fk fv fz0) := by rw [hM]; exact hIM.1
  have hsC : kSo (EL nB ck cv cr) := by rw [hC]; exact hIC.1
  have hnl : nA = M.length := by rw [← hM, EL_len]
  have hcl : nB = C.length := by rw [← hC, EL_len]
  obtain ⟨⟨hS01, hS02⟩, ⟨hS11, hS12⟩, ⟨hS21, hS22⟩, ⟨hS31, hS32⟩⟩ := id hKS
  obtain ⟨v2, v3, hSG⟩ := hSGm
  obtain ⟨hmL, hseg⟩ := SG_seg hSG
  have hasc := kap_asc hM hIM
  have hsl : (ksegs M S).length ≤ M.length - 0 := sg_len (hnl ▸ hasc) (by omega) ⟨by omega, by omega⟩ _ _
  have hpos : 0 < (ksegs M S).length := sgs_pos hne
  have hpl : pidx (kap M) (ksegs M S) x < mS := by rw [← pidx_eq hSG x]; exact kplc_lt _ _ _ (by omega)
  obtain ⟨f0, j0, a0, b0, hsg⟩ : ∃ f0 j0 a0 b0 : Nat, sgOf (kap M) (ksegs M S) x = (f0, j0, a0, b0) := ⟨(sgOf (kap M) (ksegs M S) x).1, (sgOf (kap M) (ksegs M S) x).2.1, (sgOf (kap M) (ksegs M S) x).2.2.1, (sgOf (kap M) (ksegs M S) x).2.2.2, rfl⟩
  have hsg2 : sgAt (ksegs M S) (pidx (kap M) (ksegs M S) x) = (f0, j0, a0, b0) := hsg
  have hq5 := hseg _ hpl
  rw [hsg2] at hq5
  obtain ⟨q1, q2, q3, q4, q5⟩ := hq5
  have hok := sg_ok (hnl ▸ hasc) (show M.length ≤ 160 by omega) (show 0 ≤ (S 0).toInt ∧ (S 0).toInt ≤ 8 by omega) _ _ _ (sgAt_mem (L := ksegs M S) (i := pidx (kap M) (ksegs M S) x) (by omega))
  rw [hsg2] at hok
  dsimp only at hok q1 q2 q3 q4 q5
  rw [← hnl] at hok
  have hkb := hasc.1 f0 (by omega)
  obtain ⟨kf, hkf⟩ : ∃ z : Int, z = kap M f0 := ⟨_, rfl⟩
  rw [← hkf] at hkb
  have hPRD : PRD (kap M) (ksegs M S) x = kpr f0 j0 a0 b0 kf x.toInt := by rw [PRD, hsg, hkf]
  have hp3 := kpr_in (a := a0) (b := b0) (kf := kf) (x := x.toInt) hok.1
  obtain ⟨pz, hpz⟩ : ∃ z : Nat, z = PRD (kap M) (ksegs M S) x := ⟨_, rfl⟩
  rw [← hPRD, ← hpz] at hp3
  obtain ⟨β0, hβ0⟩ : ∃ z : Int, z = (S 0).toInt := ⟨_, rfl⟩
  have hβ : 1 ≤ β0 ∧ β0 ≤ 8 := by rw [hβ0]; exact ⟨hS01, hS02⟩
  have hLO : PLO (kap M) (ksegs M S) (S 0).toInt x = (max ((pz : Int) - β0) (f0 : Int)).toNat := by rw [PLO, hsg, klo, ← hpz, hβ0]
  have hHI : PHI (kap M) (ksegs M S) (S 0).toInt x = (min ((pz : Int) + β0 + 1) (j0 : Int)).toNat := by rw [PHI, hsg, khi, ← hpz, hβ0]
  clear hPRD
  refine lv_aload_n hx hb dX7_windowEnd_0 rfl (lv_at hl 0 rfl) ?_
  refine lv_iload_n hx hb dX7_windowEnd_1 rfl (lv_at hl 1 rfl) ?_
  refine kcalli (wc := [(h, .inr (9, [.int zth, .int (nI nA), .int (nI nB), .ref ak, .ref av, .ref bk, .ref bv, .ref br, .ref a_s, .ref a_t, .int (nI mS), .ref g1, .ref g2, .ref g3, .long zl1, .long zl2, .long zl3, .long zl4, .int zpb, .ref pa, .ref ru, .ref tx, .int zln, .int zat, .int zrk, .int zrv, .int zre, .int zwr, .int zrm, .int zrs, .int zis, .int zss, .int zsc, .ref dk, .ref dv, .ref ek, .ref ev, .ref er, .ref es, .ref et])), (ak, .inl (g.2.1.1, 152, .inl fk)), (av, .inl (g.2.1.1, 152, .inl fv)), (bk, .inl (g.2.1.1, 24, .inl ck)), (bv, .inl (g.2.1.1, 24, .inl cv)), (br, .inl (g.2.1.1, 24, .inl cr)), (a_s, .inl (g.2.1.1, 4, .inl fS)), (a_t, .inl (g.2.1.1, 5, .inl fT)), (g1, .inl (g.2.1.1, 152, .inl y1)), (g2, .inl (g.2.1.1, 152, .inl y2)), (g3, .inl (g.2.1.1, 152, .inl y3))]) [0, 1, 2, 3, 4, 5, 6, 7, 8, 9, 10] (va_runV (C := RX7) (As := [.int x]) (rest := []) ⟨hx, hb, hml, hown, hts⟩ ((c_X7_prediction l g h zth zl1 zl2 zl3 zl4 zpb zln zat zrk zrv zre zwr zrm zrs zis zss zsc ak av bk bv br a_s a_t g1 g2 g3 pa ru tx dk dv ek ev er es et nA fk fv nB ck cv cr fS fT mS y1 y2 y3 M C S T x hMX hne hxr) _) (cwV 1 hts gX7_windowEnd_X7_prediction rfl rfl rfl (by decide +kernel) ⟨Nat.le_of_ble_eq_true rfl, Nat.le_of_ble_eq_true rfl⟩) (kpreV (wc := [(h, .inr (9, [.int zth, .int (nI nA), .int (nI nB), .ref ak, .ref av, .ref bk, .ref bv, .ref br, .ref a_s, .ref a_t, .int (nI mS), .ref g1, .ref g2, .ref g3, .long zl1, .long zl2, .long zl3, .long zl4, .int zpb, .ref pa, .ref ru, .ref tx, .int zln, .int zat, .int zrk, .int zrv, .int zre, .int zwr, .int zrm, .int zrs, .int zis, .int zss, .int zsc, .ref dk, .ref dv, .ref ek, .ref ev, .ref er, .ref es, .ref et])), (ak, .inl (g.2.1.1, 152, .inl fk)), (av, .inl (g.2.1.1, 152, .inl fv)), (bk, .inl (g.2.1.1, 24, .inl ck)), (bv, .inl (g.2.1.1, 24, .inl cv)), (br, .inl (g.2.1.1, 24, .inl cr)), (a_s, .inl (g.2.1.1, 4, .inl fS)), (a_t, .inl (g.2.1.1, 5, .inl fT)), (g1, .inl (g.2.1.1, 152, .inl y1)), (g2, .inl (g.2.1.1, 152, .inl y2)), (g3, .inl (g.2.1.1, 152, .inl y3))]) (ci := 9) hK hP hD hS hA hE [0, 1, 2, 3, 4, 5, 6, 7, 8, 9, 10] rfl rfl rfl rfl) rfl rfl hl.1 rfl (lv_room (Nat.le_of_ble_eq_true rfl)) dX7_windowEnd_2 ⟨Nat.zero_le _, Nat.zero_le _⟩) hP hD hS hA rfl (fun r_1 w_1 H locs hp hP hD hS => ?_)
  obtain ⟨rfl, rfl⟩ := hp
  have hP : va_P g.1 vwCl [(h, .inr (9, [.int zth, .int (nI nA), .int (nI nB), .ref ak, .ref av, .ref bk, .ref bv, .ref br, .ref a_s, .ref a_t, .int (nI mS), .ref g1, .ref g2, .ref g3, .long zl1, .long zl2, .long zl3, .long zl4, .int zpb, .ref pa, .ref ru, .ref tx, .int zln, .int zat, .int zrk, .int zrv, .int zre, .int zwr, .int zrm, .int zrs, .int zis, .int zss, .int zsc, .ref dk, .ref dv, .ref ek, .ref ev, .ref er, .ref es, .ref et])), (ak, .inl (g.2.1.1, 152, .inl fk)), (av, .inl (g.2.1.1, 152, .inl fv)), (bk, .inl (g.2.1.1, 24, .inl ck)), (bv, .inl (g.2.1.1, 24, .inl cv)), (br, .inl (g.2.1.1, 24, .inl cr)), (a_s, .inl (g.2.1.1, 4, .inl fS)), (a_t, .inl (g.2.1.1, 5, .inl fT)), (g1, .inl (g.2.1.1, 152, .inl y1)), (g2, .inl (g.2.1.1, 152, .inl y2)), (g3, .inl (g.2.1.1, 152, .inl y3))] H := hP
  have hD : va_D A [(h, .inr (9, [.int zth, .int (nI nA), .int (nI nB), .ref ak, .ref av, .ref bk, .ref bv, .ref br, .ref a_s, .ref a_t, .int (nI mS), .ref g1, .ref g2, .ref g3, .long zl1, .long zl2, .long zl3, .long zl4, .int zpb, .ref pa, .ref ru, .ref tx, .int zln, .int zat, .int zrk, .int zrv, .int zre, .int zwr, .int zrm, .int zrs, .int zis, .int zss, .int zsc, .ref dk, .ref dv, .ref ek, .ref ev, .ref er, .ref es, .ref et])), (ak, .inl (g.2.1.1, 152, .inl fk)), (av, .inl (g.2.1.1, 152, .inl fv)), (bk, .inl (g.2.1.1, 24, .inl ck)), (bv, .inl (g.2.1.1, 24, .inl cv)), (br, .inl (g.2.1.1, 24, .inl cr)), (a_s, .inl (g.2.1.1, 4, .inl fS)), (a_t, .inl (g.2.1.1, 5, .inl fT)), (g1, .inl (g.2.1.1, 152, .inl y1)), (g2, .inl (g.2.1.1, 152, .inl y2)), (g3, .inl (g.2.1.1, 152, .inl y3))] := hD
  rw [show (nI (PRD (kap M) (ksegs M S) x) : Int32) = nI pz from by rw [hpz]]
  refine lv_aload_n hx hb dX7_windowEnd_5 rfl (lv_at hl 0 rfl) ?_
  refine va_get (D := g.1) (ci := 9) (v := .ref a_s) (C := RX7) (T := TX7) (N := 40) hx hb hts (by decide +kernel) hown hK hP 0 rfl rfl 8 (by decide) (hts (.fieldLink RX7 25 "LearnedIndexModel" "settings" "[I") (by decide +kernel)) (fun _ h9 => h9) rfl dX7_windowEnd_6 ?_
  refine lv_iconst (v := 0) hx hb dX7_windowEnd_9 (by decide) ?_
  refine va_iald hx hb hK hP 6 0 rfl rfl (show vp_in 0 4 from vp_in_nI (n := 0) (by omega) (by omega)) dX7_windowEnd_10 ?_
  rw [show (0 : Int32).toNatClampNeg = 0 from nI_clamp (n := 0) (by omega)]
  rw [show (fS 0 : Int32) = kI β0 from by rw [hS4 0 (by decide), hβ0]; exact kI_of _]
  refine lv_iadd hx hb dX7_windowEnd_11 ?_
  rw [show ((nI pz) + (kI β0) : Int32) = kI ((pz : Int) + β0) from by rw [kI_nI, kI_add]]
  refine lv_iconst (v := 1) hx hb dX7_windowEnd_12 (by decide) ?_
  refine lv_iadd hx hb dX7_windowEnd_13 ?_
  rw [show ((kI ((pz : Int) + β0)) + 1 : Int32) = kI ((pz : Int) + β0 + 1) from by rw [show (1 : Int32) = kI 1 from rfl, kI_add]]
  refine lv_istore_n (lv' := [(2, .int (kI ((pz : Int) + β0 + 1))), (0, .ref h), (1, .int x)]) hx hb dX7_windowEnd_14 rfl hl (by decide) rfl (fun ls hl => ?_)
  refine lv_aload_n hx hb dX7_windowEnd_15 rfl (lv_at hl 1 rfl) ?_
  refine lv_aload_n hx hb dX7_windowEnd_16 rfl (lv_at hl 1 rfl) ?_
  refine lv_iload_n hx hb dX7_windowEnd_17 rfl (lv_at hl 2 rfl) ?_
  refine kcalli (wc := [(h, .inr (9, [.int zth, .int (nI nA), .int (nI nB), .ref ak, .ref av, .ref bk, .ref bv, .ref br, .ref a_s, .ref a_t, .int (nI mS), .ref g1, .ref g2, .ref g3, .long zl1, .long zl2, .long zl3, .long zl4, .int zpb, .ref pa, .ref ru, .ref tx, .int zln, .int zat, .int zrk, .int zrv, .int zre, .int zwr, .int zrm, .int zrs, .int zis, .int zss, .int zsc, .ref dk, .ref dv, .ref ek, .ref ev, .ref er, .ref es, .ref et])), (ak, .inl (g.2.1.1, 152, .inl fk)), (av, .inl (g.2.1.1, 152, .inl fv)), (bk, .inl (g.2.1.1, 24, .inl ck)), (bv, .inl (g.2.1.1, 24, .inl cv)), (br, .inl (g.2.1.1, 24, .inl cr)), (a_s, .inl (g.2.1.1, 4, .inl fS)), (a_t, .inl (g.2.1.1, 5, .inl fT)), (g1, .inl (g.2.1.1, 152, .inl y1)), (g2, .inl (g.2.1.1, 152, .inl y2)), (g3, .inl (g.2.1.1, 152, .inl y3))]) [0, 1, 2, 3, 4, 5, 6, 7, 8, 9, 10] (va_runV (C := RX7) (As := [.int x]) (rest := [.ref h]) ⟨hx, hb, hml, hown, hts⟩ ((c_X7_segmentAt l g h zth zl1 zl2 zl3 zl4 zpb zln zat zrk zrv zre zwr zrm zrs zis zss zsc ak av bk bv br a_s a_t g1 g2 g3 pa ru tx dk dv ek ev er es et nA fk fv nB ck cv cr fS fT mS y1 y2 y3 M C S T x hMX) _) (cwV 1 hts gX7_windowEnd_X7_segmentAt rfl rfl rfl (by decide +kernel) ⟨Nat.le_of_ble_eq_true rfl, Nat.le_of_ble_eq_true rfl⟩) (kpreV (wc := [(h, .inr (9, [.int zth, .int (nI nA), .int (nI nB), .ref ak, .ref av, .ref bk, .ref bv, .ref br, .ref a_s, .ref a_t, .int (nI mS), .ref g1, .ref g2, .ref g3, .long zl1, .long zl2, .long zl3, .long zl4, .int zpb, .ref pa, .ref ru, .ref tx, .int zln, .int zat, .int zrk, .int zrv, .int zre, .int zwr, .int zrm, .int zrs, .int zis, .int zss, .int zsc, .ref dk, .ref dv, .ref ek, .ref ev, .ref er, .ref es, .ref et])), (ak, .inl (g.2.1.1, 152, .inl fk)), (av, .inl (g.2.1.1, 152, .inl fv)), (bk, .inl (g.2.1.1, 24, .inl ck)), (bv, .inl (g.2.1.1, 24, .inl cv)), (br, .inl (g.2.1.1, 24, .inl cr)), (a_s, .inl (g.2.1.1, 4, .inl fS)), (a_t, .inl (g.2.1.1, 5, .inl fT)), (g1, .inl (g.2.1.1, 152, .inl y1)), (g2, .inl (g.2.1.1, 152, .inl y2)), (g3, .inl (g.2.1.1, 152, .inl y3))]) (ci := 9) hK hP hD hS hA hE [0, 1, 2, 3, 4, 5, 6, 7, 8, 9, 10] rfl rfl rfl rfl) rfl rfl hl.1 rfl (lv_room (Nat.le_of_ble_eq_true rfl)) dX7_windowEnd_18 ⟨Nat.zero_le _, Nat.zero_le _⟩) hP hD hS hA rfl (fun r_2 w_2 H locs hp hP hD hS => ?_)
  obtain ⟨rfl, rfl⟩ := hp
  have hP : va_P g.1 vwCl [(h, .inr (9, [.int zth, .int (nI nA), .int (nI nB), .ref ak, .ref av, .ref bk, .ref bv, .ref br, .ref a_s, .ref a_t, .int (nI mS), .ref g1, .ref g2, .ref g3, .long zl1, .long zl2, .long zl3, .long zl4, .int zpb, .ref pa, .ref ru, .ref tx, .int zln, .int zat, .int zrk, .int zrv, .int zre, .int zwr, .int zrm, .int zrs, .int zis, .int zss, .int zsc, .ref dk, .ref dv, .ref ek, .ref ev, .ref er, .ref es, .ref et])), (ak, .inl (g.2.1.1, 152, .inl fk)), (av, .inl (g.2.1.1, 152, .inl fv)), (bk, .inl (g.2.1.1, 24, .inl ck)), (bv, .inl (g.2.1.1, 24, .inl cv)), (br, .inl (g.2.1.1, 24, .inl cr)), (a_s, .inl (g.2.1.1, 4, .inl fS)), (a_t, .inl (g.2.1.1, 5, .inl fT)), (g1, .inl (g.2.1.1, 152, .inl y1)), (g2, .inl (g.2.1.1, 152, .inl y2)), (g3, .inl (g.2.1.1, 152, .inl y3))] H := hP
  have hD : va_D A [(h, .inr (9, [.int zth, .int (nI nA), .int (nI nB), .ref ak, .ref av, .ref bk, .ref bv, .ref br, .ref a_s, .ref a_t, .int (nI mS), .ref g1, .ref g2, .ref g3, .long zl1, .long zl2, .long zl3, .long zl4, .int zpb, .ref pa, .ref ru, .ref tx, .int zln, .int zat, .int zrk, .int zrv, .int zre, .int zwr, .int zrm, .int zrs, .int zis, .int zss, .int zsc, .ref dk, .ref dv, .ref ek, .ref ev, .ref er, .ref es, .ref et])), (ak, .inl (g.2.1.1, 152, .inl fk)), (av, .inl (g.2.1.1, 152, .inl fv)), (bk, .inl (g.2.1.1, 24, .inl ck)), (bv, .inl (g.2.1.1, 24, .inl cv)), (br, .inl (g.2.1.1, 24, .inl cr)), (a_s, .inl (g.2.1.1, 4, .inl fS)), (a_t, .inl (g.2.1.1, 5, .inl fT)), (g1, .inl (g.2.1.1, 152, .inl y1)), (g2, .inl (g.2.1.1, 152, .inl y2)), (g3, .inl (g.2.1.1, 152, .inl y3))] := hD
  refine kcalli (wc := [(h, .inr (9, [.int zth, .int (nI nA), .int (nI nB), .ref ak, .ref av, .ref bk, .ref bv, .ref br, .ref a_s, .ref a_t, .int (nI mS), .ref g1, .ref g2, .ref g3, .long zl1, .long zl2, .long zl3, .long zl4, .int zpb, .ref pa, .ref ru, .ref tx, .int zln, .int zat, .int zrk, .int zrv, .int zre, .int zwr, .int zrm, .int zrs, .int zis, .int zss, .int zsc, .ref dk, .ref dv, .ref ek, .ref ev, .ref er, .ref es, .ref et])), (ak, .inl (g.2.1.1, 152, .inl fk)), (av, .inl (g.2.1.1, 152, .inl fv)), (bk, .inl (g.2.1.1, 24, .inl ck)), (bv, .inl (g.2.1.1, 24, .inl cv)), (br, .inl (g.2.1.1, 24, .inl cr)), (a_s, .inl (g.2.1.1, 4, .inl fS)), (a_t, .inl (g.2.1.1, 5, .inl fT)), (g1, .inl (g.2.1.1, 152, .inl y1)), (g2, .inl (g.2.1.1, 152, .inl y2)), (g3, .inl (g.2.1.1, 152, .inl y3))]) [0, 1, 2, 3, 4, 5, 6, 7, 8, 9, 10] (va_runV (C := RX7) (As := [.int (nI (pidx (kap M) (ksegs M S) x))]) (rest := []) ⟨hx, hb, hml, hown, hts⟩ ((c_X7_lastOf l g h zth zl1 zl2 zl3 zl4 zpb zln zat zrk zrv zre zwr zrm zrs zis zss zsc ak av bk bv br a_s a_t g1 g2 g3 pa ru tx dk dv ek ev er es et nA fk fv nB ck cv cr fS fT mS y1 y2 y3 M C S T (pidx (kap M) (ksegs M S) x) hMX hpl) _) (cwV 1 hts gX7_windowEnd_X7_lastOf rfl rfl rfl (by decide +kernel) ⟨Nat.le_of_ble_eq_true rfl, Nat.le_of_ble_eq_true rfl⟩) (kpreV (wc := [(h, .inr (9, [.int zth, .int (nI nA), .int (nI nB), .ref ak, .ref av, .ref bk, .ref bv, .ref br, .ref a_s, .ref a_t, .int (nI mS), .ref g1, .ref g2, .ref g3, .long zl1, .long zl2, .long zl3, .long zl4, .int zpb, .ref pa, .ref ru, .ref tx, .int zln, .int zat, .int zrk, .int zrv, .int zre, .int zwr, .int zrm, .int zrs, .int zis, .int zss, .int zsc, .ref dk, .ref dv, .ref ek, .ref ev, .ref er, .ref es, .ref et])), (ak, .inl (g.2.1.1, 152, .inl fk)), (av, .inl (g.2.1.1, 152, .inl fv)), (bk, .inl (g.2.1.1, 24, .inl ck)), (bv, .inl (g.2.1.1, 24, .inl cv)), (br, .inl (g.2.1.1, 24, .inl cr)), (a_s, .inl (g.2.1.1, 4, .inl fS)), (a_t, .inl (g.2.1.1, 5, .inl fT)), (g1, .inl (g.2.1.1, 152, .inl y1)), (g2, .inl (g.2.1.1, 152, .inl y2)), (g3, .inl (g.2.1.1, 152, .inl y3))]) (ci := 9) hK hP hD hS hA hE [0, 1, 2, 3, 4, 5, 6, 7, 8, 9, 10] rfl rfl rfl rfl) rfl rfl hl.1 rfl (lv_room (Nat.le_of_ble_eq_true rfl)) dX7_windowEnd_21 ⟨Nat.zero_le _, Nat.zero_le _⟩) hP hD hS hA rfl (fun r_3 w_3 H locs hp hP hD hS => ?_)
  obtain ⟨rfl, rfl⟩ := hp
  have hP : va_P g.1 vwCl [(h, .inr (9, [.int zth, .int (nI nA), .int (nI nB), .ref ak, .ref av, .ref bk, .ref bv, .ref br, .ref a_s, .ref a_t, .int (nI mS), .ref g1, .ref g2, .ref g3, .long zl1, .long zl2, .long zl3, .long zl4, .int zpb, .ref pa, .ref ru, .ref tx, .int zln, .int zat, .int zrk, .int zrv, .int zre, .int zwr, .int zrm, .int zrs, .int zis, .int zss, .int zsc, .ref dk, .ref dv, .ref ek, .ref ev, .ref er, .ref es, .ref et])), (ak, .inl (g.2.1.1, 152, .inl fk)), (av, .inl (g.2.1.1, 152, .inl fv)), (bk, .inl (g.2.1.1, 24, .inl ck)), (bv, .inl (g.2.1.1, 24, .inl cv)), (br, .inl (g.2.1.1, 24, .inl cr)), (a_s, .inl (g.2.1.1, 4, .inl fS)), (a_t, .inl (g.2.1.1, 5, .inl fT)), (g1, .inl (g.2.1.1, 152, .inl y1)), (g2, .inl (g.2.1.1, 152, .inl y2)), (g3, .inl (g.2.1.1, 152, .inl y3))] H := hP
  have hD : va_D A [(h, .inr (9, [.int zth, .int (nI nA), .int (nI nB), .ref ak, .ref av, .ref bk, .ref bv, .ref br, .ref a_s, .ref a_t, .int (nI mS), .ref g1, .ref g2, .ref g3, .long zl1, .long zl2, .long zl3, .long zl4, .int zpb, .ref pa, .ref ru, .ref tx, .int zln, .int zat, .int zrk, .int zrv, .int zre, .int zwr, .int zrm, .int zrs, .int zis, .int zss, .int zsc, .ref dk, .ref dv, .ref ek, .ref ev, .ref er, .ref es, .ref et])), (ak, .inl (g.2.1.1, 152, .inl fk)), (av, .inl (g.2.1.1, 152, .inl fv)), (bk, .inl (g.2.1.1, 24, .inl ck)), (bv, .inl (g.2.1.1, 24, .inl cv)), (br, .inl (g.2.1.1, 24, .inl cr)), (a_s, .inl (g.2.1.1, 4, .inl fS)), (a_t, .inl (g.2.1.1, 5, .inl fT)), (g1, .inl (g.2.1.1, 152, .inl y1)), (g2, .inl (g.2.1.1, 152, .inl y2)), (g3, .inl (g.2.1.1, 152, .inl y3))] := hD
  rw [show (nI (sgAt (ksegs M S) (pidx (kap M) (ksegs M S) x)).2.1 : Int32) = kI (j0 : Int) from by rw [hsg2, kI_nI]]
  refine lv_istore_n (lv' := [(3, .int (kI (j0 : Int))), (2, .int (kI ((pz : Int) + β0 + 1))), (0, .ref h), (1, .int x)]) hx hb dX7_windowEnd_24 rfl hl (by decide) rfl (fun ls hl => ?_)
  refine lv_iload_n hx hb dX7_windowEnd_25 rfl (lv_at hl 1 rfl) ?_
  refine lv_iload_n hx hb dX7_windowEnd_26 rfl (lv_at hl 0 rfl) ?_
  refine lv_icmp_le (tgt := 34) hx hb dX7_windowEnd_27 (by decide) (fun c_27 => ?_) (fun c_27 => ?_)
  · skip
    rw [kI_le (by omega) (by omega) (by omega) (by omega)] at c_27
    refine lv_iload_n hx hb dX7_windowEnd_34 rfl (lv_at hl 1 rfl) ?_
    exact kreti hx hb hRt hlk hK hP hD hS rfl dX7_windowEnd_35 (⟨by rw [hHI, kI_tn (by omega)]; congr 1; omega, rfl⟩)
  · skip
    rw [kI_le (by omega) (by omega) (by omega) (by omega)] at c_27
    refine lv_iload_n hx hb dX7_windowEnd_30 rfl (lv_at hl 0 rfl) ?_
    refine lv_goto (tgt := 35) hx hb dX7_windowEnd_31 (by decide) ?_
    exact kreti hx hb hRt hlk hK hP hD hS rfl dX7_windowEnd_35 (⟨by rw [hHI, ← kI_nI]; congr 1; omega, rfl⟩)
