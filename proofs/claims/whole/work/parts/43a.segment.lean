/-! ===== the model: segment, segmentOf, predict, worst, probes, get ===== -/
theorem segV_4 {κ : Nat → Int} {L : List (Nat × Nat × Nat × Nat)} {y w : Int32} (h : 3 < w.toInt) : segV κ L y w = nI (sgAt L y.toInt.toNat).2.2.2 := by
  rw [segV, if_neg (fun z => by rw [z] at h; exact absurd h (by decide)), if_neg (fun z => by rw [z] at h; exact absurd h (by decide)), if_neg (fun z => by rw [z] at h; exact absurd h (by decide)), if_neg (fun z => by rw [z] at h; exact absurd h (by decide))]
theorem k_zneg (z : Int32) : 0 - z = -z := by
  rw [show (0 : Int32) = kI 0 from rfl]
  conv => lhs; rw [kI_of z]
  conv => rhs; rw [kI_of z]
  rw [kI_sub, Int.zero_sub]; exact Int32.ofInt_neg _
theorem absd_ge {a b : Nat} (ha : a < 1000) (hb : b < 1000) (h : 0 ≤ nI a - nI b) : nI a - nI b = nI (absd a b) := by rw [← absd_I ha hb, if_pos h]
theorem absd_lt {a b : Nat} (ha : a < 1000) (hb : b < 1000) (h : ¬ 0 ≤ nI a - nI b) : -(nI a - nI b) = nI (absd a b) := by rw [← absd_I ha hb, if_neg h, k_zneg]
theorem absd_b {a b : Nat} (ha : a < 500) (hb : b < 500) : absd a b < 500 := by unfold absd; split <;> omega
theorem kap_ky {M : List kE3} (h : kIv M) {j : Nat} (hj : j < M.length) : 0 ≤ (kI (kap M j)).toInt ∧ (kI (kap M j)).toInt < 10000 := by
  have h1 := (h.2 M[j] (List.getElem_mem hj)).1
  have h2 : kap M j = (M[j]).1.toInt := by simp [kap, hj]
  rw [kI_toInt (by omega) (by omega), h2]; exact h1
theorem luk_lt {S T : Nat → Int32} {n : Nat} {t s : Int32} : (t < s * nI n + 1) = (t < 1 + s * nI n) := by rw [Int32.add_comm]
/-- the tallies of a look-up, as the model adds them -/
theorem tl_A {T t : Nat → Int32} (h : ∀ j, j < 5 → t j = T j) {c : Int32} : ∀ j, j < 5 → upd (upd t 0 (t 0 + 1)) 3 (upd t 0 (t 0 + 1) 3 + c) j = tlA T c j := by
  intro j hj
  have h0 := h 0 (by decide)
  have h3 := h 3 (by decide)
  simp only [tlA, upd, h0]
  split
  · rw [if_neg (by decide), h3]
  · split
    · rfl
    · exact h j hj
theorem tl_B {T t : Nat → Int32} (h : ∀ j, j < 5 → t j = T j) {c a b : Int32} : ∀ j, j < 5 → upd (upd (upd (upd t 0 (t 0 + 1)) 1 (upd t 0 (t 0 + 1) 1 + a)) 2 (upd (upd t 0 (t 0 + 1)) 1 (upd t 0 (t 0 + 1) 1 + a) 2 + b)) 3 (upd (upd (upd t 0 (t 0 + 1)) 1 (upd t 0 (t 0 + 1) 1 + a)) 2 (upd (upd t 0 (t 0 + 1)) 1 (upd t 0 (t 0 + 1) 1 + a) 2 + b) 3 + c) j = tlB (tlA T c) a b j := by
  intro j hj
  have h0 := h 0 (by decide)
  have h1 := h 1 (by decide)
  have h2 := h 2 (by decide)
  have h3 := h 3 (by decide)
  rcases (show j = 0 ∨ j = 1 ∨ j = 2 ∨ j = 3 ∨ j = 4 by omega) with rfl | rfl | rfl | rfl | rfl
  · simp [tlB, tlA, upd, h0]
  · simp [tlB, tlA, upd, h1]
  · simp [tlB, tlA, upd, h2]
  · simp [tlB, tlA, upd, h3]
  · simp [tlB, tlA, upd, h 4 (by decide)]
theorem kMX_T {nA : Nat} {fk fv : Nat → Int32} {nB : Nat} {ck cv cr fS fT : Nat → Int32} {mS : Nat} {y1 y2 y3 : Nat → Int32} {M C : List kE3} {S T : Nat → Int32} {t2 T2 : Nat → Int32} (h : kMX nA fk fv nB ck cv cr fS fT mS y1 y2 y3 M C S T) (ht : ∀ j, j < 5 → t2 j = T2 j) : kMX nA fk fv nB ck cv cr fS t2 mS y1 y2 y3 M C S T2 := by
  obtain ⟨h1, h2, -, h4, h5⟩ := h
  exact ⟨h1, h2, ht, h4, h5⟩

set_option maxRecDepth 20000 in
theorem ggX7_segment_X7_isBetween : GoodIn wsX7_segment wsX7_isBetween := goodIn_r _ [9] (by decide +kernel) (by decide +kernel)
set_option maxRecDepth 20000 in
theorem gX7_segment_X7_isBetween : GoodIn wsX7_segment (va_wsS RX7 75 yX7_isBetween wsX7_isBetween) := goodIn_app (goodIn_of _ (by decide +kernel)) ggX7_segment_X7_isBetween
set_option maxRecDepth 20000 in
theorem ggX7_segment_X7_fails : GoodIn wsX7_segment wsX7_fails := goodIn_r _ [13, 14, 20, 21, 22, 23, 24, 25, 26, 27, 28, 29, 30, 31, 32, 33, 34, 35, 36, 37, 38, 39, 40, 41, 42, 43, 44, 45, 46, 47, 48, 49, 50, 51, 52, 53, 54, 55, 56, 57, 58, 59] (by decide +kernel) (by decide +kernel)
set_option maxRecDepth 20000 in
theorem gX7_segment_X7_fails : GoodIn wsX7_segment (wsV RX7 120 RX7 yX7_fails wsX7_fails) := goodIn_app (goodIn_of _ (by decide +kernel)) ggX7_segment_X7_fails
set_option maxRecDepth 20000 in
theorem ggX7_segment_X7_lastOf : GoodIn wsX7_segment wsX7_lastOf := goodIn_ca (goodIn_r _ [18, 1, 2, 19, 20, 21, 22, 23, 24, 25, 26, 27, 28, 29, 30, 31, 32, 33, 34, 35, 36, 37, 38, 39, 40, 41, 42, 43, 44, 45, 46, 47, 48, 49, 50, 51, 52, 53, 54, 55, 56, 57, 58, 59] (by decide +kernel) (by decide +kernel)) (goodIn_sub (fun _ h => List.mem_cons_of_mem _ (List.mem_append_right _ h)) (by decide +kernel))
set_option maxRecDepth 20000 in
theorem gX7_segment_X7_lastOf : GoodIn wsX7_segment (wsV RX7 176 RX7 yX7_lastOf wsX7_lastOf) := goodIn_app (goodIn_of _ (by decide +kernel)) ggX7_segment_X7_lastOf
theorem dX7_segment_0 : decode cX7_segment 0 = .ok (.aload_n 0, 1) := by decide +kernel
theorem dX7_segment_1 : decode cX7_segment 1 = .ok (.iconst 1, 1) := by decide +kernel
theorem dX7_segment_2 : decode cX7_segment 2 = .ok (.iload_n 1, 1) := by decide +kernel
theorem dX7_segment_3 : decode cX7_segment 3 = .ok (.iconst 0, 1) := by decide +kernel
theorem dX7_segment_4 : decode cX7_segment 4 = .ok (.aload_n 0, 1) := by decide +kernel
theorem dX7_segment_5 : decode cX7_segment 5 = .ok (.getfield 163, 3) := by decide +kernel
theorem dX7_segment_8 : decode cX7_segment 8 = .ok (.iconst 1, 1) := by decide +kernel
theorem dX7_segment_9 : decode cX7_segment 9 = .ok (.isub, 1) := by decide +kernel
theorem dX7_segment_10 : decode cX7_segment 10 = .ok (.invokestatic 75, 3) := by decide +kernel
theorem dX7_segment_13 : decode cX7_segment 13 = .ok (.ifCond .ne 7, 3) := by decide +kernel
theorem dX7_segment_16 : decode cX7_segment 16 = .ok (.iconst 1, 1) := by decide +kernel
theorem dX7_segment_17 : decode cX7_segment 17 = .ok (.goto 4, 3) := by decide +kernel
theorem dX7_segment_20 : decode cX7_segment 20 = .ok (.iconst 0, 1) := by decide +kernel
theorem dX7_segment_21 : decode cX7_segment 21 = .ok (.invokevirtual 120, 3) := by decide +kernel
theorem dX7_segment_24 : decode cX7_segment 24 = .ok (.ifCond .ne 25, 3) := by decide +kernel
theorem dX7_segment_27 : decode cX7_segment 27 = .ok (.aload_n 0, 1) := by decide +kernel
theorem dX7_segment_28 : decode cX7_segment 28 = .ok (.iconst 2, 1) := by decide +kernel
theorem dX7_segment_29 : decode cX7_segment 29 = .ok (.iload_n 2, 1) := by decide +kernel
theorem dX7_segment_30 : decode cX7_segment 30 = .ok (.iconst 0, 1) := by decide +kernel
theorem dX7_segment_31 : decode cX7_segment 31 = .ok (.iconst 4, 1) := by decide +kernel
theorem dX7_segment_32 : decode cX7_segment 32 = .ok (.invokestatic 75, 3) := by decide +kernel
theorem dX7_segment_35 : decode cX7_segment 35 = .ok (.ifCond .ne 7, 3) := by decide +kernel
theorem dX7_segment_38 : decode cX7_segment 38 = .ok (.iconst 1, 1) := by decide +kernel
theorem dX7_segment_39 : decode cX7_segment 39 = .ok (.goto 4, 3) := by decide +kernel
theorem dX7_segment_42 : decode cX7_segment 42 = .ok (.iconst 0, 1) := by decide +kernel
theorem dX7_segment_43 : decode cX7_segment 43 = .ok (.invokevirtual 120, 3) := by decide +kernel
theorem dX7_segment_46 : decode cX7_segment 46 = .ok (.ifCond .eq 5, 3) := by decide +kernel
theorem dX7_segment_49 : decode cX7_segment 49 = .ok (.iconst 0, 1) := by decide +kernel
theorem dX7_segment_50 : decode cX7_segment 50 = .ok (.ireturn, 1) := by decide +kernel
theorem dX7_segment_51 : decode cX7_segment 51 = .ok (.iload_n 2, 1) := by decide +kernel
theorem dX7_segment_52 : decode cX7_segment 52 = .ok (.tableswitch 64 0 3 #[32, 39, 45, 57], 32) := by decide +kernel
theorem dX7_segment_84 : decode cX7_segment 84 = .ok (.aload_n 0, 1) := by decide +kernel
theorem dX7_segment_85 : decode cX7_segment 85 = .ok (.getfield 31, 3) := by decide +kernel
theorem dX7_segment_88 : decode cX7_segment 88 = .ok (.iload_n 1, 1) := by decide +kernel
theorem dX7_segment_89 : decode cX7_segment 89 = .ok (.iaload, 1) := by decide +kernel
theorem dX7_segment_90 : decode cX7_segment 90 = .ok (.ireturn, 1) := by decide +kernel
theorem dX7_segment_91 : decode cX7_segment 91 = .ok (.aload_n 0, 1) := by decide +kernel
theorem dX7_segment_92 : decode cX7_segment 92 = .ok (.iload_n 1, 1) := by decide +kernel
theorem dX7_segment_93 : decode cX7_segment 93 = .ok (.invokevirtual 176, 3) := by decide +kernel
theorem dX7_segment_96 : decode cX7_segment 96 = .ok (.ireturn, 1) := by decide +kernel
theorem dX7_segment_97 : decode cX7_segment 97 = .ok (.aload_n 0, 1) := by decide +kernel
theorem dX7_segment_98 : decode cX7_segment 98 = .ok (.getfield 9, 3) := by decide +kernel
theorem dX7_segment_101 : decode cX7_segment 101 = .ok (.aload_n 0, 1) := by decide +kernel
theorem dX7_segment_102 : decode cX7_segment 102 = .ok (.getfield 31, 3) := by decide +kernel
theorem dX7_segment_105 : decode cX7_segment 105 = .ok (.iload_n 1, 1) := by decide +kernel
theorem dX7_segment_106 : decode cX7_segment 106 = .ok (.iaload, 1) := by decide +kernel
theorem dX7_segment_107 : decode cX7_segment 107 = .ok (.iaload, 1) := by decide +kernel
theorem dX7_segment_108 : decode cX7_segment 108 = .ok (.ireturn, 1) := by decide +kernel
theorem dX7_segment_109 : decode cX7_segment 109 = .ok (.aload_n 0, 1) := by decide +kernel
theorem dX7_segment_110 : decode cX7_segment 110 = .ok (.getfield 34, 3) := by decide +kernel
theorem dX7_segment_113 : decode cX7_segment 113 = .ok (.iload_n 1, 1) := by decide +kernel
theorem dX7_segment_114 : decode cX7_segment 114 = .ok (.iaload, 1) := by decide +kernel
theorem dX7_segment_115 : decode cX7_segment 115 = .ok (.ireturn, 1) := by decide +kernel
theorem dX7_segment_116 : decode cX7_segment 116 = .ok (.aload_n 0, 1) := by decide +kernel
theorem dX7_segment_117 : decode cX7_segment 117 = .ok (.getfield 37, 3) := by decide +kernel
theorem dX7_segment_120 : decode cX7_segment 120 = .ok (.iload_n 1, 1) := by decide +kernel
theorem dX7_segment_121 : decode cX7_segment 121 = .ok (.iaload, 1) := by decide +kernel
theorem dX7_segment_122 : decode cX7_segment 122 = .ok (.ireturn, 1) := by decide +kernel
def rm_X7_segment : Room := { frames := 1, cells := 0, slots := 0, locals := 22 }
abbrev p_X7_segment (g : kG) (h : Nat) (zth : Int32) (zl1 : Int64) (zl2 : Int64) (zl3 : Int64) (zl4 : Int64) (zpb : Int32) (zln : Int32) (zat : Int32) (zrk : Int32) (zrv : Int32) (zre : Int32) (zwr : Int32) (zrm : Int32) (zrs : Int32) (zis : Int32) (zss : Int32) (zsc : Int32) (ak : Nat) (av : Nat) (bk : Nat) (bv : Nat) (br : Nat) (a_s : Nat) (a_t : Nat) (g1 : Nat) (g2 : Nat) (g3 : Nat) (pa : Nat) (ru : Nat) (tx : Nat) (dk : Nat) (dv : Nat) (ek : Nat) (ev : Nat) (er : Nat) (es : Nat) (et : Nat) (nA : Nat) (fk : Nat → Int32) (fv : Nat → Int32) (nB : Nat) (ck : Nat → Int32) (cv : Nat → Int32) (cr : Nat → Int32) (fS : Nat → Int32) (fT : Nat → Int32) (mS : Nat) (y1 : Nat → Int32) (y2 : Nat → Int32) (y3 : Nat → Int32) (M : List kE3) (C : List kE3) (S : Nat → Int32) (T : Nat → Int32) (y : Int32) (w : Int32) : Int32 → va_W → Prop := fun r w1 => r = (if (segK (ksegs M S) y w) = 0 then segV (kap M) (ksegs M S) y w else 0) ∧ w1 = [(h, .inr (9, [.int (segK (ksegs M S) y w), .int (nI nA), .int (nI nB), .ref ak, .ref av, .ref bk, .ref bv, .ref br, .ref a_s, .ref a_t, .int (nI mS), .ref g1, .ref g2, .ref g3, .long zl1, .long zl2, .long zl3, .long zl4, .int zpb, .ref pa, .ref ru, .ref tx, .int zln, .int zat, .int zrk, .int zrv, .int zre, .int zwr, .int zrm, .int zrs, .int zis, .int zss, .int zsc, .ref dk, .ref dv, .ref ek, .ref ev, .ref er, .ref es, .ref et])), (ak, .inl (g.2.1.1, 152, .inl fk)), (av, .inl (g.2.1.1, 152, .inl fv)), (bk, .inl (g.2.1.1, 24, .inl ck)), (bv, .inl (g.2.1.1, 24, .inl cv)), (br, .inl (g.2.1.1, 24, .inl cr)), (a_s, .inl (g.2.1.1, 4, .inl fS)), (a_t, .inl (g.2.1.1, 5, .inl fT)), (g1, .inl (g.2.1.1, 152, .inl y1)), (g2, .inl (g.2.1.1, 152, .inl y2)), (g3, .inl (g.2.1.1, 152, .inl y3))]
set_option maxHeartbeats 4000000 in
set_option maxRecDepth 100000 in
theorem c_X7_segment (l : Launch) (g : kG) (h : Nat) (zth : Int32) (zl1 : Int64) (zl2 : Int64) (zl3 : Int64) (zl4 : Int64) (zpb : Int32) (zln : Int32) (zat : Int32) (zrk : Int32) (zrv : Int32) (zre : Int32) (zwr : Int32) (zrm : Int32) (zrs : Int32) (zis : Int32) (zss : Int32) (zsc : Int32) (ak : Nat) (av : Nat) (bk : Nat) (bv : Nat) (br : Nat) (a_s : Nat) (a_t : Nat) (g1 : Nat) (g2 : Nat) (g3 : Nat) (pa : Nat) (ru : Nat) (tx : Nat) (dk : Nat) (dv : Nat) (ek : Nat) (ev : Nat) (er : Nat) (es : Nat) (et : Nat) (nA : Nat) (fk : Nat → Int32) (fv : Nat → Int32) (nB : Nat) (ck : Nat → Int32) (cv : Nat → Int32) (cr : Nat → Int32) (fS : Nat → Int32) (fT : Nat → Int32) (mS : Nat) (y1 : Nat → Int32) (y2 : Nat → Int32) (y3 : Nat → Int32) (M : List kE3) (C : List kE3) (S : Nat → Int32) (T : Nat → Int32) (y : Int32) (w : Int32) (hMX : kMX nA fk fv nB ck cv cr fS fT mS y1 y2 y3 M C S T) : KI l yX7_segment wsX7_segment rm_X7_segment g [.ref h, .int y, .int w] [(h, .inr (9, [.int zth, .int (nI nA), .int (nI nB), .ref ak, .ref av, .ref bk, .ref bv, .ref br, .ref a_s, .ref a_t, .int (nI mS), .ref g1, .ref g2, .ref g3, .long zl1, .long zl2, .long zl3, .long zl4, .int zpb, .ref pa, .ref ru, .ref tx, .int zln, .int zat, .int zrk, .int zrv, .int zre, .int zwr, .int zrm, .int zrs, .int zis, .int zss, .int zsc, .ref dk, .ref dv, .ref ek, .ref ev, .ref er, .ref es, .ref et])), (ak, .inl (g.2.1.1, 152, .inl fk)), (av, .inl (g.2.1.1, 152, .inl fv)), (bk, .inl (g.2.1.1, 24, .inl ck)), (bv, .inl (g.2.1.1, 24, .inl cv)), (br, .inl (g.2.1.1, 24, .inl cr)), (a_s, .inl (g.2.1.1, 4, .inl fS)), (a_t, .inl (g.2.1.1, 5, .inl fT)), (g1, .inl (g.2.1.1, 152, .inl y1)), (g2, .inl (g.2.1.1, 152, .inl y2)), (g3, .inl (g.2.1.1, 152, .inl y3))] (p_X7_segment g h zth zl1 zl2 zl3 zl4 zpb zln zat zrk zrv zre zwr zrm zrs zis zss zsc ak av bk bv br a_s a_t g1 g2 g3 pa ru tx dk dv ek ev er es et nA fk fv nB ck cv cr fS fT mS y1 y2 y3 M C S T y w) := by
  refine kbodyI (cc := cX7_segment) (n := 3) (k := 11) (own := RX7) (plainFor_of_name (by decide)) rfl rfl rfl rfl ?_
  intro p e s m below meth cd A ls hcx
  obtain ⟨hx, hb, hRt, hml, hts, hown, hlk, hA, hP, hK, hD, hE, hS, hl⟩ := hcx
  have hl : lv_has ls 3 [(0, .ref h), (1, .int y), (2, .int w)] := hl
  obtain ⟨hMM, hS4, hT5, hKS, hSGm⟩ := id hMX
  obtain ⟨⟨hM, hC⟩, ⟨hnM, hnC⟩, ⟨hIM, hIC⟩, hlen, hrem⟩ := id hMM
  have hsM : kSo (EL nA fk fv fz0) := by rw [hM]; exact hIM.1
  have hsC : kSo (EL nB ck cv cr) := by rw [hC]; exact hIC.1
  have hnl : nA = M.length := by rw [← hM, EL_len]
  have hcl : nB = C.length := by rw [← hC, EL_len]
  obtain ⟨⟨hS01, hS02⟩, ⟨hS11, hS12⟩, ⟨hS21, hS22⟩, ⟨hS31, hS32⟩⟩ := id hKS
  obtain ⟨v2, v3, hSG⟩ := hSGm
  obtain ⟨hmL, hseg⟩ := SG_seg hSG
  have hasc := kap_asc hM hIM
  have hsl : (ksegs M S).length ≤ M.length - 0 := sg_len (hnl ▸ hasc) (by omega) ⟨by omega, by omega⟩ _ _
  refine lv_aload_n hx hb dX7_segment_0 rfl (lv_at hl 0 rfl) ?_
  refine lv_iconst (v := 1) hx hb dX7_segment_1 (by decide) ?_
  refine lv_iload_n hx hb dX7_segment_2 rfl (lv_at hl 1 rfl) ?_
  refine lv_iconst (v := 0) hx hb dX7_segment_3 (by decide) ?_
  refine lv_aload_n hx hb dX7_segment_4 rfl (lv_at hl 0 rfl) ?_
  refine va_get (D := g.1) (ci := 9) (v := .int (nI mS)) (C := RX7) (T := TX7) (N := 40) hx hb hts (by decide +kernel) hown hK hP 0 rfl rfl 10 (by decide) (hts (.fieldLink RX7 163 "LearnedIndexModel" "segments" "I") (by decide +kernel)) (fun _ h9 => h9) rfl dX7_segment_5 ?_
  refine lv_iconst (v := 1) hx hb dX7_segment_8 (by decide) ?_
  refine lv_isub hx hb dX7_segment_9 ?_
  rw [show ((nI mS) - 1 : Int32) = kH mS from kH_sub _]
  refine kcalli (wc := []) [] (va_runS (As := [.int y, .int 0, .int (kH mS)]) (rest := [.int 1, .ref h]) ⟨hx, hb, hml, hown, hts⟩ ((c_X7_isBetween l g y 0 (kH mS)) _) (va_cwS 3 hts gX7_segment_X7_isBetween rfl rfl rfl (by decide +kernel) ⟨Nat.le_of_ble_eq_true rfl, Nat.le_of_ble_eq_true rfl⟩) (kpreS (wc := []) hK hP hD hS hA hE [] rfl rfl) rfl rfl hl.1 rfl (lv_room (Nat.le_of_ble_eq_true rfl)) dX7_segment_10 ⟨Nat.zero_le _, Nat.zero_le _⟩) hP hD hS hA rfl (fun r_1 w_1 H locs hp hP hD hS => ?_)
  obtain ⟨rfl, rfl⟩ := hp
  have hP : va_P g.1 vwCl [(h, .inr (9, [.int zth, .int (nI nA), .int (nI nB), .ref ak, .ref av, .ref bk, .ref bv, .ref br, .ref a_s, .ref a_t, .int (nI mS), .ref g1, .ref g2, .ref g3, .long zl1, .long zl2, .long zl3, .long zl4, .int zpb, .ref pa, .ref ru, .ref tx, .int zln, .int zat, .int zrk, .int zrv, .int zre, .int zwr, .int zrm, .int zrs, .int zis, .int zss, .int zsc, .ref dk, .ref dv, .ref ek, .ref ev, .ref er, .ref es, .ref et])), (ak, .inl (g.2.1.1, 152, .inl fk)), (av, .inl (g.2.1.1, 152, .inl fv)), (bk, .inl (g.2.1.1, 24, .inl ck)), (bv, .inl (g.2.1.1, 24, .inl cv)), (br, .inl (g.2.1.1, 24, .inl cr)), (a_s, .inl (g.2.1.1, 4, .inl fS)), (a_t, .inl (g.2.1.1, 5, .inl fT)), (g1, .inl (g.2.1.1, 152, .inl y1)), (g2, .inl (g.2.1.1, 152, .inl y2)), (g3, .inl (g.2.1.1, 152, .inl y3))] H := hP
  have hD : va_D A [(h, .inr (9, [.int zth, .int (nI nA), .int (nI nB), .ref ak, .ref av, .ref bk, .ref bv, .ref br, .ref a_s, .ref a_t, .int (nI mS), .ref g1, .ref g2, .ref g3, .long zl1, .long zl2, .long zl3, .long zl4, .int zpb, .ref pa, .ref ru, .ref tx, .int zln, .int zat, .int zrk, .int zrv, .int zre, .int zwr, .int zrm, .int zrs, .int zis, .int zss, .int zsc, .ref dk, .ref dv, .ref ek, .ref ev, .ref er, .ref es, .ref et])), (ak, .inl (g.2.1.1, 152, .inl fk)), (av, .inl (g.2.1.1, 152, .inl fv)), (bk, .inl (g.2.1.1, 24, .inl ck)), (bv, .inl (g.2.1.1, 24, .inl cv)), (br, .inl (g.2.1.1, 24, .inl cr)), (a_s, .inl (g.2.1.1, 4, .inl fS)), (a_t, .inl (g.2.1.1, 5, .inl fT)), (g1, .inl (g.2.1.1, 152, .inl y1)), (g2, .inl (g.2.1.1, 152, .inl y2)), (g3, .inl (g.2.1.1, 152, .inl y3))] := hD
  refine lv_if_ne (tgt := 20) hx hb dX7_segment_13 (by decide) (fun c_13 => ?_) (fun c_13 => ?_)
  · skip
    obtain ⟨hy1, hy2, hy3⟩ := isB_rng (by omega) c_13
    have hok : (sgAt (ksegs M S) (y.toInt.toNat)).1 ≤ (sgAt (ksegs M S) (y.toInt.toNat)).2.1 ∧ (sgAt (ksegs M S) (y.toInt.toNat)).2.1 < nA ∧ (sgAt (ksegs M S) (y.toInt.toNat)).2.2.1 ≤ 200 ∧ 1 ≤ (sgAt (ksegs M S) (y.toInt.toNat)).2.2.2 ∧ (sgAt (ksegs M S) (y.toInt.toNat)).2.2.2 ≤ 10000 := by rw [hnl]; exact sg_ok (hnl ▸ hasc) (by omega) ⟨by omega, by omega⟩ _ _ _ (sgAt_mem (L := ksegs M S) (by omega))
    refine lv_iconst (v := 0) hx hb dX7_segment_20 (by decide) ?_
    refine kcalli (wc := [(h, .inr (9, [.int zth, .int (nI nA), .int (nI nB), .ref ak, .ref av, .ref bk, .ref bv, .ref br, .ref a_s, .ref a_t, .int (nI mS), .ref g1, .ref g2, .ref g3, .long zl1, .long zl2, .long zl3, .long zl4, .int zpb, .ref pa, .ref ru, .ref tx, .int zln, .int zat, .int zrk, .int zrv, .int zre, .int zwr, .int zrm, .int zrs, .int zis, .int zss, .int zsc, .ref dk, .ref dv, .ref ek, .ref ev, .ref er, .ref es, .ref et]))]) [0] (va_runV (C := RX7) (As := [.int 1, .int 0]) (rest := []) ⟨hx, hb, hml, hown, hts⟩ ((c_X7_fails0 l g h zth (nI nA) (nI nB) (nI mS) zl1 zl2 zl3 zl4 zpb zln zat zrk zrv zre zwr zrm zrs zis zss zsc ak av bk bv br a_s a_t g1 g2 g3 pa ru tx dk dv ek ev er es et 1) _) (cwV 2 hts gX7_segment_X7_fails rfl rfl rfl (by decide +kernel) ⟨Nat.le_of_ble_eq_true rfl, Nat.le_of_ble_eq_true rfl⟩) (kpreV (wc := [(h, .inr (9, [.int zth, .int (nI nA), .int (nI nB), .ref ak, .ref av, .ref bk, .ref bv, .ref br, .ref a_s, .ref a_t, .int (nI mS), .ref g1, .ref g2, .ref g3, .long zl1, .long zl2, .long zl3, .long zl4, .int zpb, .ref pa, .ref ru, .ref tx, .int zln, .int zat, .int zrk, .int zrv, .int zre, .int zwr, .int zrm, .int zrs, .int zis, .int zss, .int zsc, .ref dk, .ref dv, .ref ek, .ref ev, .ref er, .ref es, .ref et]))]) (ci := 9) hK hP hD hS hA hE [0] rfl rfl rfl rfl) rfl rfl hl.1 rfl (lv_room (Nat.le_of_ble_eq_true rfl)) dX7_segment_21 ⟨Nat.zero_le _, Nat.zero_le _⟩) hP hD hS hA rfl (fun r_2 w_2 H locs hp hP hD hS => ?_)
    obtain ⟨rfl, rfl⟩ := hp
    have hP : va_P g.1 vwCl [(h, .inr (9, [.int 0, .int (nI nA), .int (nI nB), .ref ak, .ref av, .ref bk, .ref bv, .ref br, .ref a_s, .ref a_t, .int (nI mS), .ref g1, .ref g2, .ref g3, .long zl1, .long zl2, .long zl3, .long zl4, .int zpb, .ref pa, .ref ru, .ref tx, .int zln, .int zat, .int zrk, .int zrv, .int zre, .int zwr, .int zrm, .int zrs, .int zis, .int zss, .int zsc, .ref dk, .ref dv, .ref ek, .ref ev, .ref er, .ref es, .ref et])), (ak, .inl (g.2.1.1, 152, .inl fk)), (av, .inl (g.2.1.1, 152, .inl fv)), (bk, .inl (g.2.1.1, 24, .inl ck)), (bv, .inl (g.2.1.1, 24, .inl cv)), (br, .inl (g.2.1.1, 24, .inl cr)), (a_s, .inl (g.2.1.1, 4, .inl fS)), (a_t, .inl (g.2.1.1, 5, .inl fT)), (g1, .inl (g.2.1.1, 152, .inl y1)), (g2, .inl (g.2.1.1, 152, .inl y2)), (g3, .inl (g.2.1.1, 152, .inl y3))] H := hP
    have hD : va_D A [(h, .inr (9, [.int 0, .int (nI nA), .int (nI nB), .ref ak, .ref av, .ref bk, .ref bv, .ref br, .ref a_s, .ref a_t, .int (nI mS), .ref g1, .ref g2, .ref g3, .long zl1, .long zl2, .long zl3, .long zl4, .int zpb, .ref pa, .ref ru, .ref tx, .int zln, .int zat, .int zrk, .int zrv, .int zre, .int zwr, .int zrm, .int zrs, .int zis, .int zss, .int zsc, .ref dk, .ref dv, .ref ek, .ref ev, .ref er, .ref es, .ref et])), (ak, .inl (g.2.1.1, 152, .inl fk)), (av, .inl (g.2.1.1, 152, .inl fv)), (bk, .inl (g.2.1.1, 24, .inl ck)), (bv, .inl (g.2.1.1, 24, .inl cv)), (br, .inl (g.2.1.1, 24, .inl cr)), (a_s, .inl (g.2.1.1, 4, .inl fS)), (a_t, .inl (g.2.1.1, 5, .inl fT)), (g1, .inl (g.2.1.1, 152, .inl y1)), (g2, .inl (g.2.1.1, 152, .inl y2)), (g3, .inl (g.2.1.1, 152, .inl y3))] := hD
    refine lv_if_ne (tgt := 49) hx hb dX7_segment_24 (by decide) (fun c_24 => absurd c_24 (fun z => z rfl)) (fun c_24 => ?_)
    refine lv_aload_n hx hb dX7_segment_27 rfl (lv_at hl 0 rfl) ?_
    refine lv_iconst (v := 2) hx hb dX7_segment_28 (by decide) ?_
    refine lv_iload_n hx hb dX7_segment_29 rfl (lv_at hl 2 rfl) ?_
    refine lv_iconst (v := 0) hx hb dX7_segment_30 (by decide) ?_
    refine lv_iconst (v := 4) hx hb dX7_segment_31 (by decide) ?_
    refine kcalli (wc := []) [] (va_runS (As := [.int w, .int 0, .int 4]) (rest := [.int 2, .ref h]) ⟨hx, hb, hml, hown, hts⟩ ((c_X7_isBetween l g w 0 4) _) (va_cwS 3 hts gX7_segment_X7_isBetween rfl rfl rfl (by decide +kernel) ⟨Nat.le_of_ble_eq_true rfl, Nat.le_of_ble_eq_true rfl⟩) (kpreS (wc := []) hK hP hD hS hA hE [] rfl rfl) rfl rfl hl.1 rfl (lv_room (Nat.le_of_ble_eq_true rfl)) dX7_segment_32 ⟨Nat.zero_le _, Nat.zero_le _⟩) hP hD hS hA rfl (fun r_3 w_3 H locs hp hP hD hS => ?_)
    obtain ⟨rfl, rfl⟩ := hp
    have hP : va_P g.1 vwCl [(h, .inr (9, [.int 0, .int (nI nA), .int (nI nB), .ref ak, .ref av, .ref bk, .ref bv, .ref br, .ref a_s, .ref a_t, .int (nI mS), .ref g1, .ref g2, .ref g3, .long zl1, .long zl2, .long zl3, .long zl4, .int zpb, .ref pa, .ref ru, .ref tx, .int zln, .int zat, .int zrk, .int zrv, .int zre, .int zwr, .int zrm, .int zrs, .int zis, .int zss, .int zsc, .ref dk, .ref dv, .ref ek, .ref ev, .ref er, .ref es, .ref et])), (ak, .inl (g.2.1.1, 152, .inl fk)), (av, .inl (g.2.1.1, 152, .inl fv)), (bk, .inl (g.2.1.1, 24, .inl ck)), (bv, .inl (g.2.1.1, 24, .inl cv)), (br, .inl (g.2.1.1, 24, .inl cr)), (a_s, .inl (g.2.1.1, 4, .inl fS)), (a_t, .inl (g.2.1.1, 5, .inl fT)), (g1, .inl (g.2.1.1, 152, .inl y1)), (g2, .inl (g.2.1.1, 152, .inl y2)), (g3, .inl (g.2.1.1, 152, .inl y3))] H := hP
    have hD : va_D A [(h, .inr (9, [.int 0, .int (nI nA), .int (nI nB), .ref ak, .ref av, .ref bk, .ref bv, .ref br, .ref a_s, .ref a_t, .int (nI mS), .ref g1, .ref g2, .ref g3, .long zl1, .long zl2, .long zl3, .long zl4, .int zpb, .ref pa, .ref ru, .ref tx, .int zln, .int zat, .int zrk, .int zrv, .int zre, .int zwr, .int zrm, .int zrs, .int zis, .int zss, .int zsc, .ref dk, .ref dv, .ref ek, .ref ev, .ref er, .ref es, .ref et])), (ak, .inl (g.2.1.1, 152, .inl fk)), (av, .inl (g.2.1.1, 152, .inl fv)), (bk, .inl (g.2.1.1, 24, .inl ck)), (bv, .inl (g.2.1.1, 24, .inl cv)), (br, .inl (g.2.1.1, 24, .inl cr)), (a_s, .inl (g.2.1.1, 4, .inl fS)), (a_t, .inl (g.2.1.1, 5, .inl fT)), (g1, .inl (g.2.1.1, 152, .inl y1)), (g2, .inl (g.2.1.1, 152, .inl y2)), (g3, .inl (g.2.1.1, 152, .inl y3))] := hD
    have hib := isB_lit (w := w) (a := 0) (b := 4) (by decide) (by decide) (by decide) (by decide)
    refine lv_if_ne (tgt := 42) hx hb dX7_segment_35 (by decide) (fun c_35 => ?_) (fun c_35 => ?_)
    · skip
      have hw9 := hib.mp c_35
      have hk9 : segK (ksegs M S) y w = 0 := by rw [segK, if_neg (fun z => z ⟨hy2, by rw [← hmL]; exact hy3⟩), if_neg (by omega)]
      refine lv_iconst (v := 0) hx hb dX7_segment_42 (by decide) ?_
      refine kcalli (wc := [(h, .inr (9, [.int 0, .int (nI nA), .int (nI nB), .ref ak, .ref av, .ref bk, .ref bv, .ref br, .ref a_s, .ref a_t, .int (nI mS), .ref g1, .ref g2, .ref g3, .long zl1, .long zl2, .long zl3, .long zl4, .int zpb, .ref pa, .ref ru, .ref tx, .int zln, .int zat, .int zrk, .int zrv, .int zre, .int zwr, .int zrm, .int zrs, .int zis, .int zss, .int zsc, .ref dk, .ref dv, .ref ek, .ref ev, .ref er, .ref es, .ref et]))]) [0] (va_runV (C := RX7) (As := [.int 2, .int 0]) (rest := []) ⟨hx, hb, hml, hown, hts⟩ ((c_X7_fails0 l g h 0 (nI nA) (nI nB) (nI mS) zl1 zl2 zl3 zl4 zpb zln zat zrk zrv zre zwr zrm zrs zis zss zsc ak av bk bv br a_s a_t g1 g2 g3 pa ru tx dk dv ek ev er es et 2) _) (cwV 2 hts gX7_segment_X7_fails rfl rfl rfl (by decide +kernel) ⟨Nat.le_of_ble_eq_true rfl, Nat.le_of_ble_eq_true rfl⟩) (kpreV (wc := [(h, .inr (9, [.int 0, .int (nI nA), .int (nI nB), .ref ak, .ref av, .ref bk, .ref bv, .ref br, .ref a_s, .ref a_t, .int (nI mS), .ref g1, .ref g2, .ref g3, .long zl1, .long zl2, .long zl3, .long zl4, .int zpb, .ref pa, .ref ru, .ref tx, .int zln, .int zat, .int zrk, .int zrv, .int zre, .int zwr, .int zrm, .int zrs, .int zis, .int zss, .int zsc, .ref dk, .ref dv, .ref ek, .ref ev, .ref er, .ref es, .ref et]))]) (ci := 9) hK hP hD hS hA hE [0] rfl rfl rfl rfl) rfl rfl hl.1 rfl (lv_room (Nat.le_of_ble_eq_true rfl)) dX7_segment_43 ⟨Nat.zero_le _, Nat.zero_le _⟩) hP hD hS hA rfl (fun r_4 w_4 H locs hp hP hD hS => ?_)
      obtain ⟨rfl, rfl⟩ := hp
      have hP : va_P g.1 vwCl [(h, .inr (9, [.int 0, .int (nI nA), .int (nI nB), .ref ak, .ref av, .ref bk, .ref bv, .ref br, .ref a_s, .ref a_t, .int (nI mS), .ref g1, .ref g2, .ref g3, .long zl1, .long zl2, .long zl3, .long zl4, .int zpb, .ref pa, .ref ru, .ref tx, .int zln, .int zat, .int zrk, .int zrv, .int zre, .int zwr, .int zrm, .int zrs, .int zis, .int zss, .int zsc, .ref dk, .ref dv, .ref ek, .ref ev, .ref er, .ref es, .ref et])), (ak, .inl (g.2.1.1, 152, .inl fk)), (av, .inl (g.2.1.1, 152, .inl fv)), (bk, .inl (g.2.1.1, 24, .inl ck)), (bv, .inl (g.2.1.1, 24, .inl cv)), (br, .inl (g.2.1.1, 24, .inl cr)), (a_s, .inl (g.2.1.1, 4, .inl fS)), (a_t, .inl (g.2.1.1, 5, .inl fT)), (g1, .inl (g.2.1.1, 152, .inl y1)), (g2, .inl (g.2.1.1, 152, .inl y2)), (g3, .inl (g.2.1.1, 152, .inl y3))] H := hP
      have hD : va_D A [(h, .inr (9, [.int 0, .int (nI nA), .int (nI nB), .ref ak, .ref av, .ref bk, .ref bv, .ref br, .ref a_s, .ref a_t, .int (nI mS), .ref g1, .ref g2, .ref g3, .long zl1, .long zl2, .long zl3, .long zl4, .int zpb, .ref pa, .ref ru, .ref tx, .int zln, .int zat, .int zrk, .int zrv, .int zre, .int zwr, .int zrm, .int zrs, .int zis, .int zss, .int zsc, .ref dk, .ref dv, .ref ek, .ref ev, .ref er, .ref es, .ref et])), (ak, .inl (g.2.1.1, 152, .inl fk)), (av, .inl (g.2.1.1, 152, .inl fv)), (bk, .inl (g.2.1.1, 24, .inl ck)), (bv, .inl (g.2.1.1, 24, .inl cv)), (br, .inl (g.2.1.1, 24, .inl cr)), (a_s, .inl (g.2.1.1, 4, .inl fS)), (a_t, .inl (g.2.1.1, 5, .inl fT)), (g1, .inl (g.2.1.1, 152, .inl y1)), (g2, .inl (g.2.1.1, 152, .inl y2)), (g3, .inl (g.2.1.1, 152, .inl y3))] := hD
      refine lv_if_eq (tgt := 51) hx hb dX7_segment_46 (by decide) (fun c_46 => ?_) (fun c_46 => absurd (by decide) c_46)
      refine lv_iload_n hx hb dX7_segment_51 rfl (lv_at hl 2 rfl) ?_
      rcases (show w.toInt < 0 ∨ 3 < w.toInt ∨ w.toInt = 0 ∨ w.toInt = 1 ∨ w.toInt = 2 ∨ w.toInt = 3 from by omega) with s_52 | s_52 | s_52 | s_52 | s_52 | s_52
      · skip
        refine lv_tableOut (tgt := 116) hx hb dX7_segment_52 (Or.inl s_52) (by decide) ?_
        exfalso; omega
      · skip
        refine lv_tableOut (tgt := 116) hx hb dX7_segment_52 (Or.inr s_52) (by decide) ?_
        refine lv_aload_n hx hb dX7_segment_116 rfl (lv_at hl 0 rfl) ?_
        refine va_get (D := g.1) (ci := 9) (v := .ref g3) (C := RX7) (T := TX7) (N := 40) hx hb hts (by decide +kernel) hown hK hP 0 rfl rfl 13 (by decide) (hts (.fieldLink RX7 37 "LearnedIndexModel" "bottoms" "[I") (by decide +kernel)) (fun _ h9 => h9) rfl dX7_segment_117 ?_
        refine lv_iload_n hx hb dX7_segment_120 rfl (lv_at hl 1 rfl) ?_
        refine lv_topi (fun v120 e_v120 => ?_)
        rw [show (v120 : Int32) = nI y.toInt.toNat from e_v120.trans hy1]
        refine va_iald hx hb hK hP 10 0 rfl rfl (vp_in_nI (show y.toInt.toNat < 152 by omega) (by omega)) dX7_segment_121 ?_
        rw [show (nI y.toInt.toNat : Int32).toNatClampNeg = y.toInt.toNat from nI_clamp (n := y.toInt.toNat) (by omega)]
        exact kreti hx hb hRt hlk hK hP hD hS rfl dX7_segment_122 (⟨by rw [hk9, if_pos rfl, segV_4 (by omega), (hseg _ hy3).2.2.2.2], by rw [hk9]⟩)
      · skip
        have e_52 : w = 0 := Int32.toInt_inj.mp (s_52.trans (show (0 : Int) = (0 : Int32).toInt by decide))
        refine lv_tableIn (off := 32) (tgt := 84) hx hb dX7_segment_52 (by omega) (by omega) (by rw [s_52]; rfl) (by decide) ?_
        refine lv_aload_n hx hb dX7_segment_84 rfl (lv_at hl 0 rfl) ?_
        refine va_get (D := g.1) (ci := 9) (v := .ref g1) (C := RX7) (T := TX7) (N := 40) hx hb hts (by decide +kernel) hown hK hP 0 rfl rfl 11 (by decide) (hts (.fieldLink RX7 31 "LearnedIndexModel" "begins" "[I") (by decide +kernel)) (fun _ h9 => h9) rfl dX7_segment_85 ?_
        refine lv_iload_n hx hb dX7_segment_88 rfl (lv_at hl 1 rfl) ?_
        refine lv_topi (fun v88 e_v88 => ?_)
        rw [show (v88 : Int32) = nI y.toInt.toNat from e_v88.trans hy1]
        refine va_iald hx hb hK hP 8 0 rfl rfl (vp_in_nI (show y.toInt.toNat < 152 by omega) (by omega)) dX7_segment_89 ?_
        rw [show (nI y.toInt.toNat : Int32).toNatClampNeg = y.toInt.toNat from nI_clamp (n := y.toInt.toNat) (by omega)]
        exact kreti hx hb hRt hlk hK hP hD hS rfl dX7_segment_90 (⟨by rw [hk9, if_pos rfl, e_52, segV, if_pos rfl, (hseg _ hy3).1], by rw [hk9]⟩)
      · skip
        have e_52 : w = 1 := Int32.toInt_inj.mp (s_52.trans (show (1 : Int) = (1 : Int32).toInt by decide))
        refine lv_tableIn (off := 39) (tgt := 91) hx hb dX7_segment_52 (by omega) (by omega) (by rw [s_52]; rfl) (by decide) ?_
        refine lv_aload_n hx hb dX7_segment_91 rfl (lv_at hl 0 rfl) ?_
        refine lv_iload_n hx hb dX7_segment_92 rfl (lv_at hl 1 rfl) ?_
        refine lv_topi (fun v92 e_v92 => ?_)
        rw [show (v92 : Int32) = nI y.toInt.toNat from e_v92.trans hy1]
        refine kcalli (wc := [(h, .inr (9, [.int 0, .int (nI nA), .int (nI nB), .ref ak, .ref av, .ref bk, .ref bv, .ref br, .ref a_s, .ref a_t, .int (nI mS), .ref g1, .ref g2, .ref g3, .long zl1, .long zl2, .long zl3, .long zl4, .int zpb, .ref pa, .ref ru, .ref tx, .int zln, .int zat, .int zrk, .int zrv, .int zre, .int zwr, .int zrm, .int zrs, .int zis, .int zss, .int zsc, .ref dk, .ref dv, .ref ek, .ref ev, .ref er, .ref es, .ref et])), (ak, .inl (g.2.1.1, 152, .inl fk)), (av, .inl (g.2.1.1, 152, .inl fv)), (bk, .inl (g.2.1.1, 24, .inl ck)), (bv, .inl (g.2.1.1, 24, .inl cv)), (br, .inl (g.2.1.1, 24, .inl cr)), (a_s, .inl (g.2.1.1, 4, .inl fS)), (a_t, .inl (g.2.1.1, 5, .inl fT)), (g1, .inl (g.2.1.1, 152, .inl y1)), (g2, .inl (g.2.1.1, 152, .inl y2)), (g3, .inl (g.2.1.1, 152, .inl y3))]) [0, 1, 2, 3, 4, 5, 6, 7, 8, 9, 10] (va_runV (C := RX7) (As := [.int (nI y.toInt.toNat)]) (rest := []) ⟨hx, hb, hml, hown, hts⟩ ((c_X7_lastOf l g h 0 zl1 zl2 zl3 zl4 zpb zln zat zrk zrv zre zwr zrm zrs zis zss zsc ak av bk bv br a_s a_t g1 g2 g3 pa ru tx dk dv ek ev er es et nA fk fv nB ck cv cr fS fT mS y1 y2 y3 M C S T y.toInt.toNat hMX hy3) _) (cwV 1 hts gX7_segment_X7_lastOf rfl rfl rfl (by decide +kernel) ⟨Nat.le_of_ble_eq_true rfl, Nat.le_of_ble_eq_true rfl⟩) (kpreV (wc := [(h, .inr (9, [.int 0, .int (nI nA), .int (nI nB), .ref ak, .ref av, .ref bk, .ref bv, .ref br, .ref a_s, .ref a_t, .int (nI mS), .ref g1, .ref g2, .ref g3, .long zl1, .long zl2, .long zl3, .long zl4, .int zpb, .ref pa, .ref ru, .ref tx, .int zln, .int zat, .int zrk, .int zrv, .int zre, .int zwr, .int zrm, .int zrs, .int zis, .int zss, .int zsc, .ref dk, .ref dv, .ref ek, .ref ev, .ref er, .ref es, .ref et])), (ak, .inl (g.2.1.1, 152, .inl fk)), (av, .inl (g.2.1.1, 152, .inl fv)), (bk, .inl (g.2.1.1, 24, .inl ck)), (bv, .inl (g.2.1.1, 24, .inl cv)), (br, .inl (g.2.1.1, 24, .inl cr)), (a_s, .inl (g.2.1.1, 4, .inl fS)), (a_t, .inl (g.2.1.1, 5, .inl fT)), (g1, .inl (g.2.1.1, 152, .inl y1)), (g2, .inl (g.2.1.1, 152, .inl y2)), (g3, .inl (g.2.1.1, 152, .inl y3))]) (ci := 9) hK hP hD hS hA hE [0, 1, 2, 3, 4, 5, 6, 7, 8, 9, 10] rfl rfl rfl rfl) rfl rfl hl.1 rfl (lv_room (Nat.le_of_ble_eq_true rfl)) dX7_segment_93 ⟨Nat.zero_le _, Nat.zero_le _⟩) hP hD hS hA rfl (fun r_5 w_5 H locs hp hP hD hS => ?_)
        obtain ⟨rfl, rfl⟩ := hp
        have hP : va_P g.1 vwCl [(h, .inr (9, [.int 0, .int (nI nA), .int (nI nB), .ref ak, .ref av, .ref bk, .ref bv, .ref br, .ref a_s, .ref a_t, .int (nI mS), .ref g1, .ref g2, .ref g3, .long zl1, .long zl2, .long zl3, .long zl4, .int zpb, .ref pa, .ref ru, .ref tx, .int zln, .int zat, .int zrk, .int zrv, .int zre, .int zwr, .int zrm, .int zrs, .int zis, .int zss, .int zsc, .ref dk, .ref dv, .ref ek, .ref ev, .ref er, .ref es, .ref et])), (ak, .inl (g.2.1.1, 152, .inl fk)), (av, .inl (g.2.1.1, 152, .inl fv)), (bk, .inl (g.2.1.1, 24, .inl ck)), (bv, .inl (g.2.1.1, 24, .inl cv)), (br, .inl (g.2.1.1, 24, .inl cr)), (a_s, .inl (g.2.1.1, 4, .inl fS)), (a_t, .inl (g.2.1.1, 5, .inl fT)), (g1, .inl (g.2.1.1, 152, .inl y1)), (g2, .inl (g.2.1.1, 152, .inl y2)), (g3, .inl (g.2.1.1, 152, .inl y3))] H := hP
        have hD : va_D A [(h, .inr (9, [.int 0, .int (nI nA), .int (nI nB), .ref ak, .ref av, .ref bk, .ref bv, .ref br, .ref a_s, .ref a_t, .int (nI mS), .ref g1, .ref g2, .ref g3, .long zl1, .long zl2, .long zl3, .long zl4, .int zpb, .ref pa, .ref ru, .ref tx, .int zln, .int zat, .int zrk, .int zrv, .int zre, .int zwr, .int zrm, .int zrs, .int zis, .int zss, .int zsc, .ref dk, .ref dv, .ref ek, .ref ev, .ref er, .ref es, .ref et])), (ak, .inl (g.2.1.1, 152, .inl fk)), (av, .inl (g.2.1.1, 152, .inl fv)), (bk, .inl (g.2.1.1, 24, .inl ck)), (bv, .inl (g.2.1.1, 24, .inl cv)), (br, .inl (g.2.1.1, 24, .inl cr)), (a_s, .inl (g.2.1.1, 4, .inl fS)), (a_t, .inl (g.2.1.1, 5, .inl fT)), (g1, .inl (g.2.1.1, 152, .inl y1)), (g2, .inl (g.2.1.1, 152, .inl y2)), (g3, .inl (g.2.1.1, 152, .inl y3))] := hD
        exact kreti hx hb hRt hlk hK hP hD hS rfl dX7_segment_96 (⟨by rw [hk9, if_pos rfl, e_52, segV, if_neg (by decide), if_pos rfl], by rw [hk9]⟩)
      · skip
        have e_52 : w = 2 := Int32.toInt_inj.mp (s_52.trans (show (2 : Int) = (2 : Int32).toInt by decide))
        refine lv_tableIn (off := 45) (tgt := 97) hx hb dX7_segment_52 (by omega) (by omega) (by rw [s_52]; rfl) (by decide) ?_
        refine lv_aload_n hx hb dX7_segment_97 rfl (lv_at hl 0 rfl) ?_
        refine va_get (D := g.1) (ci := 9) (v := .ref ak) (C := RX7) (T := TX7) (N := 40) hx hb hts (by decide +kernel) hown hK hP 0 rfl rfl 3 (by decide) (hts (.fieldLink RX7 9 "LearnedIndexModel" "keys" "[I") (by decide +kernel)) (fun _ h9 => h9) rfl dX7_segment_98 ?_
        refine lv_aload_n hx hb dX7_segment_101 rfl (lv_at hl 0 rfl) ?_
        refine va_get (D := g.1) (ci := 9) (v := .ref g1) (C := RX7) (T := TX7) (N := 40) hx hb hts (by decide +kernel) hown hK hP 0 rfl rfl 11 (by decide) (hts (.fieldLink RX7 31 "LearnedIndexModel" "begins" "[I") (by decide +kernel)) (fun _ h9 => h9) rfl dX7_segment_102 ?_
        refine lv_iload_n hx hb dX7_segment_105 rfl (lv_at hl 1 rfl) ?_
        refine lv_topi (fun v105 e_v105 => ?_)
        rw [show (v105 : Int32) = nI y.toInt.toNat from e_v105.trans hy1]
        refine va_iald hx hb hK hP 8 0 rfl rfl (vp_in_nI (show y.toInt.toNat < 152 by omega) (by omega)) dX7_segment_106 ?_
        rw [show (nI y.toInt.toNat : Int32).toNatClampNeg = y.toInt.toNat from nI_clamp (n := y.toInt.toNat) (by omega)]
        rw [show (y1 y.toInt.toNat : Int32) = nI (sgAt (ksegs M S) y.toInt.toNat).1 from (hseg _ hy3).1]
        refine va_iald hx hb hK hP 1 0 rfl rfl (vp_in_nI (show (sgAt (ksegs M S) y.toInt.toNat).1 < 152 by omega) (by omega)) dX7_segment_107 ?_
        rw [show (nI (sgAt (ksegs M S) y.toInt.toNat).1 : Int32).toNatClampNeg = (sgAt (ksegs M S) y.toInt.toNat).1 from nI_clamp (n := (sgAt (ksegs M S) y.toInt.toNat).1) (by omega)]
        exact kreti hx hb hRt hlk hK hP hD hS rfl dX7_segment_108 (⟨by rw [hk9, if_pos rfl, e_52, segV, if_neg (by decide), if_neg (by decide), if_pos rfl, EL_kap hM (by omega)], by rw [hk9]⟩)
      · skip
        have e_52 : w = 3 := Int32.toInt_inj.mp (s_52.trans (show (3 : Int) = (3 : Int32).toInt by decide))
        refine lv_tableIn (off := 57) (tgt := 109) hx hb dX7_segment_52 (by omega) (by omega) (by rw [s_52]; rfl) (by decide) ?_
        refine lv_aload_n hx hb dX7_segment_109 rfl (lv_at hl 0 rfl) ?_
        refine va_get (D := g.1) (ci := 9) (v := .ref g2) (C := RX7) (T := TX7) (N := 40) hx hb hts (by decide +kernel) hown hK hP 0 rfl rfl 12 (by decide) (hts (.fieldLink RX7 34 "LearnedIndexModel" "tops" "[I") (by decide +kernel)) (fun _ h9 => h9) rfl dX7_segment_110 ?_
        refine lv_iload_n hx hb dX7_segment_113 rfl (lv_at hl 1 rfl) ?_
        refine lv_topi (fun v113 e_v113 => ?_)
        rw [show (v113 : Int32) = nI y.toInt.toNat from e_v113.trans hy1]
        refine va_iald hx hb hK hP 9 0 rfl rfl (vp_in_nI (show y.toInt.toNat < 152 by omega) (by omega)) dX7_segment_114 ?_
        rw [show (nI y.toInt.toNat : Int32).toNatClampNeg = y.toInt.toNat from nI_clamp (n := y.toInt.toNat) (by omega)]
        exact kreti hx hb hRt hlk hK hP hD hS rfl dX7_segment_115 (⟨by rw [hk9, if_pos rfl, e_52, segV, if_neg (by decide), if_neg (by decide), if_neg (by decide), if_pos rfl, (hseg _ hy3).2.2.2.1], by rw [hk9]⟩)
    · skip
      have hw9 : ¬ (0 ≤ w.toInt ∧ w.toInt ≤ 4) := fun z => hib.mpr z c_35
      have hk9 : segK (ksegs M S) y w = 2 := by rw [segK, if_neg (fun z => z ⟨hy2, by rw [← hmL]; exact hy3⟩), if_pos (by omega)]
      refine lv_iconst (v := 1) hx hb dX7_segment_38 (by decide) ?_
      refine lv_goto (tgt := 43) hx hb dX7_segment_39 (by decide) ?_
      refine kcalli (wc := [(h, .inr (9, [.int 0, .int (nI nA), .int (nI nB), .ref ak, .ref av, .ref bk, .ref bv, .ref br, .ref a_s, .ref a_t, .int (nI mS), .ref g1, .ref g2, .ref g3, .long zl1, .long zl2, .long zl3, .long zl4, .int zpb, .ref pa, .ref ru, .ref tx, .int zln, .int zat, .int zrk, .int zrv, .int zre, .int zwr, .int zrm, .int zrs, .int zis, .int zss, .int zsc, .ref dk, .ref dv, .ref ek, .ref ev, .ref er, .ref es, .ref et]))]) [0] (va_runV (C := RX7) (As := [.int 2, .int 1]) (rest := []) ⟨hx, hb, hml, hown, hts⟩ ((c_X7_fails1 l g h 0 (nI nA) (nI nB) (nI mS) zl1 zl2 zl3 zl4 zpb zln zat zrk zrv zre zwr zrm zrs zis zss zsc ak av bk bv br a_s a_t g1 g2 g3 pa ru tx dk dv ek ev er es et 2) _) (cwV 2 hts gX7_segment_X7_fails rfl rfl rfl (by decide +kernel) ⟨Nat.le_of_ble_eq_true rfl, Nat.le_of_ble_eq_true rfl⟩) (kpreV (wc := [(h, .inr (9, [.int 0, .int (nI nA), .int (nI nB), .ref ak, .ref av, .ref bk, .ref bv, .ref br, .ref a_s, .ref a_t, .int (nI mS), .ref g1, .ref g2, .ref g3, .long zl1, .long zl2, .long zl3, .long zl4, .int zpb, .ref pa, .ref ru, .ref tx, .int zln, .int zat, .int zrk, .int zrv, .int zre, .int zwr, .int zrm, .int zrs, .int zis, .int zss, .int zsc, .ref dk, .ref dv, .ref ek, .ref ev, .ref er, .ref es, .ref et]))]) (ci := 9) hK hP hD hS hA hE [0] rfl rfl rfl rfl) rfl rfl hl.1 rfl (lv_room (Nat.le_of_ble_eq_true rfl)) dX7_segment_43 ⟨Nat.zero_le _, Nat.zero_le _⟩) hP hD hS hA rfl (fun r_6 w_6 H locs hp hP hD hS => ?_)
      obtain ⟨rfl, rfl⟩ := hp
      have hP : va_P g.1 vwCl [(h, .inr (9, [.int 2, .int (nI nA), .int (nI nB), .ref ak, .ref av, .ref bk, .ref bv, .ref br, .ref a_s, .ref a_t, .int (nI mS), .ref g1, .ref g2, .ref g3, .long zl1, .long zl2, .long zl3, .long zl4, .int zpb, .ref pa, .ref ru, .ref tx, .int zln, .int zat, .int zrk, .int zrv, .int zre, .int zwr, .int zrm, .int zrs, .int zis, .int zss, .int zsc, .ref dk, .ref dv, .ref ek, .ref ev, .ref er, .ref es, .ref et])), (ak, .inl (g.2.1.1, 152, .inl fk)), (av, .inl (g.2.1.1, 152, .inl fv)), (bk, .inl (g.2.1.1, 24, .inl ck)), (bv, .inl (g.2.1.1, 24, .inl cv)), (br, .inl (g.2.1.1, 24, .inl cr)), (a_s, .inl (g.2.1.1, 4, .inl fS)), (a_t, .inl (g.2.1.1, 5, .inl fT)), (g1, .inl (g.2.1.1, 152, .inl y1)), (g2, .inl (g.2.1.1, 152, .inl y2)), (g3, .inl (g.2.1.1, 152, .inl y3))] H := hP
      have hD : va_D A [(h, .inr (9, [.int 2, .int (nI nA), .int (nI nB), .ref ak, .ref av, .ref bk, .ref bv, .ref br, .ref a_s, .ref a_t, .int (nI mS), .ref g1, .ref g2, .ref g3, .long zl1, .long zl2, .long zl3, .long zl4, .int zpb, .ref pa, .ref ru, .ref tx, .int zln, .int zat, .int zrk, .int zrv, .int zre, .int zwr, .int zrm, .int zrs, .int zis, .int zss, .int zsc, .ref dk, .ref dv, .ref ek, .ref ev, .ref er, .ref es, .ref et])), (ak, .inl (g.2.1.1, 152, .inl fk)), (av, .inl (g.2.1.1, 152, .inl fv)), (bk, .inl (g.2.1.1, 24, .inl ck)), (bv, .inl (g.2.1.1, 24, .inl cv)), (br, .inl (g.2.1.1, 24, .inl cr)), (a_s, .inl (g.2.1.1, 4, .inl fS)), (a_t, .inl (g.2.1.1, 5, .inl fT)), (g1, .inl (g.2.1.1, 152, .inl y1)), (g2, .inl (g.2.1.1, 152, .inl y2)), (g3, .inl (g.2.1.1, 152, .inl y3))] := hD
      refine lv_if_eq (tgt := 51) hx hb dX7_segment_46 (by decide) (fun c_46 => absurd c_46 (by decide)) (fun c_46 => ?_)
      refine lv_iconst (v := 0) hx hb dX7_segment_49 (by decide) ?_
      exact kreti hx hb hRt hlk hK hP hD hS rfl dX7_segment_50 (⟨by rw [hk9]; rfl, by rw [hk9]⟩)
  · skip
    have hk9 : segK (ksegs M S) y w = 1 := by rw [segK, if_pos (by rw [← hmL]; exact isB_nrng (by omega) c_13)]
    refine lv_iconst (v := 1) hx hb dX7_segment_16 (by decide) ?_
    refine lv_goto (tgt := 21) hx hb dX7_segment_17 (by decide) ?_
    refine kcalli (wc := [(h, .inr (9, [.int zth, .int (nI nA), .int (nI nB), .ref ak, .ref av, .ref bk, .ref bv, .ref br, .ref a_s, .ref a_t, .int (nI mS), .ref g1, .ref g2, .ref g3, .long zl1, .long zl2, .long zl3, .long zl4, .int zpb, .ref pa, .ref ru, .ref tx, .int zln, .int zat, .int zrk, .int zrv, .int zre, .int zwr, .int zrm, .int zrs, .int zis, .int zss, .int zsc, .ref dk, .ref dv, .ref ek, .ref ev, .ref er, .ref es, .ref et]))]) [0] (va_runV (C := RX7) (As := [.int 1, .int 1]) (rest := []) ⟨hx, hb, hml, hown, hts⟩ ((c_X7_fails1 l g h zth (nI nA) (nI nB) (nI mS) zl1 zl2 zl3 zl4 zpb zln zat zrk zrv zre zwr zrm zrs zis zss zsc ak av bk bv br a_s a_t g1 g2 g3 pa ru tx dk dv ek ev er es et 1) _) (cwV 2 hts gX7_segment_X7_fails rfl rfl rfl (by decide +kernel) ⟨Nat.le_of_ble_eq_true rfl, Nat.le_of_ble_eq_true rfl⟩) (kpreV (wc := [(h, .inr (9, [.int zth, .int (nI nA), .int (nI nB), .ref ak, .ref av, .ref bk, .ref bv, .ref br, .ref a_s, .ref a_t, .int (nI mS), .ref g1, .ref g2, .ref g3, .long zl1, .long zl2, .long zl3, .long zl4, .int zpb, .ref pa, .ref ru, .ref tx, .int zln, .int zat, .int zrk, .int zrv, .int zre, .int zwr, .int zrm, .int zrs, .int zis, .int zss, .int zsc, .ref dk, .ref dv, .ref ek, .ref ev, .ref er, .ref es, .ref et]))]) (ci := 9) hK hP hD hS hA hE [0] rfl rfl rfl rfl) rfl rfl hl.1 rfl (lv_room (Nat.le_of_ble_eq_true rfl)) dX7_segment_21 ⟨Nat.zero_le _, Nat.zero_le _⟩) hP hD hS hA rfl (fun r_7 w_7 H locs hp hP hD hS => ?_)
    obtain ⟨rfl, rfl⟩ := hp
    have hP : va_P g.1 vwCl [(h, .inr (9, [.int 1, .int (nI nA), .int (nI nB), .ref ak, .ref av, .ref bk, .ref bv, .ref br, .ref a_s, .ref a_t, .int (nI mS), .ref g1, .ref g2, .ref g3, .long zl1, .long zl2, .long zl3, .long zl4, .int zpb, .ref pa, .ref ru, .ref tx, .int zln, .int zat, .int zrk, .int zrv, .int zre, .int zwr, .int zrm, .int zrs, .int zis, .int zss, .int zsc, .ref dk, .ref dv, .ref ek, .ref ev, .ref er, .ref es, .ref et])), (ak, .inl (g.2.1.1, 152, .inl fk)), (av, .inl (g.2.1.1, 152, .inl fv)), (bk, .inl (g.2.1.1, 24, .inl ck)), (bv, .inl (g.2.1.1, 24, .inl cv)), (br, .inl (g.2.1.1, 24, .inl cr)), (a_s, .inl (g.2.1.1, 4, .inl fS)), (a_t, .inl (g.2.1.1, 5, .inl fT)), (g1, .inl (g.2.1.1, 152, .inl y1)), (g2, .inl (g.2.1.1, 152, .inl y2)), (g3, .inl (g.2.1.1, 152, .inl y3))] H := hP
    have hD : va_D A [(h, .inr (9, [.int 1, .int (nI nA), .int (nI nB), .ref ak, .ref av, .ref bk, .ref bv, .ref br, .ref a_s, .ref a_t, .int (nI mS), .ref g1, .ref g2, .ref g3, .long zl1, .long zl2, .long zl3, .long zl4, .int zpb, .ref pa, .ref ru, .ref tx, .int zln, .int zat, .int zrk, .int zrv, .int zre, .int zwr, .int zrm, .int zrs, .int zis, .int zss, .int zsc, .ref dk, .ref dv, .ref ek, .ref ev, .ref er, .ref es, .ref et])), (ak, .inl (g.2.1.1, 152, .inl fk)), (av, .inl (g.2.1.1, 152, .inl fv)), (bk, .inl (g.2.1.1, 24, .inl ck)), (bv, .inl (g.2.1.1, 24, .inl cv)), (br, .inl (g.2.1.1, 24, .inl cr)), (a_s, .inl (g.2.1.1, 4, .inl fS)), (a_t, .inl (g.2.1.1, 5, .inl fT)), (g1, .inl (g.2.1.1, 152, .inl y1)), (g2, .inl (g.2.1.1, 152, .inl y2)), (g3, .inl (g.2.1.1, 152, .inl y3))] := hD
    refine lv_if_ne (tgt := 49) hx hb dX7_segment_24 (by decide) (fun c_24 => ?_) (fun c_24 => absurd c_24 (by decide))
    refine lv_iconst (v := 0) hx hb dX7_segment_49 (by decide) ?_
    exact kreti hx hb hRt hlk hK hP hD hS rfl dX7_segment_50 (⟨by rw [hk9]; rfl, by rw [hk9]⟩)
set_option maxRecDepth 20000 in
theorem ggX7_segmentOf_X7_isKey : GoodIn wsX7_segmentOf wsX7_isKey := goodIn_r _ [5, 6, 7, 4, 8] (by decide +kernel) (by decide +kernel)
set_option maxRecDepth 20000 in
theorem gX7_segmentOf_X7_isKey : GoodIn wsX7_segmentOf (va_wsS RX7 116 yX7_isKey wsX7_isKey) := goodIn_app (goodIn_of _ (by decide +kernel)) ggX7_segmentOf_X7_isKey
set_option maxRecDepth 20000 in
theorem ggX7_segmentOf_X7_fails : GoodIn wsX7_segmentOf wsX7_fails := goodIn_r _ [12, 13, 21, 22, 23, 24, 25, 26, 27, 28, 29, 30, 31, 32, 33, 34, 35, 36, 37, 38, 39, 40, 41, 42, 43, 44, 45, 46, 47, 48, 49, 50, 51, 52, 53, 54, 55, 56, 57, 58, 59, 60] (by decide +kernel) (by decide +kernel)
set_option maxRecDepth 20000 in
theorem gX7_segmentOf_X7_fails : GoodIn wsX7_segmentOf (wsV RX7 120 RX7 yX7_fails wsX7_fails) := goodIn_app (goodIn_of _ (by decide +kernel)) ggX7_segmentOf_X7_fails
set_option maxRecDepth 20000 in
theorem ggX7_segmentOf_X7_segmentAt : GoodIn wsX7_segmentOf wsX7_segmentAt := goodIn_ca (goodIn_r _ [17, 18, 19, 20, 21, 22, 23, 24, 25, 26, 27, 28, 29, 30, 31, 32, 33, 34, 35, 36, 37, 38, 39, 40, 41, 42, 43, 44, 45, 46, 47, 48, 49, 50, 51, 52, 53, 54, 55, 56, 57, 58, 59, 60] (by decide +kernel) (by decide +kernel)) (goodIn_sub (fun _ h => List.mem_cons_of_mem _ (List.mem_append_right _ h)) (by decide +kernel))
set_option maxRecDepth 20000 in
theorem gX7_segmentOf_X7_segmentAt : GoodIn wsX7_segmentOf (wsV RX7 169 RX7 yX7_segmentAt wsX7_segmentAt) := goodIn_app (goodIn_of _ (by decide +kernel)) ggX7_segmentOf_X7_segmentAt
theorem dX7_segmentOf_0 : decode cX7_segmentOf 0 = .ok (.aload_n 0, 1) := by decide +kernel
theorem dX7_segmentOf_1 : decode cX7_segmentOf 1 = .ok (.iconst 1, 1) := by decide +kernel
theorem dX7_segmentOf_2 : decode cX7_segmentOf 2 = .ok (.iload_n 1, 1) := by decide +kernel
theorem dX7_segmentOf_3 : decode cX7_segmentOf 3 = .ok (.invokestatic 116, 3) := by decide +kernel
theorem dX7_segmentOf_6 : decode cX7_segmentOf 6 = .ok (.ifCond .ne 7, 3) := by decide +kernel
theorem dX7_segmentOf_9 : decode cX7_segmentOf 9 = .ok (.iconst 1, 1) := by decide +kernel
theorem dX7_segmentOf_10 : decode cX7_segmentOf 10 = .ok (.goto 4, 3) := by decide +kernel
theorem dX7_segmentOf_13 : decode cX7_segmentOf 13 = .ok (.iconst 0, 1) := by decide +kernel
theorem dX7_segmentOf_14 : decode cX7_segmentOf 14 = .ok (.invokevirtual 120, 3) := by decide +kernel
theorem dX7_segmentOf_17 : decode cX7_segmentOf 17 = .ok (.ifCond .ne 23, 3) := by decide +kernel
theorem dX7_segmentOf_20 : decode cX7_segmentOf 20 = .ok (.aload_n 0, 1) := by decide +kernel
theorem dX7_segmentOf_21 : decode cX7_segmentOf 21 = .ok (.iconst 2, 1) := by decide +kernel
theorem dX7_segmentOf_22 : decode cX7_segmentOf 22 = .ok (.aload_n 0, 1) := by decide +kernel
theorem dX7_segmentOf_23 : decode cX7_segmentOf 23 = .ok (.getfield 79, 3) := by decide +kernel
theorem dX7_segmentOf_26 : decode cX7_segmentOf 26 = .ok (.ifCond .ne 7, 3) := by decide +kernel
theorem dX7_segmentOf_29 : decode cX7_segmentOf 29 = .ok (.iconst 1, 1) := by decide +kernel
theorem dX7_segmentOf_30 : decode cX7_segmentOf 30 = .ok (.goto 4, 3) := by decide +kernel
theorem dX7_segmentOf_33 : decode cX7_segmentOf 33 = .ok (.iconst 0, 1) := by decide +kernel
theorem dX7_segmentOf_34 : decode cX7_segmentOf 34 = .ok (.invokevirtual 120, 3) := by decide +kernel
theorem dX7_segmentOf_37 : decode cX7_segmentOf 37 = .ok (.ifCond .eq 7, 3) := by decide +kernel
theorem dX7_segmentOf_40 : decode cX7_segmentOf 40 = .ok (.iconst 0, 1) := by decide +kernel
theorem dX7_segmentOf_41 : decode cX7_segmentOf 41 = .ok (.goto 8, 3) := by decide +kernel
theorem dX7_segmentOf_44 : decode cX7_segmentOf 44 = .ok (.aload_n 0, 1) := by decide +kernel
theorem dX7_segmentOf_45 : decode cX7_segmentOf 45 = .ok (.iload_n 1, 1) := by decide +kernel
theorem dX7_segmentOf_46 : decode cX7_segmentOf 46 = .ok (.invokevirtual 169, 3) := by decide +kernel
theorem dX7_segmentOf_49 : decode cX7_segmentOf 49 = .ok (.ireturn, 1) := by decide +kernel
def rm_X7_segmentOf : Room := { frames := 2, cells := 0, slots := 0, locals := 42 }
abbrev p_X7_segmentOf (g : kG) (h : Nat) (zth : Int32) (zl1 : Int64) (zl2 : Int64) (zl3 : Int64) (zl4 : Int64) (zpb : Int32) (zln : Int32) (zat : Int32) (zrk : Int32) (zrv : Int32) (zre : Int32) (zwr : Int32) (zrm : Int32) (zrs : Int32) (zis : Int32) (zss : Int32) (zsc : Int32) (ak : Nat) (av : Nat) (bk : Nat) (bv : Nat) (br : Nat) (a_s : Nat) (a_t : Nat) (g1 : Nat) (g2 : Nat) (g3 : Nat) (pa : Nat) (ru : Nat) (tx : Nat) (dk : Nat) (dv : Nat) (ek : Nat) (ev : Nat) (er : Nat) (es : Nat) (et : Nat) (nA : Nat) (fk : Nat → Int32) (fv : Nat → Int32) (nB : Nat) (ck : Nat → Int32) (cv : Nat → Int32) (cr : Nat → Int32) (fS : Nat → Int32) (fT : Nat → Int32) (mS : Nat) (y1 : Nat → Int32) (y2 : Nat → Int32) (y3 : Nat → Int32) (M : List kE3) (C : List kE3) (S : Nat → Int32) (T : Nat → Int32) (x : Int32) : Int32 → va_W → Prop := fun r w1 => r = (if (sofK M x) = 0 then sofV M S x else 0) ∧ w1 = [(h, .inr (9, [.int (sofK M x), .int (nI nA), .int (nI nB), .ref ak, .ref av, .ref bk, .ref bv, .ref br, .ref a_s, .ref a_t, .int (nI mS), .ref g1, .ref g2, .ref g3, .long zl1, .long zl2, .long zl3, .long zl4, .int zpb, .ref pa, .ref ru, .ref tx, .int zln, .int zat, .int zrk, .int zrv, .int zre, .int zwr, .int zrm, .int zrs, .int zis, .int zss, .int zsc, .ref dk, .ref dv, .ref ek, .ref ev, .ref er, .ref es, .ref et])), (ak, .inl (g.2.1.1, 152, .inl fk)), (av, .inl (g.2.1.1, 152, .inl fv)), (bk, .inl (g.2.1.1, 24, .inl ck)), (bv, .inl (g.2.1.1, 24, .inl cv)), (br, .inl (g.2.1.1, 24, .inl cr)), (a_s, .inl (g.2.1.1, 4, .inl fS)), (a_t, .inl (g.2.1.1, 5, .inl fT)), (g1, .inl (g.2.1.1, 152, .inl y1)), (g2, .inl (g.2.1.1, 152, .inl y2)), (g3, .inl (g.2.1.1, 152, .inl y3))]
set_option maxHeartbeats 4000000 in
set_option maxRecDepth 100000 in
theorem c_X7_segmentOf (l : Launch) (g : kG) (h : Nat) (zth : Int32) (zl1 : Int64) (zl2 : Int64) (zl3 : Int64) (zl4 : Int64) (zpb : Int32) (zln : Int32) (zat : Int32) (zrk : Int32) (zrv : Int32) (zre : Int32) (zwr : Int32) (zrm : Int32) (zrs : Int32) (zis : Int32) (zss : Int32) (zsc : Int32) (ak : Nat) (av : Nat) (bk : Nat) (bv : Nat) (br : Nat) (a_s : Nat) (a_t : Nat) (g1 : Nat) (g2 : Nat) (g3 : Nat) (pa : Nat) (ru : Nat) (tx : Nat) (dk : Nat) (dv : Nat) (ek : Nat) (ev : Nat) (er : Nat) (es : Nat) (et : Nat) (nA : Nat) (fk : Nat → Int32) (fv : Nat → Int32) (nB : Nat) (ck : Nat → Int32) (cv : Nat → Int32) (cr : Nat → Int32) (fS : Nat → Int32) (fT : Nat → Int32) (mS : Nat) (y1 : Nat → Int32) (y2 : Nat → Int32) (y3 : Nat → Int32) (M : List kE3) (C : List kE3) (S : Nat → Int32) (T : Nat → Int32) (x : Int32) (hMX : kMX nA fk fv nB ck cv cr fS fT mS y1 y2 y3 M C S T) : KI l yX7_segmentOf wsX7_segmentOf rm_X7_segmentOf g [.ref h, .int x] [(h, .inr (9, [.int zth, .int (nI nA), .int (nI nB), .ref ak, .ref av, .ref bk, .ref bv, .ref br, .ref a_s, .ref a_t, .int (nI mS), .ref g1, .ref g2, .ref g3, .long zl1, .long zl2, .long zl3, .long zl4, .int zpb, .ref pa, .ref ru, .ref tx, .int zln, .int zat, .int zrk, .int zrv, .int zre, .int zwr, .int zrm, .int zrs, .int zis, .int zss, .int zsc, .ref dk, .ref dv, .ref ek, .ref ev, .ref er, .ref es, .ref et])), (ak, .inl (g.2.1.1, 152, .inl fk)), (av, .inl (g.2.1.1, 152, .inl fv)), (bk, .inl (g.2.1.1, 24, .inl ck)), (bv, .inl (g.2.1.1, 24, .inl cv)), (br, .inl (g.2.1.1, 24, .inl cr)), (a_s, .inl (g.2.1.1, 4, .inl fS)), (a_t, .inl (g.2.1.1, 5, .inl fT)), (g1, .inl (g.2.1.1, 152, .inl y1)), (g2, .inl (g.2.1.1, 152, .inl y2)), (g3, .inl (g.2.1.1, 152, .inl y3))] (p_X7_segmentOf g h zth zl1 zl2 zl3 zl4 zpb zln zat zrk zrv zre zwr zrm zrs zis zss zsc ak av bk bv br a_s a_t g1 g2 g3 pa ru tx dk dv ek ev er es et nA fk fv nB ck cv cr fS fT mS y1 y2 y3 M C S T x) := by
  refine kbodyI (cc := cX7_segmentOf) (n := 2) (k := 11) (own := RX7) (plainFor_of_name (by decide)) rfl rfl rfl rfl ?_
  intro p e s m below meth cd A ls hcx
  obtain ⟨hx, hb, hRt, hml, hts, hown, hlk, hA, hP, hK, hD, hE, hS, hl⟩ := hcx
  have hl : lv_has ls 2 [(0, .ref h), (1, .int x)] := hl
  obtain ⟨hMM, hS4, hT5, hKS, hSGm⟩ := id hMX
  obtain ⟨⟨hM, hC⟩, ⟨hnM, hnC⟩, ⟨hIM, hIC⟩, hlen, hrem⟩ := id hMM
  have hsM : kSo (EL nA fk fv fz0) := by rw [hM]; exact hIM.1
  have hsC : kSo (EL nB ck cv cr) := by rw [hC]; exact hIC.1
  have hnl : nA = M.length := by rw [← hM, EL_len]
  have hcl : nB = C.length := by rw [← hC, EL_len]
  obtain ⟨⟨hS01, hS02⟩, ⟨hS11, hS12⟩, ⟨hS21, hS22⟩, ⟨hS31, hS32⟩⟩ := id hKS
  obtain ⟨v2, v3, hSG⟩ := hSGm
  obtain ⟨hmL, hseg⟩ := SG_seg hSG
  have hasc := kap_asc hM hIM
  have hsl : (ksegs M S).length ≤ M.length - 0 := sg_len (hnl ▸ hasc) (by omega) ⟨by omega, by omega⟩ _ _
  refine lv_aload_n hx hb dX7_segmentOf_0 rfl (lv_at hl 0 rfl) ?_
  refine lv_iconst (v := 1) hx hb dX7_segmentOf_1 (by decide) ?_
  refine lv_iload_n hx hb dX7_segmentOf_2 rfl (lv_at hl 1 rfl) ?_
  refine kcalli (wc := []) [] (va_runS (As := [.int x]) (rest := [.int 1, .ref h]) ⟨hx, hb, hml, hown, hts⟩ ((c_X7_isKey l g x) _) (va_cwS 1 hts gX7_segmentOf_X7_isKey rfl rfl rfl (by decide +kernel) ⟨Nat.le_of_ble_eq_true rfl, Nat.le_of_ble_eq_true rfl⟩) (kpreS (wc := []) hK hP hD hS hA hE [] rfl rfl) rfl rfl hl.1 rfl (lv_room (Nat.le_of_ble_eq_true rfl)) dX7_segmentOf_3 ⟨Nat.zero_le _, Nat.zero_le _⟩) hP hD hS hA rfl (fun r_1 w_1 H locs hp hP hD hS => ?_)
  obtain ⟨rfl, rfl⟩ := hp
  have hP : va_P g.1 vwCl [(h, .inr (9, [.int zth, .int (nI nA), .int (nI nB), .ref ak, .ref av, .ref bk, .ref bv, .ref br, .ref a_s, .ref a_t, .int (nI mS), .ref g1, .ref g2, .ref g3, .long zl1, .long zl2, .long zl3, .long zl4, .int zpb, .ref pa, .ref ru, .ref tx, .int zln, .int zat, .int zrk, .int zrv, .int zre, .int zwr, .int zrm, .int zrs, .int zis, .int zss, .int zsc, .ref dk, .ref dv, .ref ek, .ref ev, .ref er, .ref es, .ref et])), (ak, .inl (g.2.1.1, 152, .inl fk)), (av, .inl (g.2.1.1, 152, .inl fv)), (bk, .inl (g.2.1.1, 24, .inl ck)), (bv, .inl (g.2.1.1, 24, .inl cv)), (br, .inl (g.2.1.1, 24, .inl cr)), (a_s, .inl (g.2.1.1, 4, .inl fS)), (a_t, .inl (g.2.1.1, 5, .inl fT)), (g1, .inl (g.2.1.1, 152, .inl y1)), (g2, .inl (g.2.1.1, 152, .inl y2)), (g3, .inl (g.2.1.1, 152, .inl y3))] H := hP
  have hD : va_D A [(h, .inr (9, [.int zth, .int (nI nA), .int (nI nB), .ref ak, .ref av, .ref bk, .ref bv, .ref br, .ref a_s, .ref a_t, .int (nI mS), .ref g1, .ref g2, .ref g3, .long zl1, .long zl2, .long zl3, .long zl4, .int zpb, .ref pa, .ref ru, .ref tx, .int zln, .int zat, .int zrk, .int zrv, .int zre, .int zwr, .int zrm, .int zrs, .int zis, .int zss, .int zsc, .ref dk, .ref dv, .ref ek, .ref ev, .ref er, .ref es, .ref et])), (ak, .inl (g.2.1.1, 152, .inl fk)), (av, .inl (g.2.1.1, 152, .inl fv)), (bk, .inl (g.2.1.1, 24, .inl ck)), (bv, .inl (g.2.1.1, 24, .inl cv)), (br, .inl (g.2.1.1, 24, .inl cr)), (a_s, .inl (g.2.1.1, 4, .inl fS)), (a_t, .inl (g.2.1.1, 5, .inl fT)), (g1, .inl (g.2.1.1, 152, .inl y1)), (g2, .inl (g.2.1.1, 152, .inl y2)), (g3, .inl (g.2.1.1, 152, .inl y3))] := hD
  refine lv_if_ne (tgt := 13) hx hb dX7_segmentOf_6 (by decide) (fun c_6 => ?_) (fun c_6 => ?_)
  · skip
    have hky : kyB x := of_decide_eq_true ((kbool_ne _).mp c_6)
    refine lv_iconst (v := 0) hx hb dX7_segmentOf_13 (by decide) ?_
    refine kcalli (wc := [(h, .inr (9, [.int zth, .int (nI nA), .int (nI nB), .ref ak, .ref av, .ref bk, .ref bv, .ref br, .ref a_s, .ref a_t, .int (nI mS), .ref g1, .ref g2, .ref g3, .long zl1, .long zl2, .long zl3, .long zl4, .int zpb, .ref pa, .ref ru, .ref tx, .int zln, .int zat, .int zrk, .int zrv, .int zre, .int zwr, .int zrm, .int zrs, .int zis, .int zss, .int zsc, .ref dk, .ref dv, .ref ek, .ref ev, .ref er, .ref es, .ref et]))]) [0] (va_runV (C := RX7) (As := [.int 1, .int 0]) (rest := []) ⟨hx, hb, hml, hown, hts⟩ ((c_X7_fails0 l g h zth (nI nA) (nI nB) (nI mS) zl1 zl2 zl3 zl4 zpb zln zat zrk zrv zre zwr zrm zrs zis zss zsc ak av bk bv br a_s a_t g1 g2 g3 pa ru tx dk dv ek ev er es et 1) _) (cwV 2 hts gX7_segmentOf_X7_fails rfl rfl rfl (by decide +kernel) ⟨Nat.le_of_ble_eq_true rfl, Nat.le_of_ble_eq_true rfl⟩) (kpreV (wc := [(h, .inr (9, [.int zth, .int (nI nA), .int (nI nB), .ref ak, .ref av, .ref bk, .ref bv, .ref br, .ref a_s, .ref a_t, .int (nI mS), .ref g1, .ref g2, .ref g3, .long zl1, .long zl2, .long zl3, .long zl4, .int zpb, .ref pa, .ref ru, .ref tx, .int zln, .int zat, .int zrk, .int zrv, .int zre, .int zwr, .int zrm, .int zrs, .int zis, .int zss, .int zsc, .ref dk, .ref dv, .ref ek, .ref ev, .ref er, .ref es, .ref et]))]) (ci := 9) hK hP hD hS hA hE [0] rfl rfl rfl rfl) rfl rfl hl.1 rfl (lv_room (Nat.le_of_ble_eq_true rfl)) dX7_segmentOf_14 ⟨Nat.zero_le _, Nat.zero_le _⟩) hP hD hS hA rfl (fun r_2 w_2 H locs hp hP hD hS => ?_)
    obtain ⟨rfl, rfl⟩ := hp
    have hP : va_P g.1 vwCl [(h, .inr (9, [.int 0, .int (nI nA), .int (nI nB), .ref ak, .ref av, .ref bk, .ref bv, .ref br, .ref a_s, .ref a_t, .int (nI mS), .ref g1, .ref g2, .ref g3, .long zl1, .long zl2, .long zl3, .long zl4, .int zpb, .ref pa, .ref ru, .ref tx, .int zln, .int zat, .int zrk, .int zrv, .int zre, .int zwr, .int zrm, .int zrs, .int zis, .int zss, .int zsc, .ref dk, .ref dv, .ref ek, .ref ev, .ref er, .ref es, .ref et])), (ak, .inl (g.2.1.1, 152, .inl fk)), (av, .inl (g.2.1.1, 152, .inl fv)), (bk, .inl (g.2.1.1, 24, .inl ck)), (bv, .inl (g.2.1.1, 24, .inl cv)), (br, .inl (g.2.1.1, 24, .inl cr)), (a_s, .inl (g.2.1.1, 4, .inl fS)), (a_t, .inl (g.2.1.1, 5, .inl fT)), (g1, .inl (g.2.1.1, 152, .inl y1)), (g2, .inl (g.2.1.1, 152, .inl y2)), (g3, .inl (g.2.1.1, 152, .inl y3))] H := hP
    have hD : va_D A [(h, .inr (9, [.int 0, .int (nI nA), .int (nI nB), .ref ak, .ref av, .ref bk, .ref bv, .ref br, .ref a_s, .ref a_t, .int (nI mS), .ref g1, .ref g2, .ref g3, .long zl1, .long zl2, .long zl3, .long zl4, .int zpb, .ref pa, .ref ru, .ref tx, .int zln, .int zat, .int zrk, .int zrv, .int zre, .int zwr, .int zrm, .int zrs, .int zis, .int zss, .int zsc, .ref dk, .ref dv, .ref ek, .ref ev, .ref er, .ref es, .ref et])), (ak, .inl (g.2.1.1, 152, .inl fk)), (av, .inl (g.2.1.1, 152, .inl fv)), (bk, .inl (g.2.1.1, 24, .inl ck)), (bv, .inl (g.2.1.1, 24, .inl cv)), (br, .inl (g.2.1.1, 24, .inl cr)), (a_s, .inl (g.2.1.1, 4, .inl fS)), (a_t, .inl (g.2.1.1, 5, .inl fT)), (g1, .inl (g.2.1.1, 152, .inl y1)), (g2, .inl (g.2.1.1, 152, .inl y2)), (g3, .inl (g.2.1.1, 152, .inl y3))] := hD
    refine lv_if_ne (tgt := 40) hx hb dX7_segmentOf_17 (by decide) (fun c_17 => absurd c_17 (fun z => z rfl)) (fun c_17 => ?_)
    refine lv_aload_n hx hb dX7_segmentOf_20 rfl (lv_at hl 0 rfl) ?_
    refine lv_iconst (v := 2) hx hb dX7_segmentOf_21 (by decide) ?_
    refine lv_aload_n hx hb dX7_segmentOf_22 rfl (lv_at hl 0 rfl) ?_
    refine va_get (D := g.1) (ci := 9) (v := .int (nI nA)) (C := RX7) (T := TX7) (N := 40) hx hb hts (by decide +kernel) hown hK hP 0 rfl rfl 1 (by decide) (hts (.fieldLink RX7 79 "LearnedIndexModel" "size" "I") (by decide +kernel)) (fun _ h9 => h9) rfl dX7_segmentOf_23 ?_
    refine lv_if_ne (tgt := 33) hx hb dX7_segmentOf_26 (by decide) (fun c_26 => ?_) (fun c_26 => ?_)
    · skip
      have hne : 0 < M.length := by rw [← hnl]; exact Nat.pos_of_ne_zero (fun z => c_26 (by rw [z]; rfl))
      have hk9 : sofK M x = 0 := by rw [sofK, if_neg (fun z => z hky), if_neg (by omega)]
      refine lv_iconst (v := 0) hx hb dX7_segmentOf_33 (by decide) ?_
      refine kcalli (wc := [(h, .inr (9, [.int 0, .int (nI nA), .int (nI nB), .ref ak, .ref av, .ref bk, .ref bv, .ref br, .ref a_s, .ref a_t, .int (nI mS), .ref g1, .ref g2, .ref g3, .long zl1, .long zl2, .long zl3, .long zl4, .int zpb, .ref pa, .ref ru, .ref tx, .int zln, .int zat, .int zrk, .int zrv, .int zre, .int zwr, .int zrm, .int zrs, .int zis, .int zss, .int zsc, .ref dk, .ref dv, .ref ek, .ref ev, .ref er, .ref es, .ref et]))]) [0] (va_runV (C := RX7) (As := [.int 2, .int 0]) (rest := []) ⟨hx, hb, hml, hown, hts⟩ ((c_X7_fails0 l g h 0 (nI nA) (nI nB) (nI mS) zl1 zl2 zl3 zl4 zpb zln zat zrk zrv zre zwr zrm zrs zis zss zsc ak av bk bv br a_s a_t g1 g2 g3 pa ru tx dk dv ek ev er es et 2) _) (cwV 2 hts gX7_segmentOf_X7_fails rfl rfl rfl (by decide +kernel) ⟨Nat.le_of_ble_eq_true rfl, Nat.le_of_ble_eq_true rfl⟩) (kpreV (wc := [(h, .inr (9, [.int 0, .int (nI nA), .int (nI nB), .ref ak, .ref av, .ref bk, .ref bv, .ref br, .ref a_s, .ref a_t, .int (nI mS), .ref g1, .ref g2, .ref g3, .long zl1, .long zl2, .long zl3, .long zl4, .int zpb, .ref pa, .ref ru, .ref tx, .int zln, .int zat, .int zrk, .int zrv, .int zre, .int zwr, .int zrm, .int zrs, .int zis, .int zss, .int zsc, .ref dk, .ref dv, .ref ek, .ref ev, .ref er, .ref es, .ref et]))]) (ci := 9) hK hP hD hS hA hE [0] rfl rfl rfl rfl) rfl rfl hl.1 rfl (lv_room (Nat.le_of_ble_eq_true rfl)) dX7_segmentOf_34 ⟨Nat.zero_le _, Nat.zero_le _⟩) hP hD hS hA rfl (fun r_3 w_3 H locs hp hP hD hS => ?_)
      obtain ⟨rfl, rfl⟩ := hp
      have hP : va_P g.1 vwCl [(h, .inr (9, [.int 0, .int (nI nA), .int (nI nB), .ref ak, .ref av, .ref bk, .ref bv, .ref br, .ref a_s, .ref a_t, .int (nI mS), .ref g1, .ref g2, .ref g3, .long zl1, .long zl2, .long zl3, .long zl4, .int zpb, .ref pa, .ref ru, .ref tx, .int zln, .int zat, .int zrk, .int zrv, .int zre, .int zwr, .int zrm, .int zrs, .int zis, .int zss, .int zsc, .ref dk, .ref dv, .ref ek, .ref ev, .ref er, .ref es, .ref et])), (ak, .inl (g.2.1.1, 152, .inl fk)), (av, .inl (g.2.1.1, 152, .inl fv)), (bk, .inl (g.2.1.1, 24, .inl ck)), (bv, .inl (g.2.1.1, 24, .inl cv)), (br, .inl (g.2.1.1, 24, .inl cr)), (a_s, .inl (g.2.1.1, 4, .inl fS)), (a_t, .inl (g.2.1.1, 5, .inl fT)), (g1, .inl (g.2.1.1, 152, .inl y1)), (g2, .inl (g.2.1.1, 152, .inl y2)), (g3, .inl (g.2.1.1, 152, .inl y3))] H := hP
      have hD : va_D A [(h, .inr (9, [.int 0, .int (nI nA), .int (nI nB), .ref ak, .ref av, .ref bk, .ref bv, .ref br, .ref a_s, .ref a_t, .int (nI mS), .ref g1, .ref g2, .ref g3, .long zl1, .long zl2, .long zl3, .long zl4, .int zpb, .ref pa, .ref ru, .ref tx, .int zln, .int zat, .int zrk, .int zrv, .int zre, .int zwr, .int zrm, .int zrs, .int zis, .int zss, .int zsc, .ref dk, .ref dv, .ref ek, .ref ev, .ref er, .ref es, .ref et])), (ak, .inl (g.2.1.1, 152, .inl fk)), (av, .inl (g.2.1.1, 152, .inl fv)), (bk, .inl (g.2.1.1, 24, .inl ck)), (bv, .inl (g.2.1.1, 24, .inl cv)), (br, .inl (g.2.1.1, 24, .inl cr)), (a_s, .inl (g.2.1.1, 4, .inl fS)), (a_t, .inl (g.2.1.1, 5, .inl fT)), (g1, .inl (g.2.1.1, 152, .inl y1)), (g2, .inl (g.2.1.1, 152, .inl y2)), (g3, .inl (g.2.1.1, 152, .inl y3))] := hD
      refine lv_if_eq (tgt := 44) hx hb dX7_segmentOf_37 (by decide) (fun c_37 => ?_) (fun c_37 => absurd (by decide) c_37)
      refine lv_aload_n hx hb dX7_segmentOf_44 rfl (lv_at hl 0 rfl) ?_
      refine lv_iload_n hx hb dX7_segmentOf_45 rfl (lv_at hl 1 rfl) ?_
      refine kcalli (wc := [(h, .inr (9, [.int 0, .int (nI nA), .int (nI nB), .ref ak, .ref av, .ref bk, .ref bv, .ref br, .ref a_s, .ref a_t, .int (nI mS), .ref g1, .ref g2, .ref g3, .long zl1, .long zl2, .long zl3, .long zl4, .int zpb, .ref pa, .ref ru, .ref tx, .int zln, .int zat, .int zrk, .int zrv, .int zre, .int zwr, .int zrm, .int zrs, .int zis, .int zss, .int zsc, .ref dk, .ref dv, .ref ek, .ref ev, .ref er, .ref es, .ref et])), (ak, .inl (g.2.1.1, 152, .inl fk)), (av, .inl (g.2.1.1, 152, .inl fv)), (bk, .inl (g.2.1.1, 24, .inl ck)), (bv, .inl (g.2.1.1, 24, .inl cv)), (br, .inl (g.2.1.1, 24, .inl cr)), (a_s, .inl (g.2.1.1, 4, .inl fS)), (a_t, .inl (g.2.1.1, 5, .inl fT)), (g1, .inl (g.2.1.1, 152, .inl y1)), (g2, .inl (g.2.1.1, 152, .inl y2)), (g3, .inl (g.2.1.1, 152, .inl y3))]) [0, 1, 2, 3, 4, 5, 6, 7, 8, 9, 10] (va_runV (C := RX7) (As := [.int x]) (rest := []) ⟨hx, hb, hml, hown, hts⟩ ((c_X7_segmentAt l g h 0 zl1 zl2 zl3 zl4 zpb zln zat zrk zrv zre zwr zrm zrs zis zss zsc ak av bk bv br a_s a_t g1 g2 g3 pa ru tx dk dv ek ev er es et nA fk fv nB ck cv cr fS fT mS y1 y2 y3 M C S T x hMX) _) (cwV 1 hts gX7_segmentOf_X7_segmentAt rfl rfl rfl (by decide +kernel) ⟨Nat.le_of_ble_eq_true rfl, Nat.le_of_ble_eq_true rfl⟩) (kpreV (wc := [(h, .inr (9, [.int 0, .int (nI nA), .int (nI nB), .ref ak, .ref av, .ref bk, .ref bv, .ref br, .ref a_s, .ref a_t, .int (nI mS), .ref g1, .ref g2, .ref g3, .long zl1, .long zl2, .long zl3, .long zl4, .int zpb, .ref pa, .ref ru, .ref tx, .int zln, .int zat, .int zrk, .int zrv, .int zre, .int zwr, .int zrm, .int zrs, .int zis, .int zss, .int zsc, .ref dk, .ref dv, .ref ek, .ref ev, .ref er, .ref es, .ref et])), (ak, .inl (g.2.1.1, 152, .inl fk)), (av, .inl (g.2.1.1, 152, .inl fv)), (bk, .inl (g.2.1.1, 24, .inl ck)), (bv, .inl (g.2.1.1, 24, .inl cv)), (br, .inl (g.2.1.1, 24, .inl cr)), (a_s, .inl (g.2.1.1, 4, .inl fS)), (a_t, .inl (g.2.1.1, 5, .inl fT)), (g1, .inl (g.2.1.1, 152, .inl y1)), (g2, .inl (g.2.1.1, 152, .inl y2)), (g3, .inl (g.2.1.1, 152, .inl y3))]) (ci := 9) hK hP hD hS hA hE [0, 1, 2, 3, 4, 5, 6, 7, 8, 9, 10] rfl rfl rfl rfl) rfl rfl hl.1 rfl (lv_room (Nat.le_of_ble_eq_true rfl)) dX7_segmentOf_46 ⟨Nat.zero_le _, Nat.zero_le _⟩) hP hD hS hA rfl (fun r_4 w_4 H locs hp hP hD hS => ?_)
      obtain ⟨rfl, rfl⟩ := hp
      have hP : va_P g.1 vwCl [(h, .inr (9, [.int 0, .int (nI nA), .int (nI nB), .ref ak, .ref av, .ref bk, .ref bv, .ref br, .ref a_s, .ref a_t, .int (nI mS), .ref g1, .ref g2, .ref g3, .long zl1, .long zl2, .long zl3, .long zl4, .int zpb, .ref pa, .ref ru, .ref tx, .int zln, .int zat, .int zrk, .int zrv, .int zre, .int zwr, .int zrm, .int zrs, .int zis, .int zss, .int zsc, .ref dk, .ref dv, .ref ek, .ref ev, .ref er, .ref es, .ref et])), (ak, .inl (g.2.1.1, 152, .inl fk)), (av, .inl (g.2.1.1, 152, .inl fv)), (bk, .inl (g.2.1.1, 24, .inl ck)), (bv, .inl (g.2.1.1, 24, .inl cv)), (br, .inl (g.2.1.1, 24, .inl cr)), (a_s, .inl (g.2.1.1, 4, .inl fS)), (a_t, .inl (g.2.1.1, 5, .inl fT)), (g1, .inl (g.2.1.1, 152, .inl y1)), (g2, .inl (g.2.1.1, 152, .inl y2)), (g3, .inl (g.2.1.1, 152, .inl y3))] H := hP
      have hD : va_D A [(h, .inr (9, [.int 0, .int (nI nA), .int (nI nB), .ref ak, .ref av, .ref bk, .ref bv, .ref br, .ref a_s, .ref a_t, .int (nI mS), .ref g1, .ref g2, .ref g3, .long zl1, .long zl2, .long zl3, .long zl4, .int zpb, .ref pa, .ref ru, .ref tx, .int zln, .int zat, .int zrk, .int zrv, .int zre, .int zwr, .int zrm, .int zrs, .int zis, .int zss, .int zsc, .ref dk, .ref dv, .ref ek, .ref ev, .ref er, .ref es, .ref et])), (ak, .inl (g.2.1.1, 152, .inl fk)), (av, .inl (g.2.1.1, 152, .inl fv)), (bk, .inl (g.2.1.1, 24, .inl ck)), (bv, .inl (g.2.1.1, 24, .inl cv)), (br, .inl (g.2.1.1, 24, .inl cr)), (a_s, .inl (g.2.1.1, 4, .inl fS)), (a_t, .inl (g.2.1.1, 5, .inl fT)), (g1, .inl (g.2.1.1, 152, .inl y1)), (g2, .inl (g.2.1.1, 152, .inl y2)), (g3, .inl (g.2.1.1, 152, .inl y3))] := hD
      exact kreti hx hb hRt hlk hK hP hD hS rfl dX7_segmentOf_49 (by first | exact ⟨by rw [hk9]; rfl, by rw [hk9]⟩ | exact ⟨by rw [hk9, if_pos rfl, sofV], by rw [hk9]⟩)
    · skip
      have hn0 : M.length = 0 := by rw [← hnl]; exact Decidable.byContradiction (fun z => nI_ne0 (Nat.pos_of_ne_zero z) (by omega) c_26)
      have hk9 : sofK M x = 2 := by rw [sofK, if_neg (fun z => z hky), if_pos hn0]
      refine lv_iconst (v := 1) hx hb dX7_segmentOf_29 (by decide) ?_
      refine lv_goto (tgt := 34) hx hb dX7_segmentOf_30 (by decide) ?_
      refine kcalli (wc := [(h, .inr (9, [.int 0, .int (nI nA), .int (nI nB), .ref ak, .ref av, .ref bk, .ref bv, .ref br, .ref a_s, .ref a_t, .int (nI mS), .ref g1, .ref g2, .ref g3, .long zl1, .long zl2, .long zl3, .long zl4, .int zpb, .ref pa, .ref ru, .ref tx, .int zln, .int zat, .int zrk, .int zrv, .int zre, .int zwr, .int zrm, .int zrs, .int zis, .int zss, .int zsc, .ref dk, .ref dv, .ref ek, .ref ev, .ref er, .ref es, .ref et]))]) [0] (va_runV (C := RX7) (As := [.int 2, .int 1]) (rest := []) ⟨hx, hb, hml, hown, hts⟩ ((c_X7_fails1 l g h 0 (nI nA) (nI nB) (nI mS) zl1 zl2 zl3 zl4 zpb zln zat zrk zrv zre zwr zrm zrs zis zss zsc ak av bk bv br a_s a_t g1 g2 g3 pa ru tx dk dv ek ev er es et 2) _) (cwV 2 hts gX7_segmentOf_X7_fails rfl rfl rfl (by decide +kernel) ⟨Nat.le_of_ble_eq_true rfl, Nat.le_of_ble_eq_true rfl⟩) (kpreV (wc := [(h, .inr (9, [.int 0, .int (nI nA), .int (nI nB), .ref ak, .ref av, .ref bk, .ref bv, .ref br, .ref a_s, .ref a_t, .int (nI mS), .ref g1, .ref g2, .ref g3, .long zl1, .long zl2, .long zl3, .long zl4, .int zpb, .ref pa, .ref ru, .ref tx, .int zln, .int zat, .int zrk, .int zrv, .int zre, .int zwr, .int zrm, .int zrs, .int zis, .int zss, .int zsc, .ref dk, .ref dv, .ref ek, .ref ev, .ref er, .ref es, .ref et]))]) (ci := 9) hK hP hD hS hA hE [0] rfl rfl rfl rfl) rfl rfl hl.1 rfl (lv_room (Nat.le_of_ble_eq_true rfl)) dX7_segmentOf_34 ⟨Nat.zero_le _, Nat.zero_le _⟩) hP hD hS hA rfl (fun r_5 w_5 H locs hp hP hD hS => ?_)
      obtain ⟨rfl, rfl⟩ := hp
      have hP : va_P g.1 vwCl [(h, .inr (9, [.int 2, .int (nI nA), .int (nI nB), .ref ak, .ref av, .ref bk, .ref bv, .ref br, .ref a_s, .ref a_t, .int (nI mS), .ref g1, .ref g2, .ref g3, .long zl1, .long zl2, .long zl3, .long zl4, .int zpb, .ref pa, .ref ru, .ref tx, .int zln, .int zat, .int zrk, .int zrv, .int zre, .int zwr, .int zrm, .int zrs, .int zis, .int zss, .int zsc, .ref dk, .ref dv, .ref ek, .ref ev, .ref er, .ref es, .ref et])), (ak, .inl (g.2.1.1, 152, .inl fk)), (av, .inl (g.2.1.1, 152, .inl fv)), (bk, .inl (g.2.1.1, 24, .inl ck)), (bv, .inl (g.2.1.1, 24, .inl cv)), (br, .inl (g.2.1.1, 24, .inl cr)), (a_s, .inl (g.2.1.1, 4, .inl fS)), (a_t, .inl (g.2.1.1, 5, .inl fT)), (g1, .inl (g.2.1.1, 152, .inl y1)), (g2, .inl (g.2.1.1, 152, .inl y2)), (g3, .inl (g.2.1.1, 152, .inl y3))] H := hP
      have hD : va_D A [(h, .inr (9, [.int 2, .int (nI nA), .int (nI nB), .ref ak, .ref av, .ref bk, .ref bv, .ref br, .ref a_s, .ref a_t, .int (nI mS), .ref g1, .ref g2, .ref g3, .long zl1, .long zl2, .long zl3, .long zl4, .int zpb, .ref pa, .ref ru, .ref tx, .int zln, .int zat, .int zrk, .int zrv, .int zre, .int zwr, .int zrm, .int zrs, .int zis, .int zss, .int zsc, .ref dk, .ref dv, .ref ek, .ref ev, .ref er, .ref es, .ref et])), (ak, .inl (g.2.1.1, 152, .inl fk)), (av, .inl (g.2.1.1, 152, .inl fv)), (bk, .inl (g.2.1.1, 24, .inl ck)), (bv, .inl (g.2.1.1, 24, .inl cv)), (br, .inl (g.2.1.1, 24, .inl cr)), (a_s, .inl (g.2.1.1, 4, .inl fS)), (a_t, .inl (g.2.1.1, 5, .inl fT)), (g1, .inl (g.2.1.1, 152, .inl y1)), (g2, .inl (g.2.1.1, 152, .inl y2)), (g3, .inl (g.2.1.1, 152, .inl y3))] := hD
      refine lv_if_eq (tgt := 44) hx hb dX7_segmentOf_37 (by decide) (fun c_37 => absurd c_37 (by decide)) (fun c_37 => ?_)
      refine lv_iconst (v := 0) hx hb dX7_segmentOf_40 (by decide) ?_
      refine lv_goto (tgt := 49) hx hb dX7_segmentOf_41 (by decide) ?_
      exact kreti hx hb hRt hlk hK hP hD hS rfl dX7_segmentOf_49 (by first | exact ⟨by rw [hk9]; rfl, by rw [hk9]⟩ | exact ⟨by rw [hk9, if_pos rfl, sofV], by rw [hk9]⟩)
  · skip
    have hky : ¬ kyB x := of_decide_eq_false ((kbool_eq _).mp c_6)
    have hk9 : sofK M x = 1 := by rw [sofK, if_pos hky]
    refine lv_iconst (v := 1) hx hb dX7_segmentOf_9 (by decide) ?_
    refine lv_goto (tgt := 14) hx hb dX7_segmentOf_10 (by decide) ?_
    refine kcalli (wc := [(h, .inr (9, [.int zth, .int (nI nA), .int (nI nB), .ref ak, .ref av, .ref bk, .ref bv, .ref br, .ref a_s, .ref a_t, .int (nI mS), .ref g1, .ref g2, .ref g3, .long zl1, .long zl2, .long zl3, .long zl4, .int zpb, .ref pa, .ref ru, .ref tx, .int zln, .int zat, .int zrk, .int zrv, .int zre, .int zwr, .int zrm, .int zrs, .int zis, .int zss, .int zsc, .ref dk, .ref dv, .ref ek, .ref ev, .ref er, .ref es, .ref et]))]) [0] (va_runV (C := RX7) (As := [.int 1, .int 1]) (rest := []) ⟨hx, hb, hml, hown, hts⟩ ((c_X7_fails1 l g h zth (nI nA) (nI nB) (nI mS) zl1 zl2 zl3 zl4 zpb zln zat zrk zrv zre zwr zrm zrs zis zss zsc ak av bk bv br a_s a_t g1 g2 g3 pa ru tx dk dv ek ev er es et 1) _) (cwV 2 hts gX7_segmentOf_X7_fails rfl rfl rfl (by decide +kernel) ⟨Nat.le_of_ble_eq_true rfl, Nat.le_of_ble_eq_true rfl⟩) (kpreV (wc := [(h, .inr (9, [.int zth, .int (nI nA), .int (nI nB), .ref ak, .ref av, .ref bk, .ref bv, .ref br, .ref a_s, .ref a_t, .int (nI mS), .ref g1, .ref g2, .ref g3, .long zl1, .long zl2, .long zl3, .long zl4, .int zpb, .ref pa, .ref ru, .ref tx, .int zln, .int zat, .int zrk, .int zrv, .int zre, .int zwr, .int zrm, .int zrs, .int zis, .int zss, .int zsc, .ref dk, .ref dv, .ref ek, .ref ev, .ref er, .ref es, .ref et]))]) (ci := 9) hK hP hD hS hA hE [0] rfl rfl rfl rfl) rfl rfl hl.1 rfl (lv_room (Nat.le_of_ble_eq_true rfl)) dX7_segmentOf_14 ⟨Nat.zero_le _, Nat.zero_le _⟩) hP hD hS hA rfl (fun r_6 w_6 H locs hp hP hD hS => ?_)
    obtain ⟨rfl, rfl⟩ := hp
    have hP : va_P g.1 vwCl [(h, .inr (9, [.int 1, .int (nI nA), .int (nI nB), .ref ak, .ref av, .ref bk, .ref bv, .ref br, .ref a_s, .ref a_t, .int (nI mS), .ref g1, .ref g2, .ref g3, .long zl1, .long zl2, .long zl3, .long zl4, .int zpb, .ref pa, .ref ru, .ref tx, .int zln, .int zat, .int zrk, .int zrv, .int zre, .int zwr, .int zrm, .int zrs, .int zis, .int zss, .int zsc, .ref dk, .ref dv, .ref ek, .ref ev, .ref er, .ref es, .ref et])), (ak, .inl (g.2.1.1, 152, .inl fk)), (av, .inl (g.2.1.1, 152, .inl fv)), (bk, .inl (g.2.1.1, 24, .inl ck)), (bv, .inl (g.2.1.1, 24, .inl cv)), (br, .inl (g.2.1.1, 24, .inl cr)), (a_s, .inl (g.2.1.1, 4, .inl fS)), (a_t, .inl (g.2.1.1, 5, .inl fT)), (g1, .inl (g.2.1.1, 152, .inl y1)), (g2, .inl (g.2.1.1, 152, .inl y2)), (g3, .inl (g.2.1.1, 152, .inl y3))] H := hP
    have hD : va_D A [(h, .inr (9, [.int 1, .int (nI nA), .int (nI nB), .ref ak, .ref av, .ref bk, .ref bv, .ref br, .ref a_s, .ref a_t, .int (nI mS), .ref g1, .ref g2, .ref g3, .long zl1, .long zl2, .long zl3, .long zl4, .int zpb, .ref pa, .ref ru, .ref tx, .int zln, .int zat, .int zrk, .int zrv, .int zre, .int zwr, .int zrm, .int zrs, .int zis, .int zss, .int zsc, .ref dk, .ref dv, .ref ek, .ref ev, .ref er, .ref es, .ref et])), (ak, .inl (g.2.1.1, 152, .inl fk)), (av, .inl (g.2.1.1, 152, .inl fv)), (bk, .inl (g.2.1.1, 24, .inl ck)), (bv, .inl (g.2.1.1, 24, .inl cv)), (br, .inl (g.2.1.1, 24, .inl cr)), (a_s, .inl (g.2.1.1, 4, .inl fS)), (a_t, .inl (g.2.1.1, 5, .inl fT)), (g1, .inl (g.2.1.1, 152, .inl y1)), (g2, .inl (g.2.1.1, 152, .inl y2)), (g3, .inl (g.2.1.1, 152, .inl y3))] := hD
    refine lv_if_ne (tgt := 40) hx hb dX7_segmentOf_17 (by decide) (fun c_17 => ?_) (fun c_17 => absurd c_17 (by decide))
    refine lv_iconst (v := 0) hx hb dX7_segmentOf_40 (by decide) ?_
    refine lv_goto (tgt := 49) hx hb dX7_segmentOf_41 (by decide) ?_
    exact kreti hx hb hRt hlk hK hP hD hS rfl dX7_segmentOf_49 (by first | exact ⟨by rw [hk9]; rfl, by rw [hk9]⟩ | exact ⟨by rw [hk9, if_pos rfl, sofV], by rw [hk9]⟩)
