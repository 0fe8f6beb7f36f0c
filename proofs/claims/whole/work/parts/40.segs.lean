/-! ===== the model: segments, predictions, searches ===== -/
theorem sgAt_0 (a : Nat × Nat × Nat × Nat) (L : List (Nat × Nat × Nat × Nat)) : sgAt (a :: L) 0 = a := rfl
theorem sgAt_s (a : Nat × Nat × Nat × Nat) (L : List (Nat × Nat × Nat × Nat)) (i : Nat) : sgAt (a :: L) (i + 1) = sgAt L i := by simp [sgAt]
theorem sg_hd {κ : Nat → Int} {n : Nat} {β : Int} : ∀ (k f : Nat), 0 < (sg κ n β k f).length → (sgAt (sg κ n β k f) 0).1 = f
  | 0, f, h => by simp [sg] at h
  | k + 1, f, h => by
    rw [sg_s] at h ⊢
    by_cases hf : f < n
    · rw [if_pos hf, sgAt_0]
    · rw [if_neg hf] at h; simp at h
theorem sg_chn {κ : Nat → Int} {n : Nat} {β : Int} (h : kasc κ n) (hn : n ≤ 160) (hβ : 0 ≤ β ∧ β ≤ 8) : ∀ (k f i : Nat), n ≤ f + k → i < (sg κ n β k f).length → (sgAt (sg κ n β k f) i).2.1 + 1 = if i + 1 < (sg κ n β k f).length then (sgAt (sg κ n β k f) (i + 1)).1 else n
  | 0, f, i, _, hi => by simp [sg] at hi
  | k + 1, f, i, hk, hi => by
    rw [sg_s] at hi ⊢
    by_cases hf : f < n
    · rw [if_pos hf] at hi ⊢
      have hb := (gw0_bd h hn hβ hf).1
      rw [List.length_cons] at hi ⊢
      cases i with
      | zero =>
        rw [sgAt_0]
        by_cases c : 0 < (sg κ n β k ((gw0 κ n f β).1 + 1)).length
        · rw [if_pos (by omega), sgAt_s, sg_hd _ _ c]
        · rw [if_neg (by omega)]
          have : ¬ (gw0 κ n f β).1 + 1 < n := by
            intro z
            apply c
            obtain ⟨k2, rfl⟩ : ∃ k2, k = k2 + 1 := ⟨k - 1, by omega⟩
            rw [sg_s, if_pos z, List.length_cons]; omega
          show (gw0 κ n f β).1 + 1 = n
          omega
      | succ i =>
        rw [sgAt_s, sgAt_s, sg_chn h hn hβ k _ i (by omega) (by omega)]
        by_cases c : i + 1 < (sg κ n β k ((gw0 κ n f β).1 + 1)).length
        · rw [if_pos c, if_pos (by omega)]
        · rw [if_neg c, if_neg (by omega)]
    · rw [if_neg hf] at hi; simp at hi
theorem kL_div {u b : Int} (h : B3 u) (hb : 0 < b ∧ b ≤ 10000) : kL u / kL b = kL (u.tdiv b) := by
  have e1 := kL_toInt (x := u) (by omega) (by omega)
  have e2 := kL_toInt (x := b) (by omega) (by omega)
  have e3 : (kL u / kL b).toInt = u.tdiv b := by
    rw [Int64.toInt_div_of_ne_left _ _ (by
      intro h
      have := congrArg Int64.toInt h
      rw [e1, Int64.toInt_minValue] at this
      omega), e1, e2]
  rw [← e3]; exact (Int64.ofInt_toInt _).symm
theorem kL_rem {u b : Int} (h : B3 u) (hb : 0 < b ∧ b ≤ 10000) : kL u - kL u / kL b * kL b = kL (u.tmod b) := by
  have h1 := Int.mul_tdiv_add_tmod u b
  have h2 : u.tdiv b * b = b * u.tdiv b := Int.mul_comm _ _
  rw [kL_div h hb, kL_mul, kL_sub]
  congr 1
  omega
theorem kL_ne0 {b : Int} (hb : 0 < b ∧ b ≤ 10000) : ¬ kL b = 0 := by
  intro z
  have e2 := kL_toInt (x := b) (by omega) (by omega)
  rw [z] at e2
  have : (0 : Int64).toInt = 0 := by decide
  omega
theorem tmod_B3 {u b : Int} (hb : 0 < b ∧ b ≤ 10000) : B3 (u.tmod b) := by
  have g3 := Int.tmod_lt_of_pos u hb.1
  have g1 : (-u).tmod b = -(u.tmod b) := Int.neg_tmod u b
  have g4 := Int.tmod_lt_of_pos (-u) hb.1
  unfold B3
  omega
theorem kfl_ge {u b : Int} (hb : 0 < b) (h : 0 ≤ u.tmod b) : u / b = u.tdiv b := by
  rcases Int.lt_or_le u 0 with c | c
  · have h1 := Int.mul_tdiv_add_tmod u b
    have g1 : (-u).tmod b = -(u.tmod b) := Int.neg_tmod u b
    have g2 := Int.tmod_nonneg (a := -u) b (by omega)
    have e : u.tdiv b * b = b * u.tdiv b := Int.mul_comm _ _
    rw [kfloor_neg c hb, if_pos (by omega)]
  · exact (kfloor_pos c).symm
theorem kfl_lt {u b : Int} (hb : 0 < b) (h : ¬ 0 ≤ u.tmod b) : u / b = u.tdiv b - 1 := by
  rcases Int.lt_or_le u 0 with c | c
  · have h1 := Int.mul_tdiv_add_tmod u b
    have e : u.tdiv b * b = b * u.tdiv b := Int.mul_comm _ _
    rw [kfloor_neg c hb, if_neg (by omega)]
  · exact absurd (Int.tmod_nonneg b c) h
theorem kI_xs (x : Int32) (k : Int) : x - kI k = kI (x.toInt - k) := by
  rw [← kI_sub, ← kI_of x]
theorem kpr_q {f j a b : Nat} {kf x q : Int} (hq : q = ((a : Int) * (x - kf)) / (b : Int)) : kpr f j a b kf x = (min (max ((f : Int) + q) (f : Int)) (j : Int)).toNat := by subst hq; rfl
/-- the probes as the model's field holds them -/
def kPr (fp : Nat → Int32) (P : List Nat) : Prop := ∀ j, j < P.length → fp j = nI ((P[j]?).getD 0)
theorem kPr_nil (fp : Nat → Int32) : kPr fp [] := fun j hj => absurd hj (Nat.not_lt_zero j)
theorem kPr_snoc {fp : Nat → Int32} {P : List Nat} {m : Nat} (h : kPr fp P) : kPr (upd fp P.length (nI m)) (P ++ [m]) := by
  intro j hj
  rw [List.length_append, List.length_singleton] at hj
  by_cases c : j = P.length
  · subst c; simp [upd]
  · rw [List.getElem?_append_left (by omega), ← h j (by omega)]; simp [upd, c]
theorem PBS_ok {M : List kE3} {S : Nat → Int32} (hI : kIv M) (hn : M.length ≤ 160) (hS : kSt S) (x : Int32) : (PBS M S x).length ≤ 18 ∧ ∀ q ∈ PBS M S x, q < M.length := by
  by_cases h0 : M.length = 0
  · rw [PBS, if_pos h0]; exact ⟨by simp, fun q hq => by cases hq⟩
  · have h1 := PRD_lt hI hn hS (Nat.pos_of_ne_zero h0) x
    have hpos : 0 < (ksegs M S).length := sgs_pos (Nat.pos_of_ne_zero h0)
    have hasc : kasc (kap M) M.length := kap_asc (n := M.length) (fk := gkey M) (fv := gval M) (fr := gflg M) (EL_eq rfl (fun j hj => by simp [gkey, gval, gflg, hj])) hI
    obtain ⟨⟨s1, s2⟩, -⟩ := hS
    have hok := sg_ok hasc hn ⟨by omega, by omega⟩ _ _ _ (sgAt_mem (L := ksegs M S) (i := pidx (kap M) (ksegs M S) x) (kplc_lt _ _ _ hpos))
    have hw := kwin h1.2 (β := (S 0).toInt) ⟨by omega, by omega⟩
    rw [PBS, if_neg h0]
    have hl : ∀ (Q : Nat → Int32) (k lo t : Nat), (prb Q x k lo t).length ≤ k := by
      intro Q k
      induction k with
      | zero => intro lo t; simp [prb]
      | succ k ih =>
        intro lo t
        rw [prb]
        split
        · rw [List.length_cons]
          split
          · simp
          · split
            · have := ih ((lo + t - 1) / 2 + 1) t; omega
            · have := ih lo ((lo + t - 1) / 2); omega
        · simp
    have hPH : PHI (kap M) (ksegs M S) (S 0).toInt x ≤ PLO (kap M) (ksegs M S) (S 0).toInt x + 17 := hw.2.2.2.2
    have hPJ : PHI (kap M) (ksegs M S) (S 0).toInt x < M.length := Nat.lt_of_le_of_lt hw.2.2.2.1 hok.2.1
    refine ⟨Nat.le_trans (hl _ _ _ _) (by omega), fun q hq => ?_⟩
    have := prb_in _ _ _ _ _ _ hq
    omega
theorem kIz (n : Nat) : nI n + 0 = nI n := by rw [kI_nI]; exact (kI_add _ 0).trans (by rw [Int.add_zero])
def pAt (P : List Nat) (i : Nat) : Nat := (P[i]?).getD 0
theorem pAt_lt {P : List Nat} {n i : Nat} (h : ∀ q ∈ P, q < n) (hi : i < P.length) : pAt P i < n := by
  rw [pAt, List.getElem?_eq_getElem hi]; exact h _ (List.getElem_mem hi)
def pgN (s : Nat) (P : List Nat) (i j : Nat) : Int32 := if pAt P i / s ∈ (P.take j).map (fun x => x / s) then 0 else 1
theorem pAt_take {P : List Nat} {i : Nat} (hi : i < P.length) : P.take (i + 1) = P.take i ++ [pAt P i] := by
  rw [List.take_add_one, pAt, List.getElem?_eq_getElem hi]; rfl
theorem pgN_0 (s : Nat) (P : List Nat) (i : Nat) : pgN s P i 0 = 1 := by simp [pgN]
theorem pgN_yes {s : Nat} {P : List Nat} {i j : Nat} (hj : j < P.length) (h : pAt P j / s = pAt P i / s) : pgN s P i j &&& 0 = pgN s P i (j + 1) := by
  rw [pgN, pgN, pAt_take hj, if_pos (c := pAt P i / s ∈ (P.take j ++ [pAt P j]).map (fun x => x / s)) (by simp [h])]
  split <;> rfl
theorem pgN_no {s : Nat} {P : List Nat} {i j : Nat} (hj : j < P.length) (h : ¬ pAt P j / s = pAt P i / s) : pgN s P i j &&& 1 = pgN s P i (j + 1) := by
  have h2 : ¬ pAt P i / s = pAt P j / s := fun z => h z.symm
  rw [pgN, pgN, pAt_take hj]
  by_cases c : pAt P i / s ∈ (P.take j).map (fun x => x / s)
  · rw [if_pos c, if_pos (by rw [List.map_append]; exact List.mem_append_left _ c)]; rfl
  · rw [if_neg c, if_neg (by rw [List.map_append]; intro z; rcases List.mem_append.mp z with z | z; exact c z; simp at z; exact h2 z)]; rfl
theorem dst_yes {s : Nat} {P : List Nat} {i : Nat} (hi : i < P.length) (h : pgN s P i i = 0) : dst s (P.take (i + 1)) = dst s (P.take i) := by
  rw [pAt_take hi, dst_snoc, if_pos (Decidable.byContradiction (fun z => by rw [pgN, if_neg z] at h; cases h)), Nat.add_zero]
theorem dst_no {s : Nat} {P : List Nat} {i : Nat} (hi : i < P.length) (h : ¬ pgN s P i i = 0) : dst s (P.take (i + 1)) = dst s (P.take i) + 1 := by
  rw [pAt_take hi, dst_snoc, if_neg (fun z => h (by rw [pgN, if_pos z]))]

theorem dX7_lastOf_0 : decode cX7_lastOf 0 = .ok (.iload_n 1, 1) := by decide +kernel
theorem dX7_lastOf_1 : decode cX7_lastOf 1 = .ok (.iconst 1, 1) := by decide +kernel
theorem dX7_lastOf_2 : decode cX7_lastOf 2 = .ok (.iadd, 1) := by decide +kernel
theorem dX7_lastOf_3 : decode cX7_lastOf 3 = .ok (.aload_n 0, 1) := by decide +kernel
theorem dX7_lastOf_4 : decode cX7_lastOf 4 = .ok (.getfield 163, 3) := by decide +kernel
theorem dX7_lastOf_7 : decode cX7_lastOf 7 = .ok (.if_icmp .ge 16, 3) := by decide +kernel
theorem dX7_lastOf_10 : decode cX7_lastOf 10 = .ok (.aload_n 0, 1) := by decide +kernel
theorem dX7_lastOf_11 : decode cX7_lastOf 11 = .ok (.getfield 31, 3) := by decide +kernel
theorem dX7_lastOf_14 : decode cX7_lastOf 14 = .ok (.iload_n 1, 1) := by decide +kernel
theorem dX7_lastOf_15 : decode cX7_lastOf 15 = .ok (.iconst 1, 1) := by decide +kernel
theorem dX7_lastOf_16 : decode cX7_lastOf 16 = .ok (.iadd, 1) := by decide +kernel
theorem dX7_lastOf_17 : decode cX7_lastOf 17 = .ok (.iaload, 1) := by decide +kernel
theorem dX7_lastOf_18 : decode cX7_lastOf 18 = .ok (.iconst 1, 1) := by decide +kernel
theorem dX7_lastOf_19 : decode cX7_lastOf 19 = .ok (.isub, 1) := by decide +kernel
theorem dX7_lastOf_20 : decode cX7_lastOf 20 = .ok (.goto 9, 3) := by decide +kernel
theorem dX7_lastOf_23 : decode cX7_lastOf 23 = .ok (.aload_n 0, 1) := by decide +kernel
theorem dX7_lastOf_24 : decode cX7_lastOf 24 = .ok (.getfield 79, 3) := by decide +kernel
theorem dX7_lastOf_27 : decode cX7_lastOf 27 = .ok (.iconst 1, 1) := by decide +kernel
theorem dX7_lastOf_28 : decode cX7_lastOf 28 = .ok (.isub, 1) := by decide +kernel
theorem dX7_lastOf_29 : decode cX7_lastOf 29 = .ok (.ireturn, 1) := by decide +kernel
def rm_X7_lastOf : Room := { frames := 0, cells := 0, slots := 0, locals := 0 }
abbrev p_X7_lastOf (g : kG) (h : Nat) (zth : Int32) (zl1 : Int64) (zl2 : Int64) (zl3 : Int64) (zl4 : Int64) (zpb : Int32) (zln : Int32) (zat : Int32) (zrk : Int32) (zrv : Int32) (zre : Int32) (zwr : Int32) (zrm : Int32) (zrs : Int32) (zis : Int32) (zss : Int32) (zsc : Int32) (ak : Nat) (av : Nat) (bk : Nat) (bv : Nat) (br : Nat) (a_s : Nat) (a_t : Nat) (g1 : Nat) (g2 : Nat) (g3 : Nat) (pa : Nat) (ru : Nat) (tx : Nat) (dk : Nat) (dv : Nat) (ek : Nat) (ev : Nat) (er : Nat) (es : Nat) (et : Nat) (nA : Nat) (fk : Nat → Int32) (fv : Nat → Int32) (nB : Nat) (ck : Nat → Int32) (cv : Nat → Int32) (cr : Nat → Int32) (fS : Nat → Int32) (fT : Nat → Int32) (mS : Nat) (y1 : Nat → Int32) (y2 : Nat → Int32) (y3 : Nat → Int32) (M : List kE3) (C : List kE3) (S : Nat → Int32) (T : Nat → Int32) (sx : Nat) : Int32 → va_W → Prop := fun r w1 => r = nI (sgAt (ksegs M S) sx).2.1 ∧ w1 = [(h, .inr (9, [.int zth, .int (nI nA), .int (nI nB), .ref ak, .ref av, .ref bk, .ref bv, .ref br, .ref a_s, .ref a_t, .int (nI mS), .ref g1, .ref g2, .ref g3, .long zl1, .long zl2, .long zl3, .long zl4, .int zpb, .ref pa, .ref ru, .ref tx, .int zln, .int zat, .int zrk, .int zrv, .int zre, .int zwr, .int zrm, .int zrs, .int zis, .int zss, .int zsc, .ref dk, .ref dv, .ref ek, .ref ev, .ref er, .ref es, .ref et])), (ak, .inl (g.2.1.1, 152, .inl fk)), (av, .inl (g.2.1.1, 152, .inl fv)), (bk, .inl (g.2.1.1, 24, .inl ck)), (bv, .inl (g.2.1.1, 24, .inl cv)), (br, .inl (g.2.1.1, 24, .inl cr)), (a_s, .inl (g.2.1.1, 4, .inl fS)), (a_t, .inl (g.2.1.1, 5, .inl fT)), (g1, .inl (g.2.1.1, 152, .inl y1)), (g2, .inl (g.2.1.1, 152, .inl y2)), (g3, .inl (g.2.1.1, 152, .inl y3))]
set_option maxHeartbeats 4000000 in
set_option maxRecDepth 100000 in
theorem c_X7_lastOf (l : Launch) (g : kG) (h : Nat) (zth : Int32) (zl1 : Int64) (zl2 : Int64) (zl3 : Int64) (zl4 : Int64) (zpb : Int32) (zln : Int32) (zat : Int32) (zrk : Int32) (zrv : Int32) (zre : Int32) (zwr : Int32) (zrm : Int32) (zrs : Int32) (zis : Int32) (zss : Int32) (zsc : Int32) (ak : Nat) (av : Nat) (bk : Nat) (bv : Nat) (br : Nat) (a_s : Nat) (a_t : Nat) (g1 : Nat) (g2 : Nat) (g3 : Nat) (pa : Nat) (ru : Nat) (tx : Nat) (dk : Nat) (dv : Nat) (ek : Nat) (ev : Nat) (er : Nat) (es : Nat) (et : Nat) (nA : Nat) (fk : Nat → Int32) (fv : Nat → Int32) (nB : Nat) (ck : Nat → Int32) (cv : Nat → Int32) (cr : Nat → Int32) (fS : Nat → Int32) (fT : Nat → Int32) (mS : Nat) (y1 : Nat → Int32) (y2 : Nat → Int32) (y3 : Nat → Int32) (M : List kE3) (C : List kE3) (S : Nat → Int32) (T : Nat → Int32) (sx : Nat) (hMX : kMX nA fk fv nB ck cv cr fS fT mS y1 y2 y3 M C S T) (hs : sx < mS) : KI l yX7_lastOf wsX7_lastOf rm_X7_lastOf g [.ref h, .int (nI sx)] [(h, .inr (9, [.int zth, .int (nI nA), .int (nI nB), .ref ak, .ref av, .ref bk, .ref bv, .ref br, .ref a_s, .ref a_t, .int (nI mS), .ref g1, .ref g2, .ref g3, .long zl1, .long zl2, .long zl3, .long zl4, .int zpb, .ref pa, .ref ru, .ref tx, .int zln, .int zat, .int zrk, .int zrv, .int zre, .int zwr, .int zrm, .int zrs, .int zis, .int zss, .int zsc, .ref dk, .ref dv, .ref ek, .ref ev, .ref er, .ref es, .ref et])), (ak, .inl (g.2.1.1, 152, .inl fk)), (av, .inl (g.2.1.1, 152, .inl fv)), (bk, .inl (g.2.1.1, 24, .inl ck)), (bv, .inl (g.2.1.1, 24, .inl cv)), (br, .inl (g.2.1.1, 24, .inl cr)), (a_s, .inl (g.2.1.1, 4, .inl fS)), (a_t, .inl (g.2.1.1, 5, .inl fT)), (g1, .inl (g.2.1.1, 152, .inl y1)), (g2, .inl (g.2.1.1, 152, .inl y2)), (g3, .inl (g.2.1.1, 152, .inl y3))] (p_X7_lastOf g h zth zl1 zl2 zl3 zl4 zpb zln zat zrk zrv zre zwr zrm zrs zis zss zsc ak av bk bv br a_s a_t g1 g2 g3 pa ru tx dk dv ek ev er es et nA fk fv nB ck cv cr fS fT mS y1 y2 y3 M C S T sx) := by
  refine kbodyI (cc := cX7_lastOf) (n := 2) (k := 11) (own := RX7) (plainFor_of_name (by decide)) rfl rfl rfl rfl ?_
  intro p e s m below meth cd A ls hcx
  obtain ⟨hx, hb, hRt, hml, hts, hown, hlk, hA, hP, hK, hD, hE, hS, hl⟩ := hcx
  have hl : lv_has ls 2 [(0, .ref h), (1, .int (nI sx))] := hl
  obtain ⟨hMM, hS4, hT5, hKS, hSGm⟩ := id hMX
  obtain ⟨⟨hM, hC⟩, ⟨hnM, hnC⟩, ⟨hIM, hIC⟩, hlen, hrem⟩ := id hMM
  have hsM : kSo (EL nA fk fv fz0) := by rw [hM]; exact hIM.1
  have hsC : kSo (EL nB ck cv cr) := by rw [hC]; exact hIC.1
  have hnl : nA = M.length := by rw [← hM, EL_len]
  have hcl : nB = C.length := by rw [← hC, EL_len]
  obtain ⟨⟨hS01, hS02⟩, ⟨hS11, hS12⟩, ⟨hS21, hS22⟩, ⟨hS31, hS32⟩⟩ := id hKS
  obtain ⟨v2, v3, hSG⟩ := hSGm
  obtain ⟨hmL, hseg⟩ := SG_seg hSG
  have hasc := kap_asc hM hIM
  have hsl : (ksegs M S).length ≤ M.length - 0 := sg_len (hnl ▸ hasc) (by omega) ⟨by omega, by omega⟩ _ _
  have hok : (sgAt (ksegs M S) (sx)).1 ≤ (sgAt (ksegs M S) (sx)).2.1 ∧ (sgAt (ksegs M S) (sx)).2.1 < nA ∧ (sgAt (ksegs M S) (sx)).2.2.1 ≤ 200 ∧ 1 ≤ (sgAt (ksegs M S) (sx)).2.2.2 ∧ (sgAt (ksegs M S) (sx)).2.2.2 ≤ 10000 := by rw [hnl]; exact sg_ok (hnl ▸ hasc) (by omega) ⟨by omega, by omega⟩ _ _ _ (sgAt_mem (L := ksegs M S) (by omega))
  have hch := sg_chn (hnl ▸ hasc) (show M.length ≤ 160 by omega) (show 0 ≤ (S 0).toInt ∧ (S 0).toInt ≤ 8 by omega) M.length 0 sx (by omega) (by show sx < (ksegs M S).length; omega)
  change (sgAt (ksegs M S) sx).2.1 + 1 = if sx + 1 < (ksegs M S).length then (sgAt (ksegs M S) (sx + 1)).1 else M.length at hch
  refine lv_iload_n hx hb dX7_lastOf_0 rfl (lv_at hl 1 rfl) ?_
  refine lv_iconst (v := 1) hx hb dX7_lastOf_1 (by decide) ?_
  refine lv_iadd hx hb dX7_lastOf_2 ?_
  rw [show (nI sx) + 1 = nI (sx + 1) from nI_1 sx]
  refine lv_aload_n hx hb dX7_lastOf_3 rfl (lv_at hl 0 rfl) ?_
  refine va_get (D := g.1) (ci := 9) (v := .int (nI mS)) (C := RX7) (T := TX7) (N := 40) hx hb hts (by decide +kernel) hown hK hP 0 rfl rfl 10 (by decide) (hts (.fieldLink RX7 163 "LearnedIndexModel" "segments" "I") (by decide +kernel)) (fun _ h9 => h9) rfl dX7_lastOf_4 ?_
  refine lv_icmp_ge (tgt := 23) hx hb dX7_lastOf_7 (by decide) (fun c_7 => ?_) (fun c_7 => ?_)
  · skip
    have hge : mS ≤ sx + 1 := kg (by omega) (by omega) c_7
    have hce : (sgAt (ksegs M S) sx).2.1 + 1 = nA := by rw [hch, if_neg (by omega), hnl]
    refine lv_aload_n hx hb dX7_lastOf_23 rfl (lv_at hl 0 rfl) ?_
    refine va_get (D := g.1) (ci := 9) (v := .int (nI nA)) (C := RX7) (T := TX7) (N := 40) hx hb hts (by decide +kernel) hown hK hP 0 rfl rfl 1 (by decide) (hts (.fieldLink RX7 79 "LearnedIndexModel" "size" "I") (by decide +kernel)) (fun _ h9 => h9) rfl dX7_lastOf_24 ?_
    refine lv_iconst (v := 1) hx hb dX7_lastOf_27 (by decide) ?_
    refine lv_isub hx hb dX7_lastOf_28 ?_
    rw [show (nI nA) - 1 = nI (nA - 1) from nI_s1 (by omega)]
    exact kreti hx hb hRt hlk hK hP hD hS rfl dX7_lastOf_29 (⟨by rw [← hce, Nat.add_sub_cancel], rfl⟩)
  · skip
    have hlt : sx + 1 < mS := kl (by omega) (by omega) c_7
    have hce : (sgAt (ksegs M S) sx).2.1 + 1 = (sgAt (ksegs M S) (sx + 1)).1 := by rw [hch, if_pos (by omega)]
    have hq1 := (hseg (sx + 1) hlt).1
    refine lv_aload_n hx hb dX7_lastOf_10 rfl (lv_at hl 0 rfl) ?_
    refine va_get (D := g.1) (ci := 9) (v := .ref g1) (C := RX7) (T := TX7) (N := 40) hx hb hts (by decide +kernel) hown hK hP 0 rfl rfl 11 (by decide) (hts (.fieldLink RX7 31 "LearnedIndexModel" "begins" "[I") (by decide +kernel)) (fun _ h9 => h9) rfl dX7_lastOf_11 ?_
    refine lv_iload_n hx hb dX7_lastOf_14 rfl (lv_at hl 1 rfl) ?_
    refine lv_iconst (v := 1) hx hb dX7_lastOf_15 (by decide) ?_
    refine lv_iadd hx hb dX7_lastOf_16 ?_
    rw [show (nI sx) + 1 = nI (sx + 1) from nI_1 sx]
    refine va_iald hx hb hK hP 8 0 rfl rfl (vp_in_nI (show sx + 1 < 152 by omega) (by omega)) dX7_lastOf_17 ?_
    rw [show (nI (sx + 1) : Int32).toNatClampNeg = sx + 1 from nI_clamp (n := sx + 1) (by omega)]
    rw [show (y1 (sx + 1) : Int32) = nI ((sgAt (ksegs M S) sx).2.1 + 1) from by rw [hq1, hce]]
    refine lv_iconst (v := 1) hx hb dX7_lastOf_18 (by decide) ?_
    refine lv_isub hx hb dX7_lastOf_19 ?_
    rw [show (nI ((sgAt (ksegs M S) sx).2.1 + 1)) - 1 = nI ((sgAt (ksegs M S) sx).2.1 + 1 - 1) from nI_s1 (by omega)]
    refine lv_goto (tgt := 29) hx hb dX7_lastOf_20 (by decide) ?_
    exact kreti hx hb hRt hlk hK hP hD hS rfl dX7_lastOf_29 (⟨by rw [Nat.add_sub_cancel], rfl⟩)
theorem dX7_segmentAt_0 : decode cX7_segmentAt 0 = .ok (.iconst 0, 1) := by decide +kernel
theorem dX7_segmentAt_1 : decode cX7_segmentAt 1 = .ok (.istore_n 2, 1) := by decide +kernel
theorem dX7_segmentAt_2 : decode cX7_segmentAt 2 = .ok (.iconst 0, 1) := by decide +kernel
theorem dX7_segmentAt_3 : decode cX7_segmentAt 3 = .ok (.istore_n 3, 1) := by decide +kernel
theorem dX7_segmentAt_4 : decode cX7_segmentAt 4 = .ok (.iload_n 3, 1) := by decide +kernel
theorem dX7_segmentAt_5 : decode cX7_segmentAt 5 = .ok (.aload_n 0, 1) := by decide +kernel
theorem dX7_segmentAt_6 : decode cX7_segmentAt 6 = .ok (.getfield 163, 3) := by decide +kernel
theorem dX7_segmentAt_9 : decode cX7_segmentAt 9 = .ok (.if_icmp .ge 30, 3) := by decide +kernel
theorem dX7_segmentAt_12 : decode cX7_segmentAt 12 = .ok (.aload_n 0, 1) := by decide +kernel
theorem dX7_segmentAt_13 : decode cX7_segmentAt 13 = .ok (.getfield 9, 3) := by decide +kernel
theorem dX7_segmentAt_16 : decode cX7_segmentAt 16 = .ok (.aload_n 0, 1) := by decide +kernel
theorem dX7_segmentAt_17 : decode cX7_segmentAt 17 = .ok (.getfield 31, 3) := by decide +kernel
theorem dX7_segmentAt_20 : decode cX7_segmentAt 20 = .ok (.iload_n 3, 1) := by decide +kernel
theorem dX7_segmentAt_21 : decode cX7_segmentAt 21 = .ok (.iaload, 1) := by decide +kernel
theorem dX7_segmentAt_22 : decode cX7_segmentAt 22 = .ok (.iaload, 1) := by decide +kernel
theorem dX7_segmentAt_23 : decode cX7_segmentAt 23 = .ok (.iload_n 1, 1) := by decide +kernel
theorem dX7_segmentAt_24 : decode cX7_segmentAt 24 = .ok (.if_icmp .gt 7, 3) := by decide +kernel
theorem dX7_segmentAt_27 : decode cX7_segmentAt 27 = .ok (.iload_n 3, 1) := by decide +kernel
theorem dX7_segmentAt_28 : decode cX7_segmentAt 28 = .ok (.goto 4, 3) := by decide +kernel
theorem dX7_segmentAt_31 : decode cX7_segmentAt 31 = .ok (.iload_n 2, 1) := by decide +kernel
theorem dX7_segmentAt_32 : decode cX7_segmentAt 32 = .ok (.istore_n 2, 1) := by decide +kernel
theorem dX7_segmentAt_33 : decode cX7_segmentAt 33 = .ok (.iinc 3 1, 3) := by decide +kernel
theorem dX7_segmentAt_36 : decode cX7_segmentAt 36 = .ok (.goto (-32), 3) := by decide +kernel
theorem dX7_segmentAt_39 : decode cX7_segmentAt 39 = .ok (.iload_n 2, 1) := by decide +kernel
theorem dX7_segmentAt_40 : decode cX7_segmentAt 40 = .ok (.ireturn, 1) := by decide +kernel
def rm_X7_segmentAt : Room := { frames := 0, cells := 0, slots := 0, locals := 0 }
abbrev p_X7_segmentAt (g : kG) (h : Nat) (zth : Int32) (zl1 : Int64) (zl2 : Int64) (zl3 : Int64) (zl4 : Int64) (zpb : Int32) (zln : Int32) (zat : Int32) (zrk : Int32) (zrv : Int32) (zre : Int32) (zwr : Int32) (zrm : Int32) (zrs : Int32) (zis : Int32) (zss : Int32) (zsc : Int32) (ak : Nat) (av : Nat) (bk : Nat) (bv : Nat) (br : Nat) (a_s : Nat) (a_t : Nat) (g1 : Nat) (g2 : Nat) (g3 : Nat) (pa : Nat) (ru : Nat) (tx : Nat) (dk : Nat) (dv : Nat) (ek : Nat) (ev : Nat) (er : Nat) (es : Nat) (et : Nat) (nA : Nat) (fk : Nat → Int32) (fv : Nat → Int32) (nB : Nat) (ck : Nat → Int32) (cv : Nat → Int32) (cr : Nat → Int32) (fS : Nat → Int32) (fT : Nat → Int32) (mS : Nat) (y1 : Nat → Int32) (y2 : Nat → Int32) (y3 : Nat → Int32) (M : List kE3) (C : List kE3) (S : Nat → Int32) (T : Nat → Int32) (x : Int32) : Int32 → va_W → Prop := fun r w1 => r = nI (pidx (kap M) (ksegs M S) x) ∧ w1 = [(h, .inr (9, [.int zth, .int (nI nA), .int (nI nB), .ref ak, .ref av, .ref bk, .ref bv, .ref br, .ref a_s, .ref a_t, .int (nI mS), .ref g1, .ref g2, .ref g3, .long zl1, .long zl2, .long zl3, .long zl4, .int zpb, .ref pa, .ref ru, .ref tx, .int zln, .int zat, .int zrk, .int zrv, .int zre, .int zwr, .int zrm, .int zrs, .int zis, .int zss, .int zsc, .ref dk, .ref dv, .ref ek, .ref ev, .ref er, .ref es, .ref et])), (ak, .inl (g.2.1.1, 152, .inl fk)), (av, .inl (g.2.1.1, 152, .inl fv)), (bk, .inl (g.2.1.1, 24, .inl ck)), (bv, .inl (g.2.1.1, 24, .inl cv)), (br, .inl (g.2.1.1, 24, .inl cr)), (a_s, .inl (g.2.1.1, 4, .inl fS)), (a_t, .inl (g.2.1.1, 5, .inl fT)), (g1, .inl (g.2.1.1, 152, .inl y1)), (g2, .inl (g.2.1.1, 152, .inl y2)), (g3, .inl (g.2.1.1, 152, .inl y3))]
set_option maxHeartbeats 4000000 in
set_option maxRecDepth 100000 in
theorem c_X7_segmentAt (l : Launch) (g : kG) (h : Nat) (zth : Int32) (zl1 : Int64) (zl2 : Int64) (zl3 : Int64) (zl4 : Int64) (zpb : Int32) (zln : Int32) (zat : Int32) (zrk : Int32) (zrv : Int32) (zre : Int32) (zwr : Int32) (zrm : Int32) (zrs : Int32) (zis : Int32) (zss : Int32) (zsc : Int32) (ak : Nat) (av : Nat) (bk : Nat) (bv : Nat) (br : Nat) (a_s : Nat) (a_t : Nat) (g1 : Nat) (g2 : Nat) (g3 : Nat) (pa : Nat) (ru : Nat) (tx : Nat) (dk : Nat) (dv : Nat) (ek : Nat) (ev : Nat) (er : Nat) (es : Nat) (et : Nat) (nA : Nat) (fk : Nat → Int32) (fv : Nat → Int32) (nB : Nat) (ck : Nat → Int32) (cv : Nat → Int32) (cr : Nat → Int32) (fS : Nat → Int32) (fT : Nat → Int32) (mS : Nat) (y1 : Nat → Int32) (y2 : Nat → Int32) (y3 : Nat → Int32) (M : List kE3) (C : List kE3) (S : Nat → Int32) (T : Nat → Int32) (x : Int32) (hMX : kMX nA fk fv nB ck cv cr fS fT mS y1 y2 y3 M C S T) : KI l yX7_segmentAt wsX7_segmentAt rm_X7_segmentAt g [.ref h, .int x] [(h, .inr (9, [.int zth, .int (nI nA), .int (nI nB), .ref ak, .ref av, .ref bk, .ref bv, .ref br, .ref a_s, .ref a_t, .int (nI mS), .ref g1, .ref g2, .ref g3, .long zl1, .long zl2, .long zl3, .long zl4, .int zpb, .ref pa, .ref ru, .ref tx, .int zln, .int zat, .int zrk, .int zrv, .int zre, .int zwr, .int zrm, .int zrs, .int zis, .int zss, .int zsc, .ref dk, .ref dv, .ref ek, .ref ev, .ref er, .ref es, .ref et])), (ak, .inl (g.2.1.1, 152, .inl fk)), (av, .inl (g.2.1.1, 152, .inl fv)), (bk, .inl (g.2.1.1, 24, .inl ck)), (bv, .inl (g.2.1.1, 24, .inl cv)), (br, .inl (g.2.1.1, 24, .inl cr)), (a_s, .inl (g.2.1.1, 4, .inl fS)), (a_t, .inl (g.2.1.1, 5, .inl fT)), (g1, .inl (g.2.1.1, 152, .inl y1)), (g2, .inl (g.2.1.1, 152, .inl y2)), (g3, .inl (g.2.1.1, 152, .inl y3))] (p_X7_segmentAt g h zth zl1 zl2 zl3 zl4 zpb zln zat zrk zrv zre zwr zrm zrs zis zss zsc ak av bk bv br a_s a_t g1 g2 g3 pa ru tx dk dv ek ev er es et nA fk fv nB ck cv cr fS fT mS y1 y2 y3 M C S T x) := by
  refine kbodyI (cc := cX7_segmentAt) (n := 4) (k := 11) (own := RX7) (plainFor_of_name (by decide)) rfl rfl rfl rfl ?_
  intro p e s m below meth cd A ls hcx
  obtain ⟨hx, hb, hRt, hml, hts, hown, hlk, hA, hP, hK, hD, hE, hS, hl⟩ := hcx
  have hl : lv_has ls 4 [(0, .ref h), (1, .int x)] := hl
  obtain ⟨hMM, hS4, hT5, hKS, hSGm⟩ := id hMX
  obtain ⟨⟨hM, hC⟩, ⟨hnM, hnC⟩, ⟨hIM, hIC⟩, hlen, hrem⟩ := id hMM
  have hsM : kSo (EL nA fk fv fz0) := by rw [hM]; exact hIM.1
  have hsC : kSo (EL nB ck cv cr) := by rw [hC]; exact hIC.1
  have hnl : nA = M.length := by rw [← hM, EL_len]
  have hcl : nB = C.length := by rw [← hC, EL_len]
  obtain ⟨⟨hS01, hS02⟩, ⟨hS11, hS12⟩, ⟨hS21, hS22⟩, ⟨hS31, hS32⟩⟩ := id hKS
  obtain ⟨v2, v3, hSG⟩ := hSGm
  obtain ⟨hmL, hseg⟩ := SG_seg hSG
  have hasc := kap_asc hM hIM
  have hsl : (ksegs M S).length ≤ M.length - 0 := sg_len (hnl ▸ hasc) (by omega) ⟨by omega, by omega⟩ _ _
  refine lv_iconst (v := 0) hx hb dX7_segmentAt_0 (by decide) ?_
  rw [show (0 : Int32) = nI (kplc (fun i => kI (kap M (sgAt (ksegs M S) i).1)) x 0) from rfl]
  refine lv_istore_n (lv' := [(2, .int (nI (kplc (fun i => kI (kap M (sgAt (ksegs M S) i).1)) x 0))), (0, .ref h), (1, .int x)]) hx hb dX7_segmentAt_1 rfl hl (by decide) rfl (fun ls hl => ?_)
  refine lv_iconst (v := 0) hx hb dX7_segmentAt_2 (by decide) ?_
  refine lv_istore_n (lv' := [(3, .int 0), (2, .int (nI (kplc (fun i => kI (kap M (sgAt (ksegs M S) i).1)) x 0))), (0, .ref h), (1, .int x)]) hx hb dX7_segmentAt_3 rfl hl (by decide) rfl (fun ls hl => ?_)
  have L4 : ∀ (n9 : Nat) (i : Nat) (H : Heap) (locs : List Loc) (ls : Array Slot), (i ≤ mS) → mS - i < n9 → va_P g.1 vwCl [(h, .inr (9, [.int zth, .int (nI nA), .int (nI nB), .ref ak, .ref av, .ref bk, .ref bv, .ref br, .ref a_s, .ref a_t, .int (nI mS), .ref g1, .ref g2, .ref g3, .long zl1, .long zl2, .long zl3, .long zl4, .int zpb, .ref pa, .ref ru, .ref tx, .int zln, .int zat, .int zrk, .int zrv, .int zre, .int zwr, .int zrm, .int zrs, .int zis, .int zss, .int zsc, .ref dk, .ref dv, .ref ek, .ref ev, .ref er, .ref es, .ref et])), (ak, .inl (g.2.1.1, 152, .inl fk)), (av, .inl (g.2.1.1, 152, .inl fv)), (bk, .inl (g.2.1.1, 24, .inl ck)), (bv, .inl (g.2.1.1, 24, .inl cv)), (br, .inl (g.2.1.1, 24, .inl cr)), (a_s, .inl (g.2.1.1, 4, .inl fS)), (a_t, .inl (g.2.1.1, 5, .inl fT)), (g1, .inl (g.2.1.1, 152, .inl y1)), (g2, .inl (g.2.1.1, 152, .inl y2)), (g3, .inl (g.2.1.1, 152, .inl y3))] H → va_D A [(h, .inr (9, [.int zth, .int (nI nA), .int (nI nB), .ref ak, .ref av, .ref bk, .ref bv, .ref br, .ref a_s, .ref a_t, .int (nI mS), .ref g1, .ref g2, .ref g3, .long zl1, .long zl2, .long zl3, .long zl4, .int zpb, .ref pa, .ref ru, .ref tx, .int zln, .int zat, .int zrk, .int zrv, .int zre, .int zwr, .int zrm, .int zrs, .int zis, .int zss, .int zsc, .ref dk, .ref dv, .ref ek, .ref ev, .ref er, .ref es, .ref et])), (ak, .inl (g.2.1.1, 152, .inl fk)), (av, .inl (g.2.1.1, 152, .inl fv)), (bk, .inl (g.2.1.1, 24, .inl ck)), (bv, .inl (g.2.1.1, 24, .inl cv)), (br, .inl (g.2.1.1, 24, .inl cr)), (a_s, .inl (g.2.1.1, 4, .inl fS)), (a_t, .inl (g.2.1.1, 5, .inl fT)), (g1, .inl (g.2.1.1, 152, .inl y1)), (g2, .inl (g.2.1.1, 152, .inl y2)), (g3, .inl (g.2.1.1, 152, .inl y3))] → va_S A s.heap H locs → lv_has ls 4 [(3, .int (nI i)), (2, .int (nI (kplc (fun i => kI (kap M (sgAt (ksegs M S) i).1)) x i))), (0, .ref h), (1, .int x)] → W p l e rm_X7_segmentAt s m ([.ref h, .int x] : List Value).toArray below meth cd H locs 0 0 (kQi g 11 A (p_X7_segmentAt g h zth zl1 zl2 zl3 zl4 zpb zln zat zrk zrv zre zwr zrm zrs zis zss zsc ak av bk bv br a_s a_t g1 g2 g3 pa ru tx dk dv ek ev er es et nA fk fv nB ck cv cr fS fT mS y1 y2 y3 M C S T x) below ([.ref h, .int x] : List Value).toArray s) (F0 m 4 ls []) := by
    intro n9
    induction n9 with
    | zero => intro i H locs ls hi h9; exact absurd h9 (Nat.not_lt_zero _)
    | succ n9 ih4 =>
      intro i H locs ls hi hn4 hP hD hS hl
      refine lv_iload_n hx hb dX7_segmentAt_4 rfl (lv_at hl 0 rfl) ?_
      refine lv_aload_n hx hb dX7_segmentAt_5 rfl (lv_at hl 2 rfl) ?_
      refine va_get (D := g.1) (ci := 9) (v := .int (nI mS)) (C := RX7) (T := TX7) (N := 40) hx hb hts (by decide +kernel) hown hK hP 0 rfl rfl 10 (by decide) (hts (.fieldLink RX7 163 "LearnedIndexModel" "segments" "I") (by decide +kernel)) (fun _ h9 => h9) rfl dX7_segmentAt_6 ?_
      refine lv_icmp_ge (tgt := 39) hx hb dX7_segmentAt_9 (by decide) (fun c_9 => ?_) (fun c_9 => ?_)
      · skip
        have hin : mS ≤ i := kg (by omega) (by omega) c_9
        refine lv_iload_n hx hb dX7_segmentAt_39 rfl (lv_at hl 1 rfl) ?_
        exact kreti hx hb hRt hlk hK hP hD hS rfl dX7_segmentAt_40 (⟨by rw [show i = mS by omega, pidx, ← hmL], rfl⟩)
      · skip
        have hin : i < mS := kl (by omega) (by omega) c_9
        have hq1 := (hseg i hin).1
        have hk1 : kplc (fun i => kI (kap M (sgAt (ksegs M S) i).1)) x (i + 1) = if i = 0 then 0 else if kI (kap M (sgAt (ksegs M S) i).1) ≤ x then i else kplc (fun i => kI (kap M (sgAt (ksegs M S) i).1)) x i := rfl
        have hk0 : i = 0 → kplc (fun i => kI (kap M (sgAt (ksegs M S) i).1)) x i = 0 := fun z => by subst z; rfl
        have hok : (sgAt (ksegs M S) (i)).1 ≤ (sgAt (ksegs M S) (i)).2.1 ∧ (sgAt (ksegs M S) (i)).2.1 < nA ∧ (sgAt (ksegs M S) (i)).2.2.1 ≤ 200 ∧ 1 ≤ (sgAt (ksegs M S) (i)).2.2.2 ∧ (sgAt (ksegs M S) (i)).2.2.2 ≤ 10000 := by rw [hnl]; exact sg_ok (hnl ▸ hasc) (by omega) ⟨by omega, by omega⟩ _ _ _ (sgAt_mem (L := ksegs M S) (by omega))
        refine lv_aload_n hx hb dX7_segmentAt_12 rfl (lv_at hl 2 rfl) ?_
        refine va_get (D := g.1) (ci := 9) (v := .ref ak) (C := RX7) (T := TX7) (N := 40) hx hb hts (by decide +kernel) hown hK hP 0 rfl rfl 3 (by decide) (hts (.fieldLink RX7 9 "LearnedIndexModel" "keys" "[I") (by decide +kernel)) (fun _ h9 => h9) rfl dX7_segmentAt_13 ?_
        refine lv_aload_n hx hb dX7_segmentAt_16 rfl (lv_at hl 2 rfl) ?_
        refine va_get (D := g.1) (ci := 9) (v := .ref g1) (C := RX7) (T := TX7) (N := 40) hx hb hts (by decide +kernel) hown hK hP 0 rfl rfl 11 (by decide) (hts (.fieldLink RX7 31 "LearnedIndexModel" "begins" "[I") (by decide +kernel)) (fun _ h9 => h9) rfl dX7_segmentAt_17 ?_
        refine lv_iload_n hx hb dX7_segmentAt_20 rfl (lv_at hl 0 rfl) ?_
        refine va_iald hx hb hK hP 8 0 rfl rfl (vp_in_nI (show i < 152 by omega) (by omega)) dX7_segmentAt_21 ?_
        rw [show (nI i : Int32).toNatClampNeg = i from nI_clamp (n := i) (by omega)]
        rw [show (y1 i : Int32) = nI (sgAt (ksegs M S) i).1 from hq1]
        refine va_iald hx hb hK hP 1 0 rfl rfl (vp_in_nI (show (sgAt (ksegs M S) i).1 < 152 by omega) (by omega)) dX7_segmentAt_22 ?_
        rw [show (nI (sgAt (ksegs M S) i).1 : Int32).toNatClampNeg = (sgAt (ksegs M S) i).1 from nI_clamp (n := (sgAt (ksegs M S) i).1) (by omega)]
        rw [show (fk ((sgAt (ksegs M S) i).1) : Int32) = kI (kap M (sgAt (ksegs M S) i).1) from EL_kap hM (by omega)]
        refine lv_iload_n hx hb dX7_segmentAt_23 rfl (lv_at hl 3 rfl) ?_
        refine lv_icmp_gt (tgt := 31) hx hb dX7_segmentAt_24 (by decide) (fun c_24 => ?_) (fun c_24 => ?_)
        · skip
          have hkn : kplc (fun i => kI (kap M (sgAt (ksegs M S) i).1)) x (i + 1) = kplc (fun i => kI (kap M (sgAt (ksegs M S) i).1)) x i := by rw [hk1]; by_cases z : i = 0; rw [if_pos z, hk0 z]; rw [if_neg z, if_neg (Int32.not_le.mpr c_24)]
          refine lv_iload_n hx hb dX7_segmentAt_31 rfl (lv_at hl 1 rfl) ?_
          refine lv_topi (fun v32 e_v32 => ?_)
          rw [show (v32 : Int32) = nI (kplc (fun i => kI (kap M (sgAt (ksegs M S) i).1)) x (i + 1)) from e_v32.trans (by rw [hkn])]
          refine lv_istore_n (lv' := [(2, .int (nI (kplc (fun i => kI (kap M (sgAt (ksegs M S) i).1)) x (i + 1)))), (3, .int (nI i)), (0, .ref h), (1, .int x)]) hx hb dX7_segmentAt_32 rfl hl (by decide) rfl (fun ls hl => ?_)
          refine lv_iinc (v := nI (i + 1)) (lv' := [(3, .int (nI (i + 1))), (2, .int (nI (kplc (fun i => kI (kap M (sgAt (ksegs M S) i).1)) x (i + 1)))), (0, .ref h), (1, .int x)]) hx hb dX7_segmentAt_33 hl (k := 1) rfl (nI_1 i) (by decide) rfl (fun ls hl => ?_)
          refine lv_goto (tgt := 4) hx hb dX7_segmentAt_36 (by decide) ?_
          exact ih4 (i + 1) _ _ ls hin (by omega) hP hD hS (lv_sub hl [0, 1, 2, 3] rfl)
        · skip
          have hkn : kplc (fun i => kI (kap M (sgAt (ksegs M S) i).1)) x (i + 1) = i := by rw [hk1]; by_cases z : i = 0; rw [if_pos z, z]; rw [if_neg z, if_pos (Int32.not_lt.mp c_24)]
          refine lv_iload_n hx hb dX7_segmentAt_27 rfl (lv_at hl 0 rfl) ?_
          refine lv_goto (tgt := 32) hx hb dX7_segmentAt_28 (by decide) ?_
          refine lv_topi (fun v32 e_v32 => ?_)
          rw [show (v32 : Int32) = nI (kplc (fun i => kI (kap M (sgAt (ksegs M S) i).1)) x (i + 1)) from e_v32.trans (by rw [hkn])]
          refine lv_istore_n (lv' := [(2, .int (nI (kplc (fun i => kI (kap M (sgAt (ksegs M S) i).1)) x (i + 1)))), (3, .int (nI i)), (0, .ref h), (1, .int x)]) hx hb dX7_segmentAt_32 rfl hl (by decide) rfl (fun ls hl => ?_)
          refine lv_iinc (v := nI (i + 1)) (lv' := [(3, .int (nI (i + 1))), (2, .int (nI (kplc (fun i => kI (kap M (sgAt (ksegs M S) i).1)) x (i + 1)))), (0, .ref h), (1, .int x)]) hx hb dX7_segmentAt_33 hl (k := 1) rfl (nI_1 i) (by decide) rfl (fun ls hl => ?_)
          refine lv_goto (tgt := 4) hx hb dX7_segmentAt_36 (by decide) ?_
          exact ih4 (i + 1) _ _ ls hin (by omega) hP hD hS (lv_sub hl [0, 1, 2, 3] rfl)
  exact L4 _ 0 _ _ ls (Nat.zero_le _) (Nat.lt_succ_self _) hP hD hS (lv_sub hl [0, 1, 2, 3] rfl)
theorem dX7_floor_0 : decode cX7_floor 0 = .ok (.lload_n 0, 1) := by decide +kernel
theorem dX7_floor_1 : decode cX7_floor 1 = .ok (.lload_n 2, 1) := by decide +kernel
theorem dX7_floor_2 : decode cX7_floor 2 = .ok (.ldiv, 1) := by decide +kernel
theorem dX7_floor_3 : decode cX7_floor 3 = .ok (.lstore 4, 2) := by decide +kernel
theorem dX7_floor_5 : decode cX7_floor 5 = .ok (.lload_n 0, 1) := by decide +kernel
theorem dX7_floor_6 : decode cX7_floor 6 = .ok (.lload_n 2, 1) := by decide +kernel
theorem dX7_floor_7 : decode cX7_floor 7 = .ok (.lrem, 1) := by decide +kernel
theorem dX7_floor_8 : decode cX7_floor 8 = .ok (.lconst 0, 1) := by decide +kernel
theorem dX7_floor_9 : decode cX7_floor 9 = .ok (.lcmp, 1) := by decide +kernel
theorem dX7_floor_10 : decode cX7_floor 10 = .ok (.ifCond .ge 10, 3) := by decide +kernel
theorem dX7_floor_13 : decode cX7_floor 13 = .ok (.lload 4, 2) := by decide +kernel
theorem dX7_floor_15 : decode cX7_floor 15 = .ok (.lconst 1, 1) := by decide +kernel
theorem dX7_floor_16 : decode cX7_floor 16 = .ok (.lsub, 1) := by decide +kernel
theorem dX7_floor_17 : decode cX7_floor 17 = .ok (.goto 5, 3) := by decide +kernel
theorem dX7_floor_20 : decode cX7_floor 20 = .ok (.lload 4, 2) := by decide +kernel
theorem dX7_floor_22 : decode cX7_floor 22 = .ok (.lreturn, 1) := by decide +kernel
def rm_X7_floor : Room := { frames := 0, cells := 0, slots := 0, locals := 0 }
abbrev p_X7_floor (g : kG) (u : Int) (b : Int) : Int64 → va_W → Prop := fun r w1 => r = kL (u / b) ∧ w1 = []
set_option maxHeartbeats 4000000 in
set_option maxRecDepth 100000 in
theorem c_X7_floor (l : Launch) (g : kG) (u : Int) (b : Int) (hu : -3000000 ≤ u ∧ u ≤ 3000000) (hb0 : 0 < b ∧ b ≤ 10000) : KL l yX7_floor wsX7_floor rm_X7_floor g [.long (kL u), .long (kL b)] [] (p_X7_floor g u b) := by
  refine kbodyL (cc := cX7_floor) (n := 6) (k := 0) (own := RX7) (plainFor_of_name (by decide)) rfl rfl rfl rfl ?_
  intro p e s m below meth cd A ls hcx
  obtain ⟨hx, hb, hRt, hml, hts, hown, hlk, hA, hP, hK, hD, hE, hS, hl⟩ := hcx
  have hl : lv_has ls 6 [(0, .long (kL u)), (2, .long (kL b))] := hl
  have hB : B3 u := by unfold B3; omega
  have hB0 : B3 0 := by unfold B3; omega
  refine lv_lload_n hx hb dX7_floor_0 rfl (lv_at hl 0 rfl) ?_
  refine lv_lload_n hx hb dX7_floor_1 rfl (lv_at hl 1 rfl) ?_
  refine lv_ldiv hx hb dX7_floor_2 (kL_ne0 hb0) ?_
  rw [show ((kL u) / (kL b) : Int64) = kL (u.tdiv b) from kL_div hB hb0]
  refine lv_lstore (lv' := [(4, .long (kL (u.tdiv b))), (0, .long (kL u)), (2, .long (kL b))]) hx hb dX7_floor_3 hl (by decide) rfl (fun ls hl => ?_)
  refine lv_lload_n hx hb dX7_floor_5 rfl (lv_at hl 1 rfl) ?_
  refine lv_lload_n hx hb dX7_floor_6 rfl (lv_at hl 2 rfl) ?_
  refine lv_lrem hx hb dX7_floor_7 (kL_ne0 hb0) ?_
  rw [show ((kL u) - (kL u) / (kL b) * (kL b) : Int64) = kL (u.tmod b) from kL_rem hB hb0]
  refine lv_lconst (v := 0) hx hb dX7_floor_8 (by decide) ?_
  rw [show (0 : Int64) = kL 0 from rfl]
  refine W.lcmp hx hb dX7_floor_9 ?_
  refine lv_if_ge (tgt := 20) hx hb dX7_floor_10 (by decide) (fun c_10 => ?_) (fun c_10 => ?_)
  · skip
    rw [lg3_ge (tmod_B3 hb0) hB0] at c_10
    refine lv_lload hx hb dX7_floor_20 (lv_at hl 0 rfl) ?_
    exact kretl hx hb hRt hlk hK hP hD hS rfl dX7_floor_22 (⟨by rw [kfl_ge hb0.1 c_10], rfl⟩)
  · skip
    rw [lg3_ge (tmod_B3 hb0) hB0] at c_10
    refine lv_lload hx hb dX7_floor_13 (lv_at hl 0 rfl) ?_
    refine lv_lconst (v := 1) hx hb dX7_floor_15 (by decide) ?_
    refine lv_lsub hx hb dX7_floor_16 ?_
    refine lv_goto (tgt := 22) hx hb dX7_floor_17 (by decide) ?_
    exact kretl hx hb hRt hlk hK hP hD hS rfl dX7_floor_22 (⟨by rw [kfl_lt hb0.1 c_10, ← kL_sub]; rfl, rfl⟩)
