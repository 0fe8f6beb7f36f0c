/-! ===== the model: keys, changes, both parts ===== -/
def fz0 : Nat → Int32 := fun _ => 0
theorem kfst_ex (f : Nat → Int32) (x : Int32) : ∀ n, ∃ i, kfst n f x i
  | 0 => ⟨0, Nat.le_refl 0, fun j hj => absurd hj (Nat.not_lt_zero _), fun h => absurd h (Nat.lt_irrefl 0)⟩
  | n + 1 => by
    obtain ⟨i, h1, h2, h3⟩ := kfst_ex f x n
    by_cases c : i < n
    · exact ⟨i, by omega, h2, fun _ => h3 c⟩
    · have e : i = n := by omega
      subst e
      by_cases c2 : f i < x
      · exact ⟨i + 1, Nat.le_refl _, fun j hj => by
          rcases Nat.lt_succ_iff_lt_or_eq.mp hj with h | h
          · exact h2 j h
          · rw [h]; exact c2, fun h => absurd h (Nat.lt_irrefl _)⟩
      · exact ⟨i, by omega, h2, fun _ => c2⟩
theorem EL_lt {n : Nat} {fk fv fr : Nat → Int32} (h : kSo (EL n fk fv fr)) {i j : Nat} (hij : i < j) (hj : j < n) : fk i < fk j := by
  have := List.pairwise_iff_getElem.mp h i j (by rw [EL_len]; omega) (by rw [EL_len]; omega) hij
  rw [EL_at, EL_at] at this
  exact this
theorem kfst_at {n : Nat} {fk fv fr : Nat → Int32} (h : kSo (EL n fk fv fr)) {i : Nat} (hi : i < n) : kfst n fk (fk i) i ∧ kfnd n fk (fk i) i = nI i :=
  ⟨⟨Nat.le_of_lt hi, fun j hj => EL_lt h hj hi, fun _ => Int32.lt_irrefl⟩, by rw [kfnd, if_pos ⟨hi, rfl⟩]⟩
theorem kfnd_no {n : Nat} {f : Nat → Int32} {x : Int32} {i : Nat} (h : ∀ j, j < n → ¬ f j = x) : kfnd n f x i = -1 := by
  rw [kfnd, if_neg (fun z => h i z.1 z.2)]
/-- both parts as the model's rows hold them -/
def kMM (nA : Nat) (fk fv : Nat → Int32) (nB : Nat) (ck cv cr : Nat → Int32) (M C : List kE3) : Prop :=
  (EL nA fk fv fz0 = M ∧ EL nB ck cv cr = C) ∧ (nA ≤ 150 ∧ nB ≤ 22) ∧ (kIv M ∧ kIv C) ∧ (gat M C).length ≤ 150 ∧ (∀ c ∈ C, c.2.2 = 1 → (lkp M c.1).isSome = true)
theorem kMM_z {nA : Nat} {fk fv : Nat → Int32} {nB : Nat} {ck cv cr : Nat → Int32} {M C : List kE3} (h : kMM nA fk fv nB ck cv cr M C) : ∀ m ∈ M, m.2.2 = 0 := by
  intro m hm
  rw [← h.1.1] at hm
  obtain ⟨j, hj, rfl⟩ := List.getElem_of_mem hm
  rw [EL_at]; rfl
def isB (v a b : Int32) : Int32 := if v < a then 0 else if b < v then 0 else 1

theorem dX7_fails_0 : decode cX7_fails 0 = .ok (.aload_n 0, 1) := by decide +kernel
theorem dX7_fails_1 : decode cX7_fails 1 = .ok (.iload_n 2, 1) := by decide +kernel
theorem dX7_fails_2 : decode cX7_fails 2 = .ok (.ifCond .eq 7, 3) := by decide +kernel
theorem dX7_fails_5 : decode cX7_fails 5 = .ok (.iload_n 1, 1) := by decide +kernel
theorem dX7_fails_6 : decode cX7_fails 6 = .ok (.goto 4, 3) := by decide +kernel
theorem dX7_fails_9 : decode cX7_fails 9 = .ok (.iconst 0, 1) := by decide +kernel
theorem dX7_fails_10 : decode cX7_fails 10 = .ok (.putfield 71, 3) := by decide +kernel
theorem dX7_fails_13 : decode cX7_fails 13 = .ok (.iload_n 2, 1) := by decide +kernel
theorem dX7_fails_14 : decode cX7_fails 14 = .ok (.ireturn, 1) := by decide +kernel
def rm_X7_fails : Room := { frames := 0, cells := 0, slots := 0, locals := 0 }
abbrev p_X7_fails (g : kG) (h : Nat) (zth : Int32) (zsz : Int32) (zch : Int32) (zsg : Int32) (zl1 : Int64) (zl2 : Int64) (zl3 : Int64) (zl4 : Int64) (zpb : Int32) (zln : Int32) (zat : Int32) (zrk : Int32) (zrv : Int32) (zre : Int32) (zwr : Int32) (zrm : Int32) (zrs : Int32) (zis : Int32) (zss : Int32) (zsc : Int32) (ak : Nat) (av : Nat) (bk : Nat) (bv : Nat) (br : Nat) (a_s : Nat) (a_t : Nat) (g1 : Nat) (g2 : Nat) (g3 : Nat) (pa : Nat) (ru : Nat) (tx : Nat) (dk : Nat) (dv : Nat) (ek : Nat) (ev : Nat) (er : Nat) (es : Nat) (et : Nat) (y : Int32) (b : Int32) : Int32 → va_W → Prop := fun r w1 => r = b ∧ w1 = [(h, .inr (9, [.int (if b = 0 then 0 else y), .int zsz, .int zch, .ref ak, .ref av, .ref bk, .ref bv, .ref br, .ref a_s, .ref a_t, .int zsg, .ref g1, .ref g2, .ref g3, .long zl1, .long zl2, .long zl3, .long zl4, .int zpb, .ref pa, .ref ru, .ref tx, .int zln, .int zat, .int zrk, .int zrv, .int zre, .int zwr, .int zrm, .int zrs, .int zis, .int zss, .int zsc, .ref dk, .ref dv, .ref ek, .ref ev, .ref er, .ref es, .ref et]))]
set_option maxHeartbeats 4000000 in
set_option maxRecDepth 100000 in
theorem c_X7_fails (l : Launch) (g : kG) (h : Nat) (zth : Int32) (zsz : Int32) (zch : Int32) (zsg : Int32) (zl1 : Int64) (zl2 : Int64) (zl3 : Int64) (zl4 : Int64) (zpb : Int32) (zln : Int32) (zat : Int32) (zrk : Int32) (zrv : Int32) (zre : Int32) (zwr : Int32) (zrm : Int32) (zrs : Int32) (zis : Int32) (zss : Int32) (zsc : Int32) (ak : Nat) (av : Nat) (bk : Nat) (bv : Nat) (br : Nat) (a_s : Nat) (a_t : Nat) (g1 : Nat) (g2 : Nat) (g3 : Nat) (pa : Nat) (ru : Nat) (tx : Nat) (dk : Nat) (dv : Nat) (ek : Nat) (ev : Nat) (er : Nat) (es : Nat) (et : Nat) (y : Int32) (b : Int32) (hb01 : b = 0 ∨ b = 1) : KI l yX7_fails wsX7_fails rm_X7_fails g [.ref h, .int y, .int b] [(h, .inr (9, [.int zth, .int zsz, .int zch, .ref ak, .ref av, .ref bk, .ref bv, .ref br, .ref a_s, .ref a_t, .int zsg, .ref g1, .ref g2, .ref g3, .long zl1, .long zl2, .long zl3, .long zl4, .int zpb, .ref pa, .ref ru, .ref tx, .int zln, .int zat, .int zrk, .int zrv, .int zre, .int zwr, .int zrm, .int zrs, .int zis, .int zss, .int zsc, .ref dk, .ref dv, .ref ek, .ref ev, .ref er, .ref es, .ref et]))] (p_X7_fails g h zth zsz zch zsg zl1 zl2 zl3 zl4 zpb zln zat zrk zrv zre zwr zrm zrs zis zss zsc ak av bk bv br a_s a_t g1 g2 g3 pa ru tx dk dv ek ev er es et y b) := by
  refine kbodyI (cc := cX7_fails) (n := 3) (k := 1) (own := RX7) (plainFor_of_name (by decide)) rfl rfl rfl rfl ?_
  intro p e s m below meth cd A ls hcx
  obtain ⟨hx, hb, hRt, hml, hts, hown, hlk, hA, hP, hK, hD, hE, hS, hl⟩ := hcx
  have hl : lv_has ls 3 [(0, .ref h), (1, .int y), (2, .int b)] := hl
  refine lv_aload_n hx hb dX7_fails_0 rfl (lv_at hl 0 rfl) ?_
  refine lv_iload_n hx hb dX7_fails_1 rfl (lv_at hl 2 rfl) ?_
  refine lv_if_eq (tgt := 9) hx hb dX7_fails_2 (by decide) (fun c_2 => ?_) (fun c_2 => ?_)
  · skip
    refine lv_iconst (v := 0) hx hb dX7_fails_9 (by decide) ?_
    refine va_put (D := g.1) (ci := 9) (v := .int 0) (ty := .int) (C := RX7) (T := TX7) (N := 40) hx hb hts (by decide +kernel) tyX7 tyX7_ok nmX7 hown hK hP hD hS 0 rfl rfl 0 (by decide) (hts (.fieldLink RX7 71 "LearnedIndexModel" "thrown" "I") (by decide +kernel)) (fun _ h9 => h9) rfl (by decide +kernel) rfl rfl (Nat.le_of_ble_eq_true rfl) dX7_fails_10 (fun H locs hP hD hS => ?_)
    have hP : va_P g.1 vwCl [(h, .inr (9, [.int 0, .int zsz, .int zch, .ref ak, .ref av, .ref bk, .ref bv, .ref br, .ref a_s, .ref a_t, .int zsg, .ref g1, .ref g2, .ref g3, .long zl1, .long zl2, .long zl3, .long zl4, .int zpb, .ref pa, .ref ru, .ref tx, .int zln, .int zat, .int zrk, .int zrv, .int zre, .int zwr, .int zrm, .int zrs, .int zis, .int zss, .int zsc, .ref dk, .ref dv, .ref ek, .ref ev, .ref er, .ref es, .ref et]))] H := hP
    have hD : va_D A [(h, .inr (9, [.int 0, .int zsz, .int zch, .ref ak, .ref av, .ref bk, .ref bv, .ref br, .ref a_s, .ref a_t, .int zsg, .ref g1, .ref g2, .ref g3, .long zl1, .long zl2, .long zl3, .long zl4, .int zpb, .ref pa, .ref ru, .ref tx, .int zln, .int zat, .int zrk, .int zrv, .int zre, .int zwr, .int zrm, .int zrs, .int zis, .int zss, .int zsc, .ref dk, .ref dv, .ref ek, .ref ev, .ref er, .ref es, .ref et]))] := hD
    refine lv_iload_n hx hb dX7_fails_13 rfl (lv_at hl 2 rfl) ?_
    exact kretz hx hb hRt hlk hK hP hD hS rfl dX7_fails_14 hb01 (⟨rfl, by rw [if_pos c_2]⟩)
  · skip
    refine lv_iload_n hx hb dX7_fails_5 rfl (lv_at hl 1 rfl) ?_
    refine lv_goto (tgt := 10) hx hb dX7_fails_6 (by decide) ?_
    refine va_put (D := g.1) (ci := 9) (v := .int y) (ty := .int) (C := RX7) (T := TX7) (N := 40) hx hb hts (by decide +kernel) tyX7 tyX7_ok nmX7 hown hK hP hD hS 0 rfl rfl 0 (by decide) (hts (.fieldLink RX7 71 "LearnedIndexModel" "thrown" "I") (by decide +kernel)) (fun _ h9 => h9) rfl (by decide +kernel) rfl rfl (Nat.le_of_ble_eq_true rfl) dX7_fails_10 (fun H locs hP hD hS => ?_)
    have hP : va_P g.1 vwCl [(h, .inr (9, [.int y, .int zsz, .int zch, .ref ak, .ref av, .ref bk, .ref bv, .ref br, .ref a_s, .ref a_t, .int zsg, .ref g1, .ref g2, .ref g3, .long zl1, .long zl2, .long zl3, .long zl4, .int zpb, .ref pa, .ref ru, .ref tx, .int zln, .int zat, .int zrk, .int zrv, .int zre, .int zwr, .int zrm, .int zrs, .int zis, .int zss, .int zsc, .ref dk, .ref dv, .ref ek, .ref ev, .ref er, .ref es, .ref et]))] H := hP
    have hD : va_D A [(h, .inr (9, [.int y, .int zsz, .int zch, .ref ak, .ref av, .ref bk, .ref bv, .ref br, .ref a_s, .ref a_t, .int zsg, .ref g1, .ref g2, .ref g3, .long zl1, .long zl2, .long zl3, .long zl4, .int zpb, .ref pa, .ref ru, .ref tx, .int zln, .int zat, .int zrk, .int zrv, .int zre, .int zwr, .int zrm, .int zrs, .int zis, .int zss, .int zsc, .ref dk, .ref dv, .ref ek, .ref ev, .ref er, .ref es, .ref et]))] := hD
    refine lv_iload_n hx hb dX7_fails_13 rfl (lv_at hl 2 rfl) ?_
    exact kretz hx hb hRt hlk hK hP hD hS rfl dX7_fails_14 hb01 (⟨rfl, by rw [if_neg c_2]⟩)
theorem dX7_isBetween_0 : decode cX7_isBetween 0 = .ok (.iload_n 0, 1) := by decide +kernel
theorem dX7_isBetween_1 : decode cX7_isBetween 1 = .ok (.iload_n 1, 1) := by decide +kernel
theorem dX7_isBetween_2 : decode cX7_isBetween 2 = .ok (.if_icmp .lt 12, 3) := by decide +kernel
theorem dX7_isBetween_5 : decode cX7_isBetween 5 = .ok (.iload_n 0, 1) := by decide +kernel
theorem dX7_isBetween_6 : decode cX7_isBetween 6 = .ok (.iload_n 2, 1) := by decide +kernel
theorem dX7_isBetween_7 : decode cX7_isBetween 7 = .ok (.if_icmp .gt 7, 3) := by decide +kernel
theorem dX7_isBetween_10 : decode cX7_isBetween 10 = .ok (.iconst 1, 1) := by decide +kernel
theorem dX7_isBetween_11 : decode cX7_isBetween 11 = .ok (.goto 4, 3) := by decide +kernel
theorem dX7_isBetween_14 : decode cX7_isBetween 14 = .ok (.iconst 0, 1) := by decide +kernel
theorem dX7_isBetween_15 : decode cX7_isBetween 15 = .ok (.ireturn, 1) := by decide +kernel
def rm_X7_isBetween : Room := { frames := 0, cells := 0, slots := 0, locals := 0 }
abbrev p_X7_isBetween (g : kG) (v : Int32) (a : Int32) (b : Int32) : Int32 → va_W → Prop := fun r w1 => r = isB v a b ∧ w1 = []
set_option maxHeartbeats 4000000 in
set_option maxRecDepth 100000 in
theorem c_X7_isBetween (l : Launch) (g : kG) (v : Int32) (a : Int32) (b : Int32) : KI l yX7_isBetween wsX7_isBetween rm_X7_isBetween g [.int v, .int a, .int b] [] (p_X7_isBetween g v a b) := by
  refine kbodyI (cc := cX7_isBetween) (n := 3) (k := 0) (own := RX7) (plainFor_of_name (by decide)) rfl rfl rfl rfl ?_
  intro p e s m below meth cd A ls hcx
  obtain ⟨hx, hb, hRt, hml, hts, hown, hlk, hA, hP, hK, hD, hE, hS, hl⟩ := hcx
  have hl : lv_has ls 3 [(0, .int v), (1, .int a), (2, .int b)] := hl
  refine lv_iload_n hx hb dX7_isBetween_0 rfl (lv_at hl 0 rfl) ?_
  refine lv_iload_n hx hb dX7_isBetween_1 rfl (lv_at hl 1 rfl) ?_
  refine lv_icmp_lt (tgt := 14) hx hb dX7_isBetween_2 (by decide) (fun c_2 => ?_) (fun c_2 => ?_)
  · skip
    refine lv_iconst (v := 0) hx hb dX7_isBetween_14 (by decide) ?_
    exact kretz hx hb hRt hlk hK hP hD hS rfl dX7_isBetween_15 (by decide) (⟨by simp [isB, c_2], rfl⟩)
  · skip
    refine lv_iload_n hx hb dX7_isBetween_5 rfl (lv_at hl 0 rfl) ?_
    refine lv_iload_n hx hb dX7_isBetween_6 rfl (lv_at hl 2 rfl) ?_
    refine lv_icmp_gt (tgt := 14) hx hb dX7_isBetween_7 (by decide) (fun c_7 => ?_) (fun c_7 => ?_)
    · skip
      refine lv_iconst (v := 0) hx hb dX7_isBetween_14 (by decide) ?_
      exact kretz hx hb hRt hlk hK hP hD hS rfl dX7_isBetween_15 (by decide) (⟨by simp [isB, c_2, c_7], rfl⟩)
    · skip
      refine lv_iconst (v := 1) hx hb dX7_isBetween_10 (by decide) ?_
      refine lv_goto (tgt := 15) hx hb dX7_isBetween_11 (by decide) ?_
      exact kretz hx hb hRt hlk hK hP hD hS rfl dX7_isBetween_15 (by decide) (⟨by simp [isB, c_2, c_7], rfl⟩)
set_option maxRecDepth 20000 in
theorem ggX7_isKey_X7_isBetween : GoodIn wsX7_isKey wsX7_isBetween := goodIn_r _ [4] (by decide +kernel) (by decide +kernel)
set_option maxRecDepth 20000 in
theorem gX7_isKey_X7_isBetween : GoodIn wsX7_isKey (va_wsS RX7 75 yX7_isBetween wsX7_isBetween) := goodIn_app (goodIn_of _ (by decide +kernel)) ggX7_isKey_X7_isBetween
theorem dX7_isKey_0 : decode cX7_isKey 0 = .ok (.iload_n 0, 1) := by decide +kernel
theorem dX7_isKey_1 : decode cX7_isKey 1 = .ok (.iconst 0, 1) := by decide +kernel
theorem dX7_isKey_2 : decode cX7_isKey 2 = .ok (.sipush 9999, 3) := by decide +kernel
theorem dX7_isKey_5 : decode cX7_isKey 5 = .ok (.invokestatic 75, 3) := by decide +kernel
theorem dX7_isKey_8 : decode cX7_isKey 8 = .ok (.ireturn, 1) := by decide +kernel
def rm_X7_isKey : Room := { frames := 1, cells := 0, slots := 0, locals := 22 }
abbrev p_X7_isKey (g : kG) (x : Int32) : Int32 → va_W → Prop := fun r w1 => r = kbool (decide (kyB x)) ∧ w1 = []
set_option maxHeartbeats 4000000 in
set_option maxRecDepth 100000 in
theorem c_X7_isKey (l : Launch) (g : kG) (x : Int32) : KI l yX7_isKey wsX7_isKey rm_X7_isKey g [.int x] [] (p_X7_isKey g x) := by
  refine kbodyI (cc := cX7_isKey) (n := 1) (k := 0) (own := RX7) (plainFor_of_name (by decide)) rfl rfl rfl rfl ?_
  intro p e s m below meth cd A ls hcx
  obtain ⟨hx, hb, hRt, hml, hts, hown, hlk, hA, hP, hK, hD, hE, hS, hl⟩ := hcx
  have hl : lv_has ls 1 [(0, .int x)] := hl
  refine lv_iload_n hx hb dX7_isKey_0 rfl (lv_at hl 0 rfl) ?_
  refine lv_iconst (v := 0) hx hb dX7_isKey_1 (by decide) ?_
  refine lv_sipush (v := 9999) hx hb dX7_isKey_2 (by decide) ?_
  refine kcalli (wc := []) [] (va_runS (As := [.int x, .int 0, .int 9999]) (rest := []) ⟨hx, hb, hml, hown, hts⟩ ((c_X7_isBetween l g x 0 9999) _) (va_cwS 3 hts gX7_isKey_X7_isBetween rfl rfl rfl (by decide +kernel) ⟨Nat.le_of_ble_eq_true rfl, Nat.le_of_ble_eq_true rfl⟩) (kpreS (wc := []) hK hP hD hS hA hE [] rfl rfl) rfl rfl hl.1 rfl (lv_room (Nat.le_of_ble_eq_true rfl)) dX7_isKey_5 ⟨Nat.zero_le _, Nat.zero_le _⟩) hP hD hS hA rfl (fun r_1 w_1 H locs hp hP hD hS => ?_)
  obtain ⟨rfl, rfl⟩ := hp
  have hP : va_P g.1 vwCl [] H := hP
  have hD : va_D A [] := hD
  exact kretz hx hb hRt hlk hK hP hD hS rfl dX7_isKey_8 (by simp only [isB]; split; exact Or.inl rfl; split; exact Or.inl rfl; exact Or.inr rfl) (⟨by simp only [isB, kyB]; by_cases z : x < 0; simp [z, kbool]; by_cases z2 : (9999 : Int32) < x; simp [z, z2, kbool]; simp [z, z2, kbool], rfl⟩)
theorem dX7_positionOf_0 : decode cX7_positionOf 0 = .ok (.iconst 0, 1) := by decide +kernel
theorem dX7_positionOf_1 : decode cX7_positionOf 1 = .ok (.istore_n 2, 1) := by decide +kernel
theorem dX7_positionOf_2 : decode cX7_positionOf 2 = .ok (.iload_n 2, 1) := by decide +kernel
theorem dX7_positionOf_3 : decode cX7_positionOf 3 = .ok (.aload_n 0, 1) := by decide +kernel
theorem dX7_positionOf_4 : decode cX7_positionOf 4 = .ok (.getfield 79, 3) := by decide +kernel
theorem dX7_positionOf_7 : decode cX7_positionOf 7 = .ok (.if_icmp .ge 21, 3) := by decide +kernel
theorem dX7_positionOf_10 : decode cX7_positionOf 10 = .ok (.aload_n 0, 1) := by decide +kernel
theorem dX7_positionOf_11 : decode cX7_positionOf 11 = .ok (.getfield 9, 3) := by decide +kernel
theorem dX7_positionOf_14 : decode cX7_positionOf 14 = .ok (.iload_n 2, 1) := by decide +kernel
theorem dX7_positionOf_15 : decode cX7_positionOf 15 = .ok (.iaload, 1) := by decide +kernel
theorem dX7_positionOf_16 : decode cX7_positionOf 16 = .ok (.iload_n 1, 1) := by decide +kernel
theorem dX7_positionOf_17 : decode cX7_positionOf 17 = .ok (.if_icmp .ne 5, 3) := by decide +kernel
theorem dX7_positionOf_20 : decode cX7_positionOf 20 = .ok (.iload_n 2, 1) := by decide +kernel
theorem dX7_positionOf_21 : decode cX7_positionOf 21 = .ok (.ireturn, 1) := by decide +kernel
theorem dX7_positionOf_22 : decode cX7_positionOf 22 = .ok (.iinc 2 1, 3) := by decide +kernel
theorem dX7_positionOf_25 : decode cX7_positionOf 25 = .ok (.goto (-23), 3) := by decide +kernel
theorem dX7_positionOf_28 : decode cX7_positionOf 28 = .ok (.iconst (-1), 1) := by decide +kernel
theorem dX7_positionOf_29 : decode cX7_positionOf 29 = .ok (.ireturn, 1) := by decide +kernel
def rm_X7_positionOf : Room := { frames := 0, cells := 0, slots := 0, locals := 0 }
abbrev p_X7_positionOf (g : kG) (h : Nat) (zth : Int32) (zch : Int32) (zsg : Int32) (zl1 : Int64) (zl2 : Int64) (zl3 : Int64) (zl4 : Int64) (zpb : Int32) (zln : Int32) (zat : Int32) (zrk : Int32) (zrv : Int32) (zre : Int32) (zwr : Int32) (zrm : Int32) (zrs : Int32) (zis : Int32) (zss : Int32) (zsc : Int32) (ak : Nat) (av : Nat) (bk : Nat) (bv : Nat) (br : Nat) (a_s : Nat) (a_t : Nat) (g1 : Nat) (g2 : Nat) (g3 : Nat) (pa : Nat) (ru : Nat) (tx : Nat) (dk : Nat) (dv : Nat) (ek : Nat) (ev : Nat) (er : Nat) (es : Nat) (et : Nat) (nA : Nat) (fk : Nat → Int32) (fv : Nat → Int32) (x : Int32) : Int32 → va_W → Prop := fun r w1 => ∃ (i : Nat), r = kfnd nA fk x i ∧ (kfst nA fk x i) ∧ w1 = [(h, .inr (9, [.int zth, .int (nI nA), .int zch, .ref ak, .ref av, .ref bk, .ref bv, .ref br, .ref a_s, .ref a_t, .int zsg, .ref g1, .ref g2, .ref g3, .long zl1, .long zl2, .long zl3, .long zl4, .int zpb, .ref pa, .ref ru, .ref tx, .int zln, .int zat, .int zrk, .int zrv, .int zre, .int zwr, .int zrm, .int zrs, .int zis, .int zss, .int zsc, .ref dk, .ref dv, .ref ek, .ref ev, .ref er, .ref es, .ref et])), (ak, .inl (g.2.1.1, 152, .inl fk))]
set_option maxHeartbeats 4000000 in
set_option maxRecDepth 100000 in
theorem c_X7_positionOf (l : Launch) (g : kG) (h : Nat) (zth : Int32) (zch : Int32) (zsg : Int32) (zl1 : Int64) (zl2 : Int64) (zl3 : Int64) (zl4 : Int64) (zpb : Int32) (zln : Int32) (zat : Int32) (zrk : Int32) (zrv : Int32) (zre : Int32) (zwr : Int32) (zrm : Int32) (zrs : Int32) (zis : Int32) (zss : Int32) (zsc : Int32) (ak : Nat) (av : Nat) (bk : Nat) (bv : Nat) (br : Nat) (a_s : Nat) (a_t : Nat) (g1 : Nat) (g2 : Nat) (g3 : Nat) (pa : Nat) (ru : Nat) (tx : Nat) (dk : Nat) (dv : Nat) (ek : Nat) (ev : Nat) (er : Nat) (es : Nat) (et : Nat) (nA : Nat) (fk : Nat → Int32) (fv : Nat → Int32) (x : Int32) (hso : kSo (EL nA fk fv fz0)) (hn : nA ≤ 152) : KI l yX7_positionOf wsX7_positionOf rm_X7_positionOf g [.ref h, .int x] [(h, .inr (9, [.int zth, .int (nI nA), .int zch, .ref ak, .ref av, .ref bk, .ref bv, .ref br, .ref a_s, .ref a_t, .int zsg, .ref g1, .ref g2, .ref g3, .long zl1, .long zl2, .long zl3, .long zl4, .int zpb, .ref pa, .ref ru, .ref tx, .int zln, .int zat, .int zrk, .int zrv, .int zre, .int zwr, .int zrm, .int zrs, .int zis, .int zss, .int zsc, .ref dk, .ref dv, .ref ek, .ref ev, .ref er, .ref es, .ref et])), (ak, .inl (g.2.1.1, 152, .inl fk))] (p_X7_positionOf g h zth zch zsg zl1 zl2 zl3 zl4 zpb zln zat zrk zrv zre zwr zrm zrs zis zss zsc ak av bk bv br a_s a_t g1 g2 g3 pa ru tx dk dv ek ev er es et nA fk fv x) := by
  refine kbodyI (cc := cX7_positionOf) (n := 3) (k := 2) (own := RX7) (plainFor_of_name (by decide)) rfl rfl rfl rfl ?_
  intro p e s m below meth cd A ls hcx
  obtain ⟨hx, hb, hRt, hml, hts, hown, hlk, hA, hP, hK, hD, hE, hS, hl⟩ := hcx
  have hl : lv_has ls 3 [(0, .ref h), (1, .int x)] := hl
  refine lv_iconst (v := 0) hx hb dX7_positionOf_0 (by decide) ?_
  refine lv_istore_n (lv' := [(2, .int 0), (0, .ref h), (1, .int x)]) hx hb dX7_positionOf_1 rfl hl (by decide) rfl (fun ls hl => ?_)
  have L2 : ∀ (n9 : Nat) (i : Nat) (H : Heap) (locs : List Loc) (ls : Array Slot), (i ≤ nA) → (∀ j, j < i → ¬ fk j = x) → nA - i < n9 → va_P g.1 vwCl [(h, .inr (9, [.int zth, .int (nI nA), .int zch, .ref ak, .ref av, .ref bk, .ref bv, .ref br, .ref a_s, .ref a_t, .int zsg, .ref g1, .ref g2, .ref g3, .long zl1, .long zl2, .long zl3, .long zl4, .int zpb, .ref pa, .ref ru, .ref tx, .int zln, .int zat, .int zrk, .int zrv, .int zre, .int zwr, .int zrm, .int zrs, .int zis, .int zss, .int zsc, .ref dk, .ref dv, .ref ek, .ref ev, .ref er, .ref es, .ref et])), (ak, .inl (g.2.1.1, 152, .inl fk))] H → va_D A [(h, .inr (9, [.int zth, .int (nI nA), .int zch, .ref ak, .ref av, .ref bk, .ref bv, .ref br, .ref a_s, .ref a_t, .int zsg, .ref g1, .ref g2, .ref g3, .long zl1, .long zl2, .long zl3, .long zl4, .int zpb, .ref pa, .ref ru, .ref tx, .int zln, .int zat, .int zrk, .int zrv, .int zre, .int zwr, .int zrm, .int zrs, .int zis, .int zss, .int zsc, .ref dk, .ref dv, .ref ek, .ref ev, .ref er, .ref es, .ref et])), (ak, .inl (g.2.1.1, 152, .inl fk))] → va_S A s.heap H locs → lv_has ls 3 [(2, .int (nI i)), (0, .ref h), (1, .int x)] → W p l e rm_X7_positionOf s m ([.ref h, .int x] : List Value).toArray below meth cd H locs 0 0 (kQi g 2 A (p_X7_positionOf g h zth zch zsg zl1 zl2 zl3 zl4 zpb zln zat zrk zrv zre zwr zrm zrs zis zss zsc ak av bk bv br a_s a_t g1 g2 g3 pa ru tx dk dv ek ev er es et nA fk fv x) below ([.ref h, .int x] : List Value).toArray s) (F0 m 2 ls []) := by
    intro n9
    induction n9 with
    | zero => intro i H locs ls hi hne h9; exact absurd h9 (Nat.not_lt_zero _)
    | succ n9 ih2 =>
      intro i H locs ls hi hne hn2 hP hD hS hl
      refine lv_iload_n hx hb dX7_positionOf_2 rfl (lv_at hl 0 rfl) ?_
      refine lv_aload_n hx hb dX7_positionOf_3 rfl (lv_at hl 1 rfl) ?_
      refine va_get (D := g.1) (ci := 9) (v := .int (nI nA)) (C := RX7) (T := TX7) (N := 40) hx hb hts (by decide +kernel) hown hK hP 0 rfl rfl 1 (by decide) (hts (.fieldLink RX7 79 "LearnedIndexModel" "size" "I") (by decide +kernel)) (fun _ h9 => h9) rfl dX7_positionOf_4 ?_
      refine lv_icmp_ge (tgt := 28) hx hb dX7_positionOf_7 (by decide) (fun c_7 => ?_) (fun c_7 => ?_)
      · skip
        have hin : nA ≤ i := kg (by omega) (by omega) c_7
        obtain ⟨j, hj⟩ := kfst_ex fk x nA
        refine lv_iconst (v := (-1)) hx hb dX7_positionOf_28 (by decide) ?_
        exact kreti hx hb hRt hlk hK hP hD hS rfl dX7_positionOf_29 (⟨j, (kfnd_no (fun k hk => hne k (by omega))).symm, hj, rfl⟩)
      · skip
        have hin : i < nA := kl (by omega) (by omega) c_7
        refine lv_aload_n hx hb dX7_positionOf_10 rfl (lv_at hl 1 rfl) ?_
        refine va_get (D := g.1) (ci := 9) (v := .ref ak) (C := RX7) (T := TX7) (N := 40) hx hb hts (by decide +kernel) hown hK hP 0 rfl rfl 3 (by decide) (hts (.fieldLink RX7 9 "LearnedIndexModel" "keys" "[I") (by decide +kernel)) (fun _ h9 => h9) rfl dX7_positionOf_11 ?_
        refine lv_iload_n hx hb dX7_positionOf_14 rfl (lv_at hl 0 rfl) ?_
        refine va_iald hx hb hK hP 1 0 rfl rfl (vp_in_nI (show i < 152 by omega) (by omega)) dX7_positionOf_15 ?_
        rw [show (nI i : Int32).toNatClampNeg = i from nI_clamp (n := i) (by omega)]
        refine lv_iload_n hx hb dX7_positionOf_16 rfl (lv_at hl 2 rfl) ?_
        refine lv_icmp_ne (tgt := 22) hx hb dX7_positionOf_17 (by decide) (fun c_17 => ?_) (fun c_17 => ?_)
        · skip
          have hne2 : ∀ j, j < i + 1 → ¬ fk j = x := fun j hj => (Nat.lt_succ_iff_lt_or_eq.mp hj).elim (hne j) (fun z => by rw [z]; exact c_17)
          refine lv_iinc (v := nI (i + 1)) (lv' := [(2, .int (nI (i + 1))), (0, .ref h), (1, .int x)]) hx hb dX7_positionOf_22 hl (k := 0) rfl (nI_1 i) (by decide) rfl (fun ls hl => ?_)
          refine lv_goto (tgt := 2) hx hb dX7_positionOf_25 (by decide) ?_
          exact ih2 (i + 1) _ _ ls hin hne2 (by omega) hP hD hS (lv_sub hl [0, 1, 2] rfl)
        · skip
          subst c_17
          refine lv_iload_n hx hb dX7_positionOf_20 rfl (lv_at hl 0 rfl) ?_
          exact kreti hx hb hRt hlk hK hP hD hS rfl dX7_positionOf_21 (⟨i, (kfst_at hso hin).2.symm, (kfst_at hso hin).1, rfl⟩)
  exact L2 _ 0 _ _ ls (Nat.zero_le _) (fun j hj => absurd hj (Nat.not_lt_zero _)) (Nat.lt_succ_self _) hP hD hS (lv_sub hl [0, 1, 2] rfl)
theorem dX7_changeOf_0 : decode cX7_changeOf 0 = .ok (.iconst 0, 1) := by decide +kernel
theorem dX7_changeOf_1 : decode cX7_changeOf 1 = .ok (.istore_n 2, 1) := by decide +kernel
theorem dX7_changeOf_2 : decode cX7_changeOf 2 = .ok (.iload_n 2, 1) := by decide +kernel
theorem dX7_changeOf_3 : decode cX7_changeOf 3 = .ok (.aload_n 0, 1) := by decide +kernel
theorem dX7_changeOf_4 : decode cX7_changeOf 4 = .ok (.getfield 82, 3) := by decide +kernel
theorem dX7_changeOf_7 : decode cX7_changeOf 7 = .ok (.if_icmp .ge 21, 3) := by decide +kernel
theorem dX7_changeOf_10 : decode cX7_changeOf 10 = .ok (.aload_n 0, 1) := by decide +kernel
theorem dX7_changeOf_11 : decode cX7_changeOf 11 = .ok (.getfield 16, 3) := by decide +kernel
theorem dX7_changeOf_14 : decode cX7_changeOf 14 = .ok (.iload_n 2, 1) := by decide +kernel
theorem dX7_changeOf_15 : decode cX7_changeOf 15 = .ok (.iaload, 1) := by decide +kernel
theorem dX7_changeOf_16 : decode cX7_changeOf 16 = .ok (.iload_n 1, 1) := by decide +kernel
theorem dX7_changeOf_17 : decode cX7_changeOf 17 = .ok (.if_icmp .ne 5, 3) := by decide +kernel
theorem dX7_changeOf_20 : decode cX7_changeOf 20 = .ok (.iload_n 2, 1) := by decide +kernel
theorem dX7_changeOf_21 : decode cX7_changeOf 21 = .ok (.ireturn, 1) := by decide +kernel
theorem dX7_changeOf_22 : decode cX7_changeOf 22 = .ok (.iinc 2 1, 3) := by decide +kernel
theorem dX7_changeOf_25 : decode cX7_changeOf 25 = .ok (.goto (-23), 3) := by decide +kernel
theorem dX7_changeOf_28 : decode cX7_changeOf 28 = .ok (.iconst (-1), 1) := by decide +kernel
theorem dX7_changeOf_29 : decode cX7_changeOf 29 = .ok (.ireturn, 1) := by decide +kernel
def rm_X7_changeOf : Room := { frames := 0, cells := 0, slots := 0, locals := 0 }
abbrev p_X7_changeOf (g : kG) (h : Nat) (zth : Int32) (zsz : Int32) (zsg : Int32) (zl1 : Int64) (zl2 : Int64) (zl3 : Int64) (zl4 : Int64) (zpb : Int32) (zln : Int32) (zat : Int32) (zrk : Int32) (zrv : Int32) (zre : Int32) (zwr : Int32) (zrm : Int32) (zrs : Int32) (zis : Int32) (zss : Int32) (zsc : Int32) (ak : Nat) (av : Nat) (bk : Nat) (bv : Nat) (br : Nat) (a_s : Nat) (a_t : Nat) (g1 : Nat) (g2 : Nat) (g3 : Nat) (pa : Nat) (ru : Nat) (tx : Nat) (dk : Nat) (dv : Nat) (ek : Nat) (ev : Nat) (er : Nat) (es : Nat) (et : Nat) (nB : Nat) (ck : Nat → Int32) (cv : Nat → Int32) (cr : Nat → Int32) (x : Int32) : Int32 → va_W → Prop := fun r w1 => ∃ (i : Nat), r = kfnd nB ck x i ∧ (kfst nB ck x i) ∧ w1 = [(h, .inr (9, [.int zth, .int zsz, .int (nI nB), .ref ak, .ref av, .ref bk, .ref bv, .ref br, .ref a_s, .ref a_t, .int zsg, .ref g1, .ref g2, .ref g3, .long zl1, .long zl2, .long zl3, .long zl4, .int zpb, .ref pa, .ref ru, .ref tx, .int zln, .int zat, .int zrk, .int zrv, .int zre, .int zwr, .int zrm, .int zrs, .int zis, .int zss, .int zsc, .ref dk, .ref dv, .ref ek, .ref ev, .ref er, .ref es, .ref et])), (bk, .inl (g.2.1.1, 24, .inl ck))]
set_option maxHeartbeats 4000000 in
set_option maxRecDepth 100000 in
theorem c_X7_changeOf (l : Launch) (g : kG) (h : Nat) (zth : Int32) (zsz : Int32) (zsg : Int32) (zl1 : Int64) (zl2 : Int64) (zl3 : Int64) (zl4 : Int64) (zpb : Int32) (zln : Int32) (zat : Int32) (zrk : Int32) (zrv : Int32) (zre : Int32) (zwr : Int32) (zrm : Int32) (zrs : Int32) (zis : Int32) (zss : Int32) (zsc : Int32) (ak : Nat) (av : Nat) (bk : Nat) (bv : Nat) (br : Nat) (a_s : Nat) (a_t : Nat) (g1 : Nat) (g2 : Nat) (g3 : Nat) (pa : Nat) (ru : Nat) (tx : Nat) (dk : Nat) (dv : Nat) (ek : Nat) (ev : Nat) (er : Nat) (es : Nat) (et : Nat) (nB : Nat) (ck : Nat → Int32) (cv : Nat → Int32) (cr : Nat → Int32) (x : Int32) (hso : kSo (EL nB ck cv cr)) (hn : nB ≤ 24) : KI l yX7_changeOf wsX7_changeOf rm_X7_changeOf g [.ref h, .int x] [(h, .inr (9, [.int zth, .int zsz, .int (nI nB), .ref ak, .ref av, .ref bk, .ref bv, .ref br, .ref a_s, .ref a_t, .int zsg, .ref g1, .ref g2, .ref g3, .long zl1, .long zl2, .long zl3, .long zl4, .int zpb, .ref pa, .ref ru, .ref tx, .int zln, .int zat, .int zrk, .int zrv, .int zre, .int zwr, .int zrm, .int zrs, .int zis, .int zss, .int zsc, .ref dk, .ref dv, .ref ek, .ref ev, .ref er, .ref es, .ref et])), (bk, .inl (g.2.1.1, 24, .inl ck))] (p_X7_changeOf g h zth zsz zsg zl1 zl2 zl3 zl4 zpb zln zat zrk zrv zre zwr zrm zrs zis zss zsc ak av bk bv br a_s a_t g1 g2 g3 pa ru tx dk dv ek ev er es et nB ck cv cr x) := by
  refine kbodyI (cc := cX7_changeOf) (n := 3) (k := 2) (own := RX7) (plainFor_of_name (by decide)) rfl rfl rfl rfl ?_
  intro p e s m below meth cd A ls hcx
  obtain ⟨hx, hb, hRt, hml, hts, hown, hlk, hA, hP, hK, hD, hE, hS, hl⟩ := hcx
  have hl : lv_has ls 3 [(0, .ref h), (1, .int x)] := hl
  refine lv_iconst (v := 0) hx hb dX7_changeOf_0 (by decide) ?_
  refine lv_istore_n (lv' := [(2, .int 0), (0, .ref h), (1, .int x)]) hx hb dX7_changeOf_1 rfl hl (by decide) rfl (fun ls hl => ?_)
  have L2 : ∀ (n9 : Nat) (i : Nat) (H : Heap) (locs : List Loc) (ls : Array Slot), (i ≤ nB) → (∀ j, j < i → ¬ ck j = x) → nB - i < n9 → va_P g.1 vwCl [(h, .inr (9, [.int zth, .int zsz, .int (nI nB), .ref ak, .ref av, .ref bk, .ref bv, .ref br, .ref a_s, .ref a_t, .int zsg, .ref g1, .ref g2, .ref g3, .long zl1, .long zl2, .long zl3, .long zl4, .int zpb, .ref pa, .ref ru, .ref tx, .int zln, .int zat, .int zrk, .int zrv, .int zre, .int zwr, .int zrm, .int zrs, .int zis, .int zss, .int zsc, .ref dk, .ref dv, .ref ek, .ref ev, .ref er, .ref es, .ref et])), (bk, .inl (g.2.1.1, 24, .inl ck))] H → va_D A [(h, .inr (9, [.int zth, .int zsz, .int (nI nB), .ref ak, .ref av, .ref bk, .ref bv, .ref br, .ref a_s, .ref a_t, .int zsg, .ref g1, .ref g2, .ref g3, .long zl1, .long zl2, .long zl3, .long zl4, .int zpb, .ref pa, .ref ru, .ref tx, .int zln, .int zat, .int zrk, .int zrv, .int zre, .int zwr, .int zrm, .int zrs, .int zis, .int zss, .int zsc, .ref dk, .ref dv, .ref ek, .ref ev, .ref er, .ref es, .ref et])), (bk, .inl (g.2.1.1, 24, .inl ck))] → va_S A s.heap H locs → lv_has ls 3 [(2, .int (nI i)), (0, .ref h), (1, .int x)] → W p l e rm_X7_changeOf s m ([.ref h, .int x] : List Value).toArray below meth cd H locs 0 0 (kQi g 2 A (p_X7_changeOf g h zth zsz zsg zl1 zl2 zl3 zl4 zpb zln zat zrk zrv zre zwr zrm zrs zis zss zsc ak av bk bv br a_s a_t g1 g2 g3 pa ru tx dk dv ek ev er es et nB ck cv cr x) below ([.ref h, .int x] : List Value).toArray s) (F0 m 2 ls []) := by
    intro n9
    induction n9 with
    | zero => intro i H locs ls hi hne h9; exact absurd h9 (Nat.not_lt_zero _)
    | succ n9 ih2 =>
      intro i H locs ls hi hne hn2 hP hD hS hl
      refine lv_iload_n hx hb dX7_changeOf_2 rfl (lv_at hl 0 rfl) ?_
      refine lv_aload_n hx hb dX7_changeOf_3 rfl (lv_at hl 1 rfl) ?_
      refine va_get (D := g.1) (ci := 9) (v := .int (nI nB)) (C := RX7) (T := TX7) (N := 40) hx hb hts (by decide +kernel) hown hK hP 0 rfl rfl 2 (by decide) (hts (.fieldLink RX7 82 "LearnedIndexModel" "changes" "I") (by decide +kernel)) (fun _ h9 => h9) rfl dX7_changeOf_4 ?_
      refine lv_icmp_ge (tgt := 28) hx hb dX7_changeOf_7 (by decide) (fun c_7 => ?_) (fun c_7 => ?_)
      · skip
        have hin : nB ≤ i := kg (by omega) (by omega) c_7
        obtain ⟨j, hj⟩ := kfst_ex ck x nB
        refine lv_iconst (v := (-1)) hx hb dX7_changeOf_28 (by decide) ?_
        exact kreti hx hb hRt hlk hK hP hD hS rfl dX7_changeOf_29 (⟨j, (kfnd_no (fun k hk => hne k (by omega))).symm, hj, rfl⟩)
      · skip
        have hin : i < nB := kl (by omega) (by omega) c_7
        refine lv_aload_n hx hb dX7_changeOf_10 rfl (lv_at hl 1 rfl) ?_
        refine va_get (D := g.1) (ci := 9) (v := .ref bk) (C := RX7) (T := TX7) (N := 40) hx hb hts (by decide +kernel) hown hK hP 0 rfl rfl 5 (by decide) (hts (.fieldLink RX7 16 "LearnedIndexModel" "changedKeys" "[I") (by decide +kernel)) (fun _ h9 => h9) rfl dX7_changeOf_11 ?_
        refine lv_iload_n hx hb dX7_changeOf_14 rfl (lv_at hl 0 rfl) ?_
        refine va_iald hx hb hK hP 1 0 rfl rfl (vp_in_nI (show i < 24 by omega) (by omega)) dX7_changeOf_15 ?_
        rw [show (nI i : Int32).toNatClampNeg = i from nI_clamp (n := i) (by omega)]
        refine lv_iload_n hx hb dX7_changeOf_16 rfl (lv_at hl 2 rfl) ?_
        refine lv_icmp_ne (tgt := 22) hx hb dX7_changeOf_17 (by decide) (fun c_17 => ?_) (fun c_17 => ?_)
        · skip
          have hne2 : ∀ j, j < i + 1 → ¬ ck j = x := fun j hj => (Nat.lt_succ_iff_lt_or_eq.mp hj).elim (hne j) (fun z => by rw [z]; exact c_17)
          refine lv_iinc (v := nI (i + 1)) (lv' := [(2, .int (nI (i + 1))), (0, .ref h), (1, .int x)]) hx hb dX7_changeOf_22 hl (k := 0) rfl (nI_1 i) (by decide) rfl (fun ls hl => ?_)
          refine lv_goto (tgt := 2) hx hb dX7_changeOf_25 (by decide) ?_
          exact ih2 (i + 1) _ _ ls hin hne2 (by omega) hP hD hS (lv_sub hl [0, 1, 2] rfl)
        · skip
          subst c_17
          refine lv_iload_n hx hb dX7_changeOf_20 rfl (lv_at hl 0 rfl) ?_
          exact kreti hx hb hRt hlk hK hP hD hS rfl dX7_changeOf_21 (⟨i, (kfst_at hso hin).2.symm, (kfst_at hso hin).1, rfl⟩)
  exact L2 _ 0 _ _ ls (Nat.zero_le _) (fun j hj => absurd hj (Nat.not_lt_zero _)) (Nat.lt_succ_self _) hP hD hS (lv_sub hl [0, 1, 2] rfl)
set_option maxRecDepth 20000 in
theorem ggX7_isThere_X7_changeOf : GoodIn wsX7_isThere wsX7_changeOf := goodIn_ca (goodIn_r _ [6, 7, 8, 15, 16, 17, 18, 19, 20, 21, 22, 23, 24, 25, 26, 27, 28, 29, 30, 31, 32, 33, 34, 35, 36, 37, 38, 39, 40, 41, 42, 43, 44, 45, 46, 47, 48, 49, 50, 51, 52, 53, 54] (by decide +kernel) (by decide +kernel)) (goodIn_sub (fun _ h => List.mem_cons_of_mem _ (List.mem_append_right _ h)) (by decide +kernel))
set_option maxRecDepth 20000 in
theorem gX7_isThere_X7_changeOf : GoodIn wsX7_isThere (wsV RX7 85 RX7 yX7_changeOf wsX7_changeOf) := goodIn_app (goodIn_of _ (by decide +kernel)) ggX7_isThere_X7_changeOf
set_option maxRecDepth 20000 in
theorem ggX7_isThere_X7_positionOf : GoodIn wsX7_isThere wsX7_positionOf := goodIn_ca (goodIn_r _ [12, 13, 14, 15, 16, 17, 18, 19, 20, 21, 22, 23, 24, 25, 26, 27, 28, 29, 30, 31, 32, 33, 34, 35, 36, 37, 38, 39, 40, 41, 42, 43, 44, 45, 46, 47, 48, 49, 50, 51, 52, 53, 54] (by decide +kernel) (by decide +kernel)) (goodIn_sub (fun _ h => List.mem_cons_of_mem _ (List.mem_append_right _ h)) (by decide +kernel))
set_option maxRecDepth 20000 in
theorem gX7_isThere_X7_positionOf : GoodIn wsX7_isThere (wsV RX7 89 RX7 yX7_positionOf wsX7_positionOf) := goodIn_app (goodIn_of _ (by decide +kernel)) ggX7_isThere_X7_positionOf
theorem dX7_isThere_0 : decode cX7_isThere 0 = .ok (.aload_n 0, 1) := by decide +kernel
theorem dX7_isThere_1 : decode cX7_isThere 1 = .ok (.iload_n 1, 1) := by decide +kernel
theorem dX7_isThere_2 : decode cX7_isThere 2 = .ok (.invokevirtual 85, 3) := by decide +kernel
theorem dX7_isThere_5 : decode cX7_isThere 5 = .ok (.istore_n 2, 1) := by decide +kernel
theorem dX7_isThere_6 : decode cX7_isThere 6 = .ok (.iload_n 2, 1) := by decide +kernel
theorem dX7_isThere_7 : decode cX7_isThere 7 = .ok (.ifCond .ge 19, 3) := by decide +kernel
theorem dX7_isThere_10 : decode cX7_isThere 10 = .ok (.aload_n 0, 1) := by decide +kernel
theorem dX7_isThere_11 : decode cX7_isThere 11 = .ok (.iload_n 1, 1) := by decide +kernel
theorem dX7_isThere_12 : decode cX7_isThere 12 = .ok (.invokevirtual 89, 3) := by decide +kernel
theorem dX7_isThere_15 : decode cX7_isThere 15 = .ok (.ifCond .lt 7, 3) := by decide +kernel
theorem dX7_isThere_18 : decode cX7_isThere 18 = .ok (.iconst 1, 1) := by decide +kernel
theorem dX7_isThere_19 : decode cX7_isThere 19 = .ok (.goto 21, 3) := by decide +kernel
theorem dX7_isThere_22 : decode cX7_isThere 22 = .ok (.iconst 0, 1) := by decide +kernel
theorem dX7_isThere_23 : decode cX7_isThere 23 = .ok (.goto 17, 3) := by decide +kernel
theorem dX7_isThere_26 : decode cX7_isThere 26 = .ok (.aload_n 0, 1) := by decide +kernel
theorem dX7_isThere_27 : decode cX7_isThere 27 = .ok (.getfield 22, 3) := by decide +kernel
theorem dX7_isThere_30 : decode cX7_isThere 30 = .ok (.iload_n 2, 1) := by decide +kernel
theorem dX7_isThere_31 : decode cX7_isThere 31 = .ok (.iaload, 1) := by decide +kernel
theorem dX7_isThere_32 : decode cX7_isThere 32 = .ok (.ifCond .ne 7, 3) := by decide +kernel
theorem dX7_isThere_35 : decode cX7_isThere 35 = .ok (.iconst 1, 1) := by decide +kernel
theorem dX7_isThere_36 : decode cX7_isThere 36 = .ok (.goto 4, 3) := by decide +kernel
theorem dX7_isThere_39 : decode cX7_isThere 39 = .ok (.iconst 0, 1) := by decide +kernel
theorem dX7_isThere_40 : decode cX7_isThere 40 = .ok (.ireturn, 1) := by decide +kernel
def rm_X7_isThere : Room := { frames := 1, cells := 0, slots := 0, locals := 22 }
abbrev p_X7_isThere (g : kG) (h : Nat) (zth : Int32) (zsg : Int32) (zl1 : Int64) (zl2 : Int64) (zl3 : Int64) (zl4 : Int64) (zpb : Int32) (zln : Int32) (zat : Int32) (zrk : Int32) (zrv : Int32) (zre : Int32) (zwr : Int32) (zrm : Int32) (zrs : Int32) (zis : Int32) (zss : Int32) (zsc : Int32) (ak : Nat) (av : Nat) (bk : Nat) (bv : Nat) (br : Nat) (a_s : Nat) (a_t : Nat) (g1 : Nat) (g2 : Nat) (g3 : Nat) (pa : Nat) (ru : Nat) (tx : Nat) (dk : Nat) (dv : Nat) (ek : Nat) (ev : Nat) (er : Nat) (es : Nat) (et : Nat) (nA : Nat) (fk : Nat → Int32) (fv : Nat → Int32) (nB : Nat) (ck : Nat → Int32) (cv : Nat → Int32) (cr : Nat → Int32) (M : List kE3) (C : List kE3) (x : Int32) : Int32 → va_W → Prop := fun r w1 => r = kbool (hasS M C x) ∧ w1 = [(h, .inr (9, [.int zth, .int (nI nA), .int (nI nB), .ref ak, .ref av, .ref bk, .ref bv, .ref br, .ref a_s, .ref a_t, .int zsg, .ref g1, .ref g2, .ref g3, .long zl1, .long zl2, .long zl3, .long zl4, .int zpb, .ref pa, .ref ru, .ref tx, .int zln, .int zat, .int zrk, .int zrv, .int zre, .int zwr, .int zrm, .int zrs, .int zis, .int zss, .int zsc, .ref dk, .ref dv, .ref ek, .ref ev, .ref er, .ref es, .ref et])), (ak, .inl (g.2.1.1, 152, .inl fk)), (av, .inl (g.2.1.1, 152, .inl fv)), (bk, .inl (g.2.1.1, 24, .inl ck)), (bv, .inl (g.2.1.1, 24, .inl cv)), (br, .inl (g.2.1.1, 24, .inl cr))]
set_option maxHeartbeats 4000000 in
set_option maxRecDepth 100000 in
theorem c_X7_isThere (l : Launch) (g : kG) (h : Nat) (zth : Int32) (zsg : Int32) (zl1 : Int64) (zl2 : Int64) (zl3 : Int64) (zl4 : Int64) (zpb : Int32) (zln : Int32) (zat : Int32) (zrk : Int32) (zrv : Int32) (zre : Int32) (zwr : Int32) (zrm : Int32) (zrs : Int32) (zis : Int32) (zss : Int32) (zsc : Int32) (ak : Nat) (av : Nat) (bk : Nat) (bv : Nat) (br : Nat) (a_s : Nat) (a_t : Nat) (g1 : Nat) (g2 : Nat) (g3 : Nat) (pa : Nat) (ru : Nat) (tx : Nat) (dk : Nat) (dv : Nat) (ek : Nat) (ev : Nat) (er : Nat) (es : Nat) (et : Nat) (nA : Nat) (fk : Nat → Int32) (fv : Nat → Int32) (nB : Nat) (ck : Nat → Int32) (cv : Nat → Int32) (cr : Nat → Int32) (M : List kE3) (C : List kE3) (x : Int32) (hMM : kMM nA fk fv nB ck cv cr M C) : KI l yX7_isThere wsX7_isThere rm_X7_isThere g [.ref h, .int x] [(h, .inr (9, [.int zth, .int (nI nA), .int (nI nB), .ref ak, .ref av, .ref bk, .ref bv, .ref br, .ref a_s, .ref a_t, .int zsg, .ref g1, .ref g2, .ref g3, .long zl1, .long zl2, .long zl3, .long zl4, .int zpb, .ref pa, .ref ru, .ref tx, .int zln, .int zat, .int zrk, .int zrv, .int zre, .int zwr, .int zrm, .int zrs, .int zis, .int zss, .int zsc, .ref dk, .ref dv, .ref ek, .ref ev, .ref er, .ref es, .ref et])), (ak, .inl (g.2.1.1, 152, .inl fk)), (av, .inl (g.2.1.1, 152, .inl fv)), (bk, .inl (g.2.1.1, 24, .inl ck)), (bv, .inl (g.2.1.1, 24, .inl cv)), (br, .inl (g.2.1.1, 24, .inl cr))] (p_X7_isThere g h zth zsg zl1 zl2 zl3 zl4 zpb zln zat zrk zrv zre zwr zrm zrs zis zss zsc ak av bk bv br a_s a_t g1 g2 g3 pa ru tx dk dv ek ev er es et nA fk fv nB ck cv cr M C x) := by
  refine kbodyI (cc := cX7_isThere) (n := 3) (k := 6) (own := RX7) (plainFor_of_name (by decide)) rfl rfl rfl rfl ?_
  intro p e s m below meth cd A ls hcx
  obtain ⟨hx, hb, hRt, hml, hts, hown, hlk, hA, hP, hK, hD, hE, hS, hl⟩ := hcx
  have hl : lv_has ls 3 [(0, .ref h), (1, .int x)] := hl
  obtain ⟨⟨hM, hC⟩, ⟨hnM, hnC⟩, ⟨hIM, hIC⟩, hlen, hrem⟩ := id hMM
  have hsM : kSo (EL nA fk fv fz0) := by rw [hM]; exact hIM.1
  have hsC : kSo (EL nB ck cv cr) := by rw [hC]; exact hIC.1
  have hnl : nA = M.length := by rw [← hM, EL_len]
  have hcl : nB = C.length := by rw [← hC, EL_len]
  refine lv_aload_n hx hb dX7_isThere_0 rfl (lv_at hl 0 rfl) ?_
  refine lv_iload_n hx hb dX7_isThere_1 rfl (lv_at hl 1 rfl) ?_
  refine kcalli (wc := [(h, .inr (9, [.int zth, .int (nI nA), .int (nI nB), .ref ak, .ref av, .ref bk, .ref bv, .ref br, .ref a_s, .ref a_t, .int zsg, .ref g1, .ref g2, .ref g3, .long zl1, .long zl2, .long zl3, .long zl4, .int zpb, .ref pa, .ref ru, .ref tx, .int zln, .int zat, .int zrk, .int zrv, .int zre, .int zwr, .int zrm, .int zrs, .int zis, .int zss, .int zsc, .ref dk, .ref dv, .ref ek, .ref ev, .ref er, .ref es, .ref et])), (bk, .inl (g.2.1.1, 24, .inl ck))]) [0, 3] (va_runV (C := RX7) (As := [.int x]) (rest := []) ⟨hx, hb, hml, hown, hts⟩ ((c_X7_changeOf l g h zth (nI nA) zsg zl1 zl2 zl3 zl4 zpb zln zat zrk zrv zre zwr zrm zrs zis zss zsc ak av bk bv br a_s a_t g1 g2 g3 pa ru tx dk dv ek ev er es et nB ck cv cr x hsC (by omega)) _) (cwV 1 hts gX7_isThere_X7_changeOf rfl rfl rfl (by decide +kernel) ⟨Nat.le_of_ble_eq_true rfl, Nat.le_of_ble_eq_true rfl⟩) (kpreV (wc := [(h, .inr (9, [.int zth, .int (nI nA), .int (nI nB), .ref ak, .ref av, .ref bk, .ref bv, .ref br, .ref a_s, .ref a_t, .int zsg, .ref g1, .ref g2, .ref g3, .long zl1, .long zl2, .long zl3, .long zl4, .int zpb, .ref pa, .ref ru, .ref tx, .int zln, .int zat, .int zrk, .int zrv, .int zre, .int zwr, .int zrm, .int zrs, .int zis, .int zss, .int zsc, .ref dk, .ref dv, .ref ek, .ref ev, .ref er, .ref es, .ref et])), (bk, .inl (g.2.1.1, 24, .inl ck))]) (ci := 9) hK hP hD hS hA hE [0, 3] rfl rfl rfl rfl) rfl rfl hl.1 rfl (lv_room (Nat.le_of_ble_eq_true rfl)) dX7_isThere_2 ⟨Nat.zero_le _, Nat.zero_le _⟩) hP hD hS hA rfl (fun r_1 w_1 H locs hp hP hD hS => ?_)
  obtain ⟨ic, rfl, hfc, rfl⟩ := hp
  have hP : va_P g.1 vwCl [(h, .inr (9, [.int zth, .int (nI nA), .int (nI nB), .ref ak, .ref av, .ref bk, .ref bv, .ref br, .ref a_s, .ref a_t, .int zsg, .ref g1, .ref g2, .ref g3, .long zl1, .long zl2, .long zl3, .long zl4, .int zpb, .ref pa, .ref ru, .ref tx, .int zln, .int zat, .int zrk, .int zrv, .int zre, .int zwr, .int zrm, .int zrs, .int zis, .int zss, .int zsc, .ref dk, .ref dv, .ref ek, .ref ev, .ref er, .ref es, .ref et])), (ak, .inl (g.2.1.1, 152, .inl fk)), (av, .inl (g.2.1.1, 152, .inl fv)), (bk, .inl (g.2.1.1, 24, .inl ck)), (bv, .inl (g.2.1.1, 24, .inl cv)), (br, .inl (g.2.1.1, 24, .inl cr))] H := hP
  have hD : va_D A [(h, .inr (9, [.int zth, .int (nI nA), .int (nI nB), .ref ak, .ref av, .ref bk, .ref bv, .ref br, .ref a_s, .ref a_t, .int zsg, .ref g1, .ref g2, .ref g3, .long zl1, .long zl2, .long zl3, .long zl4, .int zpb, .ref pa, .ref ru, .ref tx, .int zln, .int zat, .int zrk, .int zrv, .int zre, .int zwr, .int zrm, .int zrs, .int zis, .int zss, .int zsc, .ref dk, .ref dv, .ref ek, .ref ev, .ref er, .ref es, .ref et])), (ak, .inl (g.2.1.1, 152, .inl fk)), (av, .inl (g.2.1.1, 152, .inl fv)), (bk, .inl (g.2.1.1, 24, .inl ck)), (bv, .inl (g.2.1.1, 24, .inl cv)), (br, .inl (g.2.1.1, 24, .inl cr))] := hD
  have hkc := kfnd_lkp (by omega) hsC hfc
  have hlc := kfst_lkp hsC hfc
  rw [hC] at hkc hlc
  refine lv_istore_n (lv' := [(2, .int (kfnd nB ck x ic)), (0, .ref h), (1, .int x)]) hx hb dX7_isThere_5 rfl hl (by decide) rfl (fun ls hl => ?_)
  refine lv_iload_n hx hb dX7_isThere_6 rfl (lv_at hl 0 rfl) ?_
  refine lv_if_ge (tgt := 26) hx hb dX7_isThere_7 (by decide) (fun c_7 => ?_) (fun c_7 => ?_)
  · skip
    have hcf : ic < nB ∧ ck ic = x := Decidable.byContradiction (fun z => by have z2 := hkc.1.mp c_7; rw [hlc, if_neg z] at z2; cases z2)
    rw [if_pos hcf] at hlc
    refine lv_aload_n hx hb dX7_isThere_26 rfl (lv_at hl 1 rfl) ?_
    refine va_get (D := g.1) (ci := 9) (v := .ref br) (C := RX7) (T := TX7) (N := 40) hx hb hts (by decide +kernel) hown hK hP 0 rfl rfl 7 (by decide) (hts (.fieldLink RX7 22 "LearnedIndexModel" "changedKinds" "[I") (by decide +kernel)) (fun _ h9 => h9) rfl dX7_isThere_27 ?_
    refine lv_iload_n hx hb dX7_isThere_30 rfl (lv_at hl 0 rfl) ?_
    rw [show (kfnd nB ck x ic : Int32) = nI ic from by rw [kfnd, if_pos hcf]]
    refine va_iald hx hb hK hP 5 0 rfl rfl (vp_in_nI (show ic < 24 by omega) (by omega)) dX7_isThere_31 ?_
    rw [show (nI ic : Int32).toNatClampNeg = ic from nI_clamp (n := ic) (by omega)]
    refine lv_if_ne (tgt := 39) hx hb dX7_isThere_32 (by decide) (fun c_32 => ?_) (fun c_32 => ?_)
    · skip
      have h01 := (hIC.2 (ck ic, cv ic, cr ic) (by rw [← hC]; exact EL_mem hcf.1)).2
      have hr1 : cr ic = 1 := h01.elim (fun z => absurd z c_32) id
      refine lv_iconst (v := 0) hx hb dX7_isThere_39 (by decide) ?_
      exact kretz hx hb hRt hlk hK hP hD hS rfl dX7_isThere_40 (by decide) (⟨by rw [hasS, hlc]; simp [hr1, kbool], rfl⟩)
    · skip
      have hr1 : ¬ cr ic = 1 := by rw [c_32]; decide
      refine lv_iconst (v := 1) hx hb dX7_isThere_35 (by decide) ?_
      refine lv_goto (tgt := 40) hx hb dX7_isThere_36 (by decide) ?_
      exact kretz hx hb hRt hlk hK hP hD hS rfl dX7_isThere_40 (by decide) (⟨by rw [hasS, hlc]; simp [hr1, kbool], rfl⟩)
  · skip
    have hcn : lkp C x = none := Option.not_isSome_iff_eq_none.mp (fun z => hkc.2.mpr z (Decidable.byContradiction (fun z2 => c_7 (Int32.not_lt.mp z2))))
    refine lv_aload_n hx hb dX7_isThere_10 rfl (lv_at hl 1 rfl) ?_
    refine lv_iload_n hx hb dX7_isThere_11 rfl (lv_at hl 2 rfl) ?_
    refine kcalli (wc := [(h, .inr (9, [.int zth, .int (nI nA), .int (nI nB), .ref ak, .ref av, .ref bk, .ref bv, .ref br, .ref a_s, .ref a_t, .int zsg, .ref g1, .ref g2, .ref g3, .long zl1, .long zl2, .long zl3, .long zl4, .int zpb, .ref pa, .ref ru, .ref tx, .int zln, .int zat, .int zrk, .int zrv, .int zre, .int zwr, .int zrm, .int zrs, .int zis, .int zss, .int zsc, .ref dk, .ref dv, .ref ek, .ref ev, .ref er, .ref es, .ref et])), (ak, .inl (g.2.1.1, 152, .inl fk))]) [0, 1] (va_runV (C := RX7) (As := [.int x]) (rest := []) ⟨hx, hb, hml, hown, hts⟩ ((c_X7_positionOf l g h zth (nI nB) zsg zl1 zl2 zl3 zl4 zpb zln zat zrk zrv zre zwr zrm zrs zis zss zsc ak av bk bv br a_s a_t g1 g2 g3 pa ru tx dk dv ek ev er es et nA fk fv x hsM (by omega)) _) (cwV 1 hts gX7_isThere_X7_positionOf rfl rfl rfl (by decide +kernel) ⟨Nat.le_of_ble_eq_true rfl, Nat.le_of_ble_eq_true rfl⟩) (kpreV (wc := [(h, .inr (9, [.int zth, .int (nI nA), .int (nI nB), .ref ak, .ref av, .ref bk, .ref bv, .ref br, .ref a_s, .ref a_t, .int zsg, .ref g1, .ref g2, .ref g3, .long zl1, .long zl2, .long zl3, .long zl4, .int zpb, .ref pa, .ref ru, .ref tx, .int zln, .int zat, .int zrk, .int zrv, .int zre, .int zwr, .int zrm, .int zrs, .int zis, .int zss, .int zsc, .ref dk, .ref dv, .ref ek, .ref ev, .ref er, .ref es, .ref et])), (ak, .inl (g.2.1.1, 152, .inl fk))]) (ci := 9) hK hP hD hS hA hE [0, 1] rfl rfl rfl rfl) rfl rfl hl.1 rfl (lv_room (Nat.le_of_ble_eq_true rfl)) dX7_isThere_12 ⟨Nat.zero_le _, Nat.zero_le _⟩) hP hD hS hA rfl (fun r_2 w_2 H locs hp hP hD hS => ?_)
    obtain ⟨im, rfl, hfm, rfl⟩ := hp
    have hP : va_P g.1 vwCl [(h, .inr (9, [.int zth, .int (nI nA), .int (nI nB), .ref ak, .ref av, .ref bk, .ref bv, .ref br, .ref a_s, .ref a_t, .int zsg, .ref g1, .ref g2, .ref g3, .long zl1, .long zl2, .long zl3, .long zl4, .int zpb, .ref pa, .ref ru, .ref tx, .int zln, .int zat, .int zrk, .int zrv, .int zre, .int zwr, .int zrm, .int zrs, .int zis, .int zss, .int zsc, .ref dk, .ref dv, .ref ek, .ref ev, .ref er, .ref es, .ref et])), (ak, .inl (g.2.1.1, 152, .inl fk)), (av, .inl (g.2.1.1, 152, .inl fv)), (bk, .inl (g.2.1.1, 24, .inl ck)), (bv, .inl (g.2.1.1, 24, .inl cv)), (br, .inl (g.2.1.1, 24, .inl cr))] H := hP
    have hD : va_D A [(h, .inr (9, [.int zth, .int (nI nA), .int (nI nB), .ref ak, .ref av, .ref bk, .ref bv, .ref br, .ref a_s, .ref a_t, .int zsg, .ref g1, .ref g2, .ref g3, .long zl1, .long zl2, .long zl3, .long zl4, .int zpb, .ref pa, .ref ru, .ref tx, .int zln, .int zat, .int zrk, .int zrv, .int zre, .int zwr, .int zrm, .int zrs, .int zis, .int zss, .int zsc, .ref dk, .ref dv, .ref ek, .ref ev, .ref er, .ref es, .ref et])), (ak, .inl (g.2.1.1, 152, .inl fk)), (av, .inl (g.2.1.1, 152, .inl fv)), (bk, .inl (g.2.1.1, 24, .inl ck)), (bv, .inl (g.2.1.1, 24, .inl cv)), (br, .inl (g.2.1.1, 24, .inl cr))] := hD
    have hkm := kfnd_lkp (by omega) hsM hfm
    have hlm := kfst_lkp hsM hfm
    rw [hM] at hkm hlm
    refine lv_if_lt (tgt := 22) hx hb dX7_isThere_15 (by decide) (fun c_15 => ?_) (fun c_15 => ?_)
    · skip
      have hmn : ¬ (lkp M x).isSome = true := fun z => hkm.2.mpr z c_15
      refine lv_iconst (v := 0) hx hb dX7_isThere_22 (by decide) ?_
      refine lv_goto (tgt := 40) hx hb dX7_isThere_23 (by decide) ?_
      exact kretz hx hb hRt hlk hK hP hD hS rfl dX7_isThere_40 (by decide) (⟨by rw [hasS, hcn]; simp [hmn, kbool], rfl⟩)
    · skip
      have hms := hkm.2.mp c_15
      refine lv_iconst (v := 1) hx hb dX7_isThere_18 (by decide) ?_
      refine lv_goto (tgt := 40) hx hb dX7_isThere_19 (by decide) ?_
      exact kretz hx hb hRt hlk hK hP hD hS rfl dX7_isThere_40 (by decide) (⟨by rw [hasS, hcn]; simp [hms, kbool], rfl⟩)
set_option maxRecDepth 20000 in
theorem ggX7_valueOf_X7_changeOf : GoodIn wsX7_valueOf wsX7_changeOf := goodIn_ca (goodIn_r _ [7, 8, 9, 16, 17, 18, 19, 20, 21, 22, 23, 24, 25, 26, 27, 28, 29, 30, 31, 32, 33, 34, 35, 36, 37, 38, 39, 40, 41, 42, 43, 44, 45, 46, 47, 48, 49, 50, 51, 52, 53, 54, 55] (by decide +kernel) (by decide +kernel)) (goodIn_sub (fun _ h => List.mem_cons_of_mem _ (List.mem_append_right _ h)) (by decide +kernel))
set_option maxRecDepth 20000 in
theorem gX7_valueOf_X7_changeOf : GoodIn wsX7_valueOf (wsV RX7 85 RX7 yX7_changeOf wsX7_changeOf) := goodIn_app (goodIn_of _ (by decide +kernel)) ggX7_valueOf_X7_changeOf
set_option maxRecDepth 20000 in
theorem ggX7_valueOf_X7_positionOf : GoodIn wsX7_valueOf wsX7_positionOf := goodIn_ca (goodIn_r _ [13, 14, 15, 16, 17, 18, 19, 20, 21, 22, 23, 24, 25, 26, 27, 28, 29, 30, 31, 32, 33, 34, 35, 36, 37, 38, 39, 40, 41, 42, 43, 44, 45, 46, 47, 48, 49, 50, 51, 52, 53, 54, 55] (by decide +kernel) (by decide +kernel)) (goodIn_sub (fun _ h => List.mem_cons_of_mem _ (List.mem_append_right _ h)) (by decide +kernel))
set_option maxRecDepth 20000 in
theorem gX7_valueOf_X7_positionOf : GoodIn wsX7_valueOf (wsV RX7 89 RX7 yX7_positionOf wsX7_positionOf) := goodIn_app (goodIn_of _ (by decide +kernel)) ggX7_valueOf_X7_positionOf
theorem dX7_valueOf_0 : decode cX7_valueOf 0 = .ok (.aload_n 0, 1) := by decide +kernel
theorem dX7_valueOf_1 : decode cX7_valueOf 1 = .ok (.iload_n 1, 1) := by decide +kernel
theorem dX7_valueOf_2 : decode cX7_valueOf 2 = .ok (.invokevirtual 85, 3) := by decide +kernel
theorem dX7_valueOf_5 : decode cX7_valueOf 5 = .ok (.istore_n 2, 1) := by decide +kernel
theorem dX7_valueOf_6 : decode cX7_valueOf 6 = .ok (.iload_n 2, 1) := by decide +kernel
theorem dX7_valueOf_7 : decode cX7_valueOf 7 = .ok (.ifCond .ge 16, 3) := by decide +kernel
theorem dX7_valueOf_10 : decode cX7_valueOf 10 = .ok (.aload_n 0, 1) := by decide +kernel
theorem dX7_valueOf_11 : decode cX7_valueOf 11 = .ok (.getfield 13, 3) := by decide +kernel
theorem dX7_valueOf_14 : decode cX7_valueOf 14 = .ok (.aload_n 0, 1) := by decide +kernel
theorem dX7_valueOf_15 : decode cX7_valueOf 15 = .ok (.iload_n 1, 1) := by decide +kernel
theorem dX7_valueOf_16 : decode cX7_valueOf 16 = .ok (.invokevirtual 89, 3) := by decide +kernel
theorem dX7_valueOf_19 : decode cX7_valueOf 19 = .ok (.iaload, 1) := by decide +kernel
theorem dX7_valueOf_20 : decode cX7_valueOf 20 = .ok (.goto 9, 3) := by decide +kernel
theorem dX7_valueOf_23 : decode cX7_valueOf 23 = .ok (.aload_n 0, 1) := by decide +kernel
theorem dX7_valueOf_24 : decode cX7_valueOf 24 = .ok (.getfield 19, 3) := by decide +kernel
theorem dX7_valueOf_27 : decode cX7_valueOf 27 = .ok (.iload_n 2, 1) := by decide +kernel
theorem dX7_valueOf_28 : decode cX7_valueOf 28 = .ok (.iaload, 1) := by decide +kernel
theorem dX7_valueOf_29 : decode cX7_valueOf 29 = .ok (.ireturn, 1) := by decide +kernel
def rm_X7_valueOf : Room := { frames := 1, cells := 0, slots := 0, locals := 22 }
abbrev p_X7_valueOf (g : kG) (h : Nat) (zth : Int32) (zsg : Int32) (zl1 : Int64) (zl2 : Int64) (zl3 : Int64) (zl4 : Int64) (zpb : Int32) (zln : Int32) (zat : Int32) (zrk : Int32) (zrv : Int32) (zre : Int32) (zwr : Int32) (zrm : Int32) (zrs : Int32) (zis : Int32) (zss : Int32) (zsc : Int32) (ak : Nat) (av : Nat) (bk : Nat) (bv : Nat) (br : Nat) (a_s : Nat) (a_t : Nat) (g1 : Nat) (g2 : Nat) (g3 : Nat) (pa : Nat) (ru : Nat) (tx : Nat) (dk : Nat) (dv : Nat) (ek : Nat) (ev : Nat) (er : Nat) (es : Nat) (et : Nat) (nA : Nat) (fk : Nat → Int32) (fv : Nat → Int32) (nB : Nat) (ck : Nat → Int32) (cv : Nat → Int32) (cr : Nat → Int32) (M : List kE3) (C : List kE3) (x : Int32) : Int32 → va_W → Prop := fun r w1 => r = valS M C x ∧ w1 = [(h, .inr (9, [.int zth, .int (nI nA), .int (nI nB), .ref ak, .ref av, .ref bk, .ref bv, .ref br, .ref a_s, .ref a_t, .int zsg, .ref g1, .ref g2, .ref g3, .long zl1, .long zl2, .long zl3, .long zl4, .int zpb, .ref pa, .ref ru, .ref tx, .int zln, .int zat, .int zrk, .int zrv, .int zre, .int zwr, .int zrm, .int zrs, .int zis, .int zss, .int zsc, .ref dk, .ref dv, .ref ek, .ref ev, .ref er, .ref es, .ref et])), (ak, .inl (g.2.1.1, 152, .inl fk)), (av, .inl (g.2.1.1, 152, .inl fv)), (bk, .inl (g.2.1.1, 24, .inl ck)), (bv, .inl (g.2.1.1, 24, .inl cv)), (br, .inl (g.2.1.1, 24, .inl cr))]
set_option maxHeartbeats 4000000 in
set_option maxRecDepth 100000 in
theorem c_X7_valueOf (l : Launch) (g : kG) (h : Nat) (zth : Int32) (zsg : Int32) (zl1 : Int64) (zl2 : Int64) (zl3 : Int64) (zl4 : Int64) (zpb : Int32) (zln : Int32) (zat : Int32) (zrk : Int32) (zrv : Int32) (zre : Int32) (zwr : Int32) (zrm : Int32) (zrs : Int32) (zis : Int32) (zss : Int32) (zsc : Int32) (ak : Nat) (av : Nat) (bk : Nat) (bv : Nat) (br : Nat) (a_s : Nat) (a_t : Nat) (g1 : Nat) (g2 : Nat) (g3 : Nat) (pa : Nat) (ru : Nat) (tx : Nat) (dk : Nat) (dv : Nat) (ek : Nat) (ev : Nat) (er : Nat) (es : Nat) (et : Nat) (nA : Nat) (fk : Nat → Int32) (fv : Nat → Int32) (nB : Nat) (ck : Nat → Int32) (cv : Nat → Int32) (cr : Nat → Int32) (M : List kE3) (C : List kE3) (x : Int32) (hMM : kMM nA fk fv nB ck cv cr M C) (hhas : hasS M C x = true) : KI l yX7_valueOf wsX7_valueOf rm_X7_valueOf g [.ref h, .int x] [(h, .inr (9, [.int zth, .int (nI nA), .int (nI nB), .ref ak, .ref av, .ref bk, .ref bv, .ref br, .ref a_s, .ref a_t, .int zsg, .ref g1, .ref g2, .ref g3, .long zl1, .long zl2, .long zl3, .long zl4, .int zpb, .ref pa, .ref ru, .ref tx, .int zln, .int zat, .int zrk, .int zrv, .int zre, .int zwr, .int zrm, .int zrs, .int zis, .int zss, .int zsc, .ref dk, .ref dv, .ref ek, .ref ev, .ref er, .ref es, .ref et])), (ak, .inl (g.2.1.1, 152, .inl fk)), (av, .inl (g.2.1.1, 152, .inl fv)), (bk, .inl (g.2.1.1, 24, .inl ck)), (bv, .inl (g.2.1.1, 24, .inl cv)), (br, .inl (g.2.1.1, 24, .inl cr))] (p_X7_valueOf g h zth zsg zl1 zl2 zl3 zl4 zpb zln zat zrk zrv zre zwr zrm zrs zis zss zsc ak av bk bv br a_s a_t g1 g2 g3 pa ru tx dk dv ek ev er es et nA fk fv nB ck cv cr M C x) := by
  refine kbodyI (cc := cX7_valueOf) (n := 3) (k := 6) (own := RX7) (plainFor_of_name (by decide)) rfl rfl rfl rfl ?_
  intro p e s m below meth cd A ls hcx
  obtain ⟨hx, hb, hRt, hml, hts, hown, hlk, hA, hP, hK, hD, hE, hS, hl⟩ := hcx
  have hl : lv_has ls 3 [(0, .ref h), (1, .int x)] := hl
  obtain ⟨⟨hM, hC⟩, ⟨hnM, hnC⟩, ⟨hIM, hIC⟩, hlen, hrem⟩ := id hMM
  have hsM : kSo (EL nA fk fv fz0) := by rw [hM]; exact hIM.1
  have hsC : kSo (EL nB ck cv cr) := by rw [hC]; exact hIC.1
  have hnl : nA = M.length := by rw [← hM, EL_len]
  have hcl : nB = C.length := by rw [← hC, EL_len]
  refine lv_aload_n hx hb dX7_valueOf_0 rfl (lv_at hl 0 rfl) ?_
  refine lv_iload_n hx hb dX7_valueOf_1 rfl (lv_at hl 1 rfl) ?_
  refine kcalli (wc := [(h, .inr (9, [.int zth, .int (nI nA), .int (nI nB), .ref ak, .ref av, .ref bk, .ref bv, .ref br, .ref a_s, .ref a_t, .int zsg, .ref g1, .ref g2, .ref g3, .long zl1, .long zl2, .long zl3, .long zl4, .int zpb, .ref pa, .ref ru, .ref tx, .int zln, .int zat, .int zrk, .int zrv, .int zre, .int zwr, .int zrm, .int zrs, .int zis, .int zss, .int zsc, .ref dk, .ref dv, .ref ek, .ref ev, .ref er, .ref es, .ref et])), (bk, .inl (g.2.1.1, 24, .inl ck))]) [0, 3] (va_runV (C := RX7) (As := [.int x]) (rest := []) ⟨hx, hb, hml, hown, hts⟩ ((c_X7_changeOf l g h zth (nI nA) zsg zl1 zl2 zl3 zl4 zpb zln zat zrk zrv zre zwr zrm zrs zis zss zsc ak av bk bv br a_s a_t g1 g2 g3 pa ru tx dk dv ek ev er es et nB ck cv cr x hsC (by omega)) _) (cwV 1 hts gX7_valueOf_X7_changeOf rfl rfl rfl (by decide +kernel) ⟨Nat.le_of_ble_eq_true rfl, Nat.le_of_ble_eq_true rfl⟩) (kpreV (wc := [(h, .inr (9, [.int zth, .int (nI nA), .int (nI nB), .ref ak, .ref av, .ref bk, .ref bv, .ref br, .ref a_s, .ref a_t, .int zsg, .ref g1, .ref g2, .ref g3, .long zl1, .long zl2, .long zl3, .long zl4, .int zpb, .ref pa, .ref ru, .ref tx, .int zln, .int zat, .int zrk, .int zrv, .int zre, .int zwr, .int zrm, .int zrs, .int zis, .int zss, .int zsc, .ref dk, .ref dv, .ref ek, .ref ev, .ref er, .ref es, .ref et])), (bk, .inl (g.2.1.1, 24, .inl ck))]) (ci := 9) hK hP hD hS hA hE [0, 3] rfl rfl rfl rfl) rfl rfl hl.1 rfl (lv_room (Nat.le_of_ble_eq_true rfl)) dX7_valueOf_2 ⟨Nat.zero_le _, Nat.zero_le _⟩) hP hD hS hA rfl (fun r_1 w_1 H locs hp hP hD hS => ?_)
  obtain ⟨ic, rfl, hfc, rfl⟩ := hp
  have hP : va_P g.1 vwCl [(h, .inr (9, [.int zth, .int (nI nA), .int (nI nB), .ref ak, .ref av, .ref bk, .ref bv, .ref br, .ref a_s, .ref a_t, .int zsg, .ref g1, .ref g2, .ref g3, .long zl1, .long zl2, .long zl3, .long zl4, .int zpb, .ref pa, .ref ru, .ref tx, .int zln, .int zat, .int zrk, .int zrv, .int zre, .int zwr, .int zrm, .int zrs, .int zis, .int zss, .int zsc, .ref dk, .ref dv, .ref ek, .ref ev, .ref er, .ref es, .ref et])), (ak, .inl (g.2.1.1, 152, .inl fk)), (av, .inl (g.2.1.1, 152, .inl fv)), (bk, .inl (g.2.1.1, 24, .inl ck)), (bv, .inl (g.2.1.1, 24, .inl cv)), (br, .inl (g.2.1.1, 24, .inl cr))] H := hP
  have hD : va_D A [(h, .inr (9, [.int zth, .int (nI nA), .int (nI nB), .ref ak, .ref av, .ref bk, .ref bv, .ref br, .ref a_s, .ref a_t, .int zsg, .ref g1, .ref g2, .ref g3, .long zl1, .long zl2, .long zl3, .long zl4, .int zpb, .ref pa, .ref ru, .ref tx, .int zln, .int zat, .int zrk, .int zrv, .int zre, .int zwr, .int zrm, .int zrs, .int zis, .int zss, .int zsc, .ref dk, .ref dv, .ref ek, .ref ev, .ref er, .ref es, .ref et])), (ak, .inl (g.2.1.1, 152, .inl fk)), (av, .inl (g.2.1.1, 152, .inl fv)), (bk, .inl (g.2.1.1, 24, .inl ck)), (bv, .inl (g.2.1.1, 24, .inl cv)), (br, .inl (g.2.1.1, 24, .inl cr))] := hD
  have hkc := kfnd_lkp (by omega) hsC hfc
  have hlc := kfst_lkp hsC hfc
  rw [hC] at hkc hlc
  refine lv_istore_n (lv' := [(2, .int (kfnd nB ck x ic)), (0, .ref h), (1, .int x)]) hx hb dX7_valueOf_5 rfl hl (by decide) rfl (fun ls hl => ?_)
  refine lv_iload_n hx hb dX7_valueOf_6 rfl (lv_at hl 0 rfl) ?_
  refine lv_if_ge (tgt := 23) hx hb dX7_valueOf_7 (by decide) (fun c_7 => ?_) (fun c_7 => ?_)
  · skip
    have hcf : ic < nB ∧ ck ic = x := Decidable.byContradiction (fun z => by have z2 := hkc.1.mp c_7; rw [hlc, if_neg z] at z2; cases z2)
    rw [if_pos hcf] at hlc
    refine lv_aload_n hx hb dX7_valueOf_23 rfl (lv_at hl 1 rfl) ?_
    refine va_get (D := g.1) (ci := 9) (v := .ref bv) (C := RX7) (T := TX7) (N := 40) hx hb hts (by decide +kernel) hown hK hP 0 rfl rfl 6 (by decide) (hts (.fieldLink RX7 19 "LearnedIndexModel" "changedValues" "[I") (by decide +kernel)) (fun _ h9 => h9) rfl dX7_valueOf_24 ?_
    refine lv_iload_n hx hb dX7_valueOf_27 rfl (lv_at hl 0 rfl) ?_
    rw [show (kfnd nB ck x ic : Int32) = nI ic from by rw [kfnd, if_pos hcf]]
    refine va_iald hx hb hK hP 4 0 rfl rfl (vp_in_nI (show ic < 24 by omega) (by omega)) dX7_valueOf_28 ?_
    rw [show (nI ic : Int32).toNatClampNeg = ic from nI_clamp (n := ic) (by omega)]
    exact kreti hx hb hRt hlk hK hP hD hS rfl dX7_valueOf_29 (⟨by rw [valS, hlc], rfl⟩)
  · skip
    have hcn : lkp C x = none := Option.not_isSome_iff_eq_none.mp (fun z => hkc.2.mpr z (Decidable.byContradiction (fun z2 => c_7 (Int32.not_lt.mp z2))))
    refine lv_aload_n hx hb dX7_valueOf_10 rfl (lv_at hl 1 rfl) ?_
    refine va_get (D := g.1) (ci := 9) (v := .ref av) (C := RX7) (T := TX7) (N := 40) hx hb hts (by decide +kernel) hown hK hP 0 rfl rfl 4 (by decide) (hts (.fieldLink RX7 13 "LearnedIndexModel" "values" "[I") (by decide +kernel)) (fun _ h9 => h9) rfl dX7_valueOf_11 ?_
    refine lv_aload_n hx hb dX7_valueOf_14 rfl (lv_at hl 1 rfl) ?_
    refine lv_iload_n hx hb dX7_valueOf_15 rfl (lv_at hl 2 rfl) ?_
    refine kcalli (wc := [(h, .inr (9, [.int zth, .int (nI nA), .int (nI nB), .ref ak, .ref av, .ref bk, .ref bv, .ref br, .ref a_s, .ref a_t, .int zsg, .ref g1, .ref g2, .ref g3, .long zl1, .long zl2, .long zl3, .long zl4, .int zpb, .ref pa, .ref ru, .ref tx, .int zln, .int zat, .int zrk, .int zrv, .int zre, .int zwr, .int zrm, .int zrs, .int zis, .int zss, .int zsc, .ref dk, .ref dv, .ref ek, .ref ev, .ref er, .ref es, .ref et])), (ak, .inl (g.2.1.1, 152, .inl fk))]) [0, 1] (va_runV (C := RX7) (As := [.int x]) (rest := [.ref av]) ⟨hx, hb, hml, hown, hts⟩ ((c_X7_positionOf l g h zth (nI nB) zsg zl1 zl2 zl3 zl4 zpb zln zat zrk zrv zre zwr zrm zrs zis zss zsc ak av bk bv br a_s a_t g1 g2 g3 pa ru tx dk dv ek ev er es et nA fk fv x hsM (by omega)) _) (cwV 1 hts gX7_valueOf_X7_positionOf rfl rfl rfl (by decide +kernel) ⟨Nat.le_of_ble_eq_true rfl, Nat.le_of_ble_eq_true rfl⟩) (kpreV (wc := [(h, .inr (9, [.int zth, .int (nI nA), .int (nI nB), .ref ak, .ref av, .ref bk, .ref bv, .ref br, .ref a_s, .ref a_t, .int zsg, .ref g1, .ref g2, .ref g3, .long zl1, .long zl2, .long zl3, .long zl4, .int zpb, .ref pa, .ref ru, .ref tx, .int zln, .int zat, .int zrk, .int zrv, .int zre, .int zwr, .int zrm, .int zrs, .int zis, .int zss, .int zsc, .ref dk, .ref dv, .ref ek, .ref ev, .ref er, .ref es, .ref et])), (ak, .inl (g.2.1.1, 152, .inl fk))]) (ci := 9) hK hP hD hS hA hE [0, 1] rfl rfl rfl rfl) rfl rfl hl.1 rfl (lv_room (Nat.le_of_ble_eq_true rfl)) dX7_valueOf_16 ⟨Nat.zero_le _, Nat.zero_le _⟩) hP hD hS hA rfl (fun r_2 w_2 H locs hp hP hD hS => ?_)
    obtain ⟨im, rfl, hfm, rfl⟩ := hp
    have hP : va_P g.1 vwCl [(h, .inr (9, [.int zth, .int (nI nA), .int (nI nB), .ref ak, .ref av, .ref bk, .ref bv, .ref br, .ref a_s, .ref a_t, .int zsg, .ref g1, .ref g2, .ref g3, .long zl1, .long zl2, .long zl3, .long zl4, .int zpb, .ref pa, .ref ru, .ref tx, .int zln, .int zat, .int zrk, .int zrv, .int zre, .int zwr, .int zrm, .int zrs, .int zis, .int zss, .int zsc, .ref dk, .ref dv, .ref ek, .ref ev, .ref er, .ref es, .ref et])), (ak, .inl (g.2.1.1, 152, .inl fk)), (av, .inl (g.2.1.1, 152, .inl fv)), (bk, .inl (g.2.1.1, 24, .inl ck)), (bv, .inl (g.2.1.1, 24, .inl cv)), (br, .inl (g.2.1.1, 24, .inl cr))] H := hP
    have hD : va_D A [(h, .inr (9, [.int zth, .int (nI nA), .int (nI nB), .ref ak, .ref av, .ref bk, .ref bv, .ref br, .ref a_s, .ref a_t, .int zsg, .ref g1, .ref g2, .ref g3, .long zl1, .long zl2, .long zl3, .long zl4, .int zpb, .ref pa, .ref ru, .ref tx, .int zln, .int zat, .int zrk, .int zrv, .int zre, .int zwr, .int zrm, .int zrs, .int zis, .int zss, .int zsc, .ref dk, .ref dv, .ref ek, .ref ev, .ref er, .ref es, .ref et])), (ak, .inl (g.2.1.1, 152, .inl fk)), (av, .inl (g.2.1.1, 152, .inl fv)), (bk, .inl (g.2.1.1, 24, .inl ck)), (bv, .inl (g.2.1.1, 24, .inl cv)), (br, .inl (g.2.1.1, 24, .inl cr))] := hD
    have hkm := kfnd_lkp (by omega) hsM hfm
    have hlm := kfst_lkp hsM hfm
    rw [hM] at hkm hlm
    have hmf : im < nA ∧ fk im = x := Decidable.byContradiction (fun z => by rw [if_neg z] at hlm; rw [hasS, hcn, hlm] at hhas; cases hhas)
    rw [if_pos hmf] at hlm
    rw [show (kfnd nA fk x im : Int32) = nI im from by rw [kfnd, if_pos hmf]]
    refine va_iald hx hb hK hP 2 0 rfl rfl (vp_in_nI (show im < 152 by omega) (by omega)) dX7_valueOf_19 ?_
    rw [show (nI im : Int32).toNatClampNeg = im from nI_clamp (n := im) (by omega)]
    refine lv_goto (tgt := 29) hx hb dX7_valueOf_20 (by decide) ?_
    exact kreti hx hb hRt hlk hK hP hD hS rfl dX7_valueOf_29 (⟨by rw [valS, hcn, hlm], rfl⟩)
