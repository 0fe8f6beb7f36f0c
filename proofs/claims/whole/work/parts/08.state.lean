/-! ===== sorted lists of entries: look-ups, both parts merged ===== -/
def kSo (L : List kE3) : Prop := L.Pairwise (fun a b => a.1 < b.1)
/-- a part as it should be: ascending, keys in range, flags 0 or 1 -/
def kIv (L : List kE3) : Prop := kSo L ∧ ∀ e ∈ L, (0 ≤ e.1.toInt ∧ e.1.toInt < 10000) ∧ (e.2.2 = 0 ∨ e.2.2 = 1)
def lkp (L : List kE3) (x : Int32) : Option kE3 := L.find? (fun e => decide (e.1 = x))
def hasS (M C : List kE3) (x : Int32) : Bool := match lkp C x with | some c => decide (¬ c.2.2 = 1) | none => (lkp M x).isSome
def valS (M C : List kE3) (x : Int32) : Int32 := match lkp C x with | some c => c.2.1 | none => (match lkp M x with | some m => m.2.1 | none => 0)
theorem k_ltt {a b c : Int32} (h : a < b) (h2 : b < c) : a < c := Int32.lt_trans h h2
theorem k_ne {a b : Int32} (h : a < b) : ¬ a = b := fun e => by rw [e] at h; exact Int32.lt_irrefl h
theorem k_ne' {a b : Int32} (h : a < b) : ¬ b = a := fun e => by rw [e] at h; exact Int32.lt_irrefl h
theorem k_as {a b : Int32} (h : a < b) (h2 : b < a) : False := Int32.lt_irrefl (Int32.lt_trans h h2)
theorem k_tri {a b : Int32} (h : ¬ a < b) (h2 : ¬ a = b) : b < a := by
  have h3 := Int32.not_lt.mp h
  rcases Int32.lt_or_eq_of_le h3 with h4 | h4
  · exact h4
  · exact absurd h4.symm h2
theorem lkp_some {L : List kE3} {x : Int32} {e : kE3} (h : lkp L x = some e) : e ∈ L ∧ e.1 = x := by
  have h1 := List.find?_some h
  exact ⟨List.mem_of_find?_eq_some h, by simpa using h1⟩
theorem lkp_none {L : List kE3} {x : Int32} (h : lkp L x = none) : ∀ e ∈ L, ¬ e.1 = x := by
  intro e he
  have := List.find?_eq_none.mp h e he
  simpa using this
theorem kSo_inj {L : List kE3} (h : kSo L) {a b : kE3} (ha : a ∈ L) (hb : b ∈ L) (e : a.1 = b.1) : a = b := by
  induction L with
  | nil => cases ha
  | cons d L ih =>
    rw [kSo, List.pairwise_cons] at h
    rcases List.mem_cons.mp ha with ha2 | ha2 <;> rcases List.mem_cons.mp hb with hb2 | hb2
    · rw [ha2, hb2]
    · rw [ha2] at e; exact absurd e (k_ne (h.1 b hb2))
    · rw [hb2] at e; exact absurd e (k_ne' (h.1 a ha2))
    · exact ih h.2 ha2 hb2
theorem lkp_of {L : List kE3} (h : kSo L) {e : kE3} (he : e ∈ L) : lkp L e.1 = some e := by
  cases hc : lkp L e.1 with
  | none => exact absurd rfl (lkp_none hc e he)
  | some d => rw [kSo_inj h (lkp_some hc).1 he (lkp_some hc).2]
theorem kfst_lkp {n : Nat} {fk fv fr : Nat → Int32} {x : Int32} {i : Nat} (hs : kSo (EL n fk fv fr)) (h : kfst n fk x i) : lkp (EL n fk fv fr) x = if i < n ∧ fk i = x then some (fk i, fv i, fr i) else none := by
  by_cases c : i < n ∧ fk i = x
  · rw [if_pos c, ← c.2]
    have hm : (fk i, fv i, fr i) ∈ EL n fk fv fr := List.mem_of_getElem? (i := i) (by rw [EL_get, if_pos c.1])
    exact lkp_of hs hm
  · rw [if_neg c]
    cases hc : lkp (EL n fk fv fr) x with
    | none => rfl
    | some d =>
      exfalso
      obtain ⟨h1, h2⟩ := lkp_some hc
      obtain ⟨j, hj⟩ := List.getElem?_of_mem h1
      rw [EL_get] at hj
      by_cases hjn : j < n
      · rw [if_pos hjn] at hj
        cases hj
        dsimp only at h2
        rcases Nat.lt_trichotomy j i with a | a | a
        · exact absurd h2 (k_ne (h.2.1 j a))
        · subst a; exact c ⟨hjn, h2⟩
        · have hin : i < n := by omega
          have hlt : fk i < fk j := by
            have := List.pairwise_iff_getElem.mp hs i j (by rw [EL_len]; omega) (by rw [EL_len]; omega) a
            rw [EL_at, EL_at] at this
            exact this
          rw [h2] at hlt
          exact h.2.2 hin hlt
      · rw [if_neg hjn] at hj; cases hj
theorem kfnd_lkp {n : Nat} {fk fv fr : Nat → Int32} {x : Int32} {i : Nat} (hn : n ≤ 160) (hs : kSo (EL n fk fv fr)) (h : kfst n fk x i) : (0 ≤ kfnd n fk x i ↔ (lkp (EL n fk fv fr) x).isSome = true) ∧ (¬ kfnd n fk x i < 0 ↔ (lkp (EL n fk fv fr) x).isSome = true) := by
  rw [kfst_lkp hs h, kfnd]
  by_cases c : i < n ∧ fk i = x
  · rw [if_pos c, if_pos c]
    exact ⟨⟨fun _ => rfl, fun _ => nI_pos' (by omega)⟩, ⟨fun _ => rfl, fun _ => nI_pos (by omega)⟩⟩
  · rw [if_neg c, if_neg c]
    exact ⟨⟨fun z => absurd z (by decide), fun z => by cases z⟩, ⟨fun z => absurd (show (-1 : Int32) < 0 by decide) z, fun z => by cases z⟩⟩
/-! both parts merged -/
theorem gat_keys : ∀ (M C : List kE3) (e : kE3), e ∈ gat M C → (∃ m ∈ M, e.1 = m.1) ∨ (∃ c ∈ C, e.1 = c.1) := by
  intro M C
  induction M, C using gat.induct with
  | case1 => intro e h; rw [gat] at h; cases h
  | case2 c C hc ih => 
    intro e h
    rw [gat, if_pos hc] at h
    rcases ih e h with ⟨m, hm, -⟩ | ⟨c', hc', e'⟩
    · cases hm
    · exact Or.inr ⟨c', List.mem_cons_of_mem _ hc', e'⟩
  | case3 c C hc ih =>
    intro e h
    rw [gat, if_neg hc] at h
    rcases List.mem_cons.mp h with rfl | h
    · exact Or.inr ⟨c, List.mem_cons_self, rfl⟩
    · rcases ih e h with ⟨m, hm, -⟩ | ⟨c', hc', e'⟩
      · cases hm
      · exact Or.inr ⟨c', List.mem_cons_of_mem _ hc', e'⟩
  | case4 m M ih =>
    intro e h
    rw [gat] at h
    rcases List.mem_cons.mp h with rfl | h
    · exact Or.inl ⟨m, List.mem_cons_self, rfl⟩
    · rcases ih e h with ⟨m', hm, e'⟩ | ⟨c', hc', -⟩
      · exact Or.inl ⟨m', List.mem_cons_of_mem _ hm, e'⟩
      · cases hc'
  | case5 m M c C hlt ih =>
    intro e h
    rw [gat, if_pos hlt] at h
    rcases List.mem_cons.mp h with rfl | h
    · exact Or.inl ⟨m, List.mem_cons_self, rfl⟩
    · rcases ih e h with ⟨m', hm, e'⟩ | h'
      · exact Or.inl ⟨m', List.mem_cons_of_mem _ hm, e'⟩
      · exact Or.inr h'
  | case6 m M c C hlt heq hc ih =>
    intro e h
    rw [gat, if_neg hlt, if_pos heq, if_pos hc] at h
    rcases ih e h with ⟨m', hm, e'⟩ | ⟨c', hc', e'⟩
    · exact Or.inl ⟨m', List.mem_cons_of_mem _ hm, e'⟩
    · exact Or.inr ⟨c', List.mem_cons_of_mem _ hc', e'⟩
  | case7 m M c C hlt heq hc ih =>
    intro e h
    rw [gat, if_neg hlt, if_pos heq, if_neg hc] at h
    rcases List.mem_cons.mp h with rfl | h
    · exact Or.inr ⟨c, List.mem_cons_self, rfl⟩
    · rcases ih e h with ⟨m', hm, e'⟩ | ⟨c', hc', e'⟩
      · exact Or.inl ⟨m', List.mem_cons_of_mem _ hm, e'⟩
      · exact Or.inr ⟨c', List.mem_cons_of_mem _ hc', e'⟩
  | case8 m M c C hlt heq hc ih =>
    intro e h
    rw [gat, if_neg hlt, if_neg heq, if_pos hc] at h
    rcases ih e h with h' | ⟨c', hc', e'⟩
    · exact Or.inl h'
    · exact Or.inr ⟨c', List.mem_cons_of_mem _ hc', e'⟩
  | case9 m M c C hlt heq hc ih =>
    intro e h
    rw [gat, if_neg hlt, if_neg heq, if_neg hc] at h
    rcases List.mem_cons.mp h with rfl | h
    · exact Or.inr ⟨c, List.mem_cons_self, rfl⟩
    · rcases ih e h with h' | ⟨c', hc', e'⟩
      · exact Or.inl h'
      · exact Or.inr ⟨c', List.mem_cons_of_mem _ hc', e'⟩
theorem kSo_c {e : kE3} {L : List kE3} (h : kSo (e :: L)) : (∀ d ∈ L, e.1 < d.1) ∧ kSo L := List.pairwise_cons.mp h
theorem kSo_mk {e : kE3} {L : List kE3} (h1 : ∀ d ∈ L, e.1 < d.1) (h2 : kSo L) : kSo (e :: L) := List.pairwise_cons.mpr ⟨h1, h2⟩
theorem lkp_cons (e : kE3) (L : List kE3) (x : Int32) : lkp (e :: L) x = if e.1 = x then some e else lkp L x := by
  by_cases h : e.1 = x
  · rw [if_pos h, lkp, List.find?_cons_of_pos (by simpa using h)]
  · rw [if_neg h, lkp, List.find?_cons_of_neg (by simpa using h)]; rfl
theorem lkp_gt {L : List kE3} {x : Int32} (h : ∀ e ∈ L, x < e.1) : lkp L x = none := by
  cases hc : lkp L x with
  | none => rfl
  | some d => exact absurd (lkp_some hc).2 (k_ne' (h d (lkp_some hc).1))
theorem gat_lb {M C : List kE3} {x : Int32} (h1 : ∀ m ∈ M, x < m.1) (h2 : ∀ c ∈ C, x < c.1) : ∀ e ∈ gat M C, x < e.1 := by
  intro e he
  rcases gat_keys M C e he with ⟨m, hm, e'⟩ | ⟨c, hc, e'⟩
  · rw [e']; exact h1 m hm
  · rw [e']; exact h2 c hc
theorem gat_so : ∀ (M C : List kE3), kSo M → kSo C → kSo (gat M C) := by
  intro M C
  induction M, C using gat.induct with
  | case1 => intro _ _; rw [gat]; exact List.Pairwise.nil
  | case2 c C hc ih => intro h1 h2; rw [gat, if_pos hc]; exact ih h1 (kSo_c h2).2
  | case3 c C hc ih => intro h1 h2; rw [gat, if_neg hc]; exact kSo_mk (gat_lb (fun _ h => by cases h) (kSo_c h2).1) (ih h1 (kSo_c h2).2)
  | case4 m M ih => intro h1 h2; rw [gat]; exact kSo_mk (gat_lb (kSo_c h1).1 (fun _ h => by cases h)) (ih (kSo_c h1).2 h2)
  | case5 m M c C hlt ih =>
    intro h1 h2; rw [gat, if_pos hlt]
    exact kSo_mk (gat_lb (kSo_c h1).1 (fun d hd => (List.mem_cons.mp hd).elim (fun z => by rw [z]; exact hlt) (fun z => k_ltt hlt ((kSo_c h2).1 d z)))) (ih (kSo_c h1).2 h2)
  | case6 m M c C hlt heq hc ih => intro h1 h2; rw [gat, if_neg hlt, if_pos heq, if_pos hc]; exact ih (kSo_c h1).2 (kSo_c h2).2
  | case7 m M c C hlt heq hc ih =>
    intro h1 h2; rw [gat, if_neg hlt, if_pos heq, if_neg hc]
    exact kSo_mk (gat_lb (fun d hd => by have := (kSo_c h1).1 d hd; rw [heq] at this; exact this) (kSo_c h2).1) (ih (kSo_c h1).2 (kSo_c h2).2)
  | case8 m M c C hlt heq hc ih => intro h1 h2; rw [gat, if_neg hlt, if_neg heq, if_pos hc]; exact ih h1 (kSo_c h2).2
  | case9 m M c C hlt heq hc ih =>
    intro h1 h2; rw [gat, if_neg hlt, if_neg heq, if_neg hc]
    have hcm := k_tri hlt heq
    exact kSo_mk (gat_lb (fun d hd => (List.mem_cons.mp hd).elim (fun z => by rw [z]; exact hcm) (fun z => k_ltt hcm ((kSo_c h1).1 d z))) (kSo_c h2).1) (ih h1 (kSo_c h2).2)
def rsl (M C : List kE3) (x : Int32) : Option kE3 := match lkp C x with | some c => (if c.2.2 = 1 then none else some (c.1, c.2.1, 0)) | none => (lkp M x).map (fun m => (m.1, m.2.1, 0))
theorem gat_lkp : ∀ (M C : List kE3), kSo M → kSo C → ∀ x, lkp (gat M C) x = rsl M C x := by
  intro M C
  induction M, C using gat.induct with
  | case1 => intro _ _ x; rw [gat]; rfl
  | case2 c C hc ih =>
    intro h1 h2 x; rw [gat, if_pos hc, ih h1 (kSo_c h2).2, rsl, rsl, lkp_cons]
    by_cases e : c.1 = x
    · rw [if_pos e, lkp_gt (fun d hd => by rw [← e]; exact (kSo_c h2).1 d hd)]
      simp only [if_pos hc]; rfl
    · rw [if_neg e]
  | case3 c C hc ih =>
    intro h1 h2 x; rw [gat, if_neg hc, lkp_cons, ih h1 (kSo_c h2).2, rsl, rsl, lkp_cons]
    by_cases e : c.1 = x
    · rw [if_pos e, if_pos e]; simp only [if_neg hc]
    · rw [if_neg e, if_neg e]
  | case4 m M ih =>
    intro h1 h2 x; rw [gat, lkp_cons, ih (kSo_c h1).2 h2, rsl, rsl, lkp_cons]
    by_cases e : m.1 = x
    · rw [if_pos e, if_pos e]; rfl
    · rw [if_neg e, if_neg e]
  | case5 m M c C hlt ih =>
    intro h1 h2 x; rw [gat, if_pos hlt, lkp_cons, ih (kSo_c h1).2 h2, rsl, rsl, lkp_cons m]
    by_cases e : m.1 = x
    · have hn : lkp (c :: C) x = none := lkp_gt (fun d hd => by rw [← e]; exact (List.mem_cons.mp hd).elim (fun z => by rw [z]; exact hlt) (fun z => k_ltt hlt ((kSo_c h2).1 d z)))
      rw [if_pos e, if_pos e, hn]; rfl
    · rw [if_neg e, if_neg e]
  | case6 m M c C hlt heq hc ih =>
    intro h1 h2 x; rw [gat, if_neg hlt, if_pos heq, if_pos hc, ih (kSo_c h1).2 (kSo_c h2).2, rsl, rsl, lkp_cons, lkp_cons]
    by_cases e : c.1 = x
    · rw [if_pos e, lkp_gt (fun d hd => by rw [← e]; exact (kSo_c h2).1 d hd), lkp_gt (fun d hd => by rw [← e, ← heq]; exact (kSo_c h1).1 d hd)]
      simp only [if_pos hc]; rfl
    · rw [if_neg e, if_neg (by rw [heq]; exact e)]
  | case7 m M c C hlt heq hc ih =>
    intro h1 h2 x; rw [gat, if_neg hlt, if_pos heq, if_neg hc, lkp_cons, ih (kSo_c h1).2 (kSo_c h2).2, rsl, rsl, lkp_cons, lkp_cons]
    by_cases e : c.1 = x
    · rw [if_pos e, if_pos e]; simp only [if_neg hc]
    · rw [if_neg e, if_neg e, if_neg (by rw [heq]; exact e)]
  | case8 m M c C hlt heq hc ih =>
    have hcm := k_tri hlt heq
    intro h1 h2 x; rw [gat, if_neg hlt, if_neg heq, if_pos hc, ih h1 (kSo_c h2).2, rsl, rsl, lkp_cons c]
    by_cases e : c.1 = x
    · rw [if_pos e, lkp_gt (fun d hd => by rw [← e]; exact (kSo_c h2).1 d hd), lkp_gt (L := m :: M) (fun d hd => by rw [← e]; exact (List.mem_cons.mp hd).elim (fun z => by rw [z]; exact hcm) (fun z => k_ltt hcm ((kSo_c h1).1 d z)))]
      simp only [if_pos hc]; rfl
    · rw [if_neg e]
  | case9 m M c C hlt heq hc ih =>
    intro h1 h2 x; rw [gat, if_neg hlt, if_neg heq, if_neg hc, lkp_cons, ih h1 (kSo_c h2).2, rsl, rsl, lkp_cons c]
    by_cases e : c.1 = x
    · rw [if_pos e, if_pos e]; simp only [if_neg hc]
    · rw [if_neg e, if_neg e]
theorem hasS_rsl (M C : List kE3) (x : Int32) : hasS M C x = (rsl M C x).isSome := by
  unfold hasS rsl
  cases lkp C x with
  | none => simp
  | some c => by_cases h : c.2.2 = 1 <;> simp [h]
theorem rsl_val {M C : List kE3} {x : Int32} (h : hasS M C x = true) : rsl M C x = some (x, valS M C x, 0) := by
  unfold hasS at h
  unfold rsl valS
  cases hc : lkp C x with
  | none =>
    rw [hc] at h
    cases hm : lkp M x with
    | none => rw [hm] at h; cases h
    | some m => simp [(lkp_some hm).2]
  | some c =>
    rw [hc] at h
    have h' : ¬ c.2.2 = 1 := by simpa using h
    simp [h', (lkp_some hc).2]
/-- two ascending lists with the same look-ups are one -/
theorem kSo_ext : ∀ {L K : List kE3}, kSo L → kSo K → (∀ x, lkp L x = lkp K x) → L = K
  | [], [], _, _, _ => rfl
  | [], k :: K, _, _, h => by
    have := h k.1
    rw [lkp_cons, if_pos rfl] at this
    cases this
  | a :: L, [], _, _, h => by
    have := h a.1
    rw [lkp_cons, if_pos rfl] at this
    cases this
  | a :: L, k :: K, h1, h2, h => by
    have e : a = k := by
      have ha := h a.1
      rw [lkp_cons, if_pos rfl, lkp_cons] at ha
      by_cases c : k.1 = a.1
      · rw [if_pos c] at ha; exact Option.some.inj ha
      · rw [if_neg c] at ha
        have hak : a ∈ K := (lkp_some ha.symm).1
        have hk := h k.1
        rw [lkp_cons, if_neg (fun z => c z.symm), lkp_cons, if_pos rfl] at hk
        have hkl : k ∈ L := (lkp_some hk).1
        exact (k_as ((kSo_c h1).1 k hkl) ((kSo_c h2).1 a hak)).elim
    subst e
    rw [kSo_ext (kSo_c h1).2 (kSo_c h2).2 (fun x => ?_)]
    by_cases c : a.1 = x
    · rw [lkp_gt (fun d hd => by rw [← c]; exact (kSo_c h1).1 d hd), lkp_gt (fun d hd => by rw [← c]; exact (kSo_c h2).1 d hd)]
    · have := h x
      rw [lkp_cons, if_neg c, lkp_cons, if_neg c] at this
      exact this
