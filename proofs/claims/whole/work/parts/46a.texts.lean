/-! ===== the model: texts read entry by entry ===== -/
def pE (T : Nat → Int32) (n k j : Nat) (A : List kE3) : Bool × Nat × List kE3 := match (rE T n j).2 with | some e => pl T n k (rE T n j).1 (A ++ [e]) | none => (false, (rE T n j).1, A)
def ps (T : Nat → Int32) (n : Nat) : Nat → Nat
  | 0 => 0
  | k + 1 => (rE T n (ps T n k)).1 + 1
theorem pE_none {T : Nat → Int32} {n k j j2 : Nat} {A : List kE3} (h : rE T n j = (j2, none)) : pE T n k j A = (false, j2, A) := by rw [pE, h]
theorem pE_some {T : Nat → Int32} {n k j j2 : Nat} {A : List kE3} {e : kE3} (h : rE T n j = (j2, some e)) : pE T n k j A = pl T n k j2 (A ++ [e]) := by rw [pE, h]
theorem pl_E {T : Nat → Int32} {n k i : Nat} {A : List kE3} (hi : i < n) (hc : ch T n i = 59) : pl T n (k + 1) i A = pE T n k (i + 1) A := by
  rw [pl, if_pos hi, if_pos hc]; rfl
theorem pT_E {T : Nat → Int32} {n : Nat} (h : 0 < n) : pT T n = pE T n 100 0 [] := by
  rw [pT, if_neg (by omega)]; rfl
def kAt (T : Nat → Int32) (n ne j : Nat) (A : List kE3) : Prop := A.length = ne ∧ (ne ≤ j ∧ j ≤ n) ∧ j = ps T n ne ∧ pE T n (100 - ne) j A = pT T n ∧ ∀ m, m < ne → ∃ e, A[m]? = some e ∧ (rE T n (ps T n m)).2 = some e ∧ (rE T n (ps T n m)).1 < n
theorem kAt_0 {T : Nat → Int32} {n : Nat} (h : 0 < n) : kAt T n 0 0 [] := ⟨rfl, ⟨Nat.le_refl 0, Nat.zero_le n⟩, rfl, (pT_E h).symm, fun m hm => absurd hm (Nat.not_lt_zero m)⟩
theorem kAt_n {T : Nat → Int32} {n ne j j2 : Nat} {A : List kE3} (h : kAt T n ne j A) (hr : rE T n j = (j2, none)) : (pT T n).1 = false ∧ (pT T n).2.1 = j2 := by
  obtain ⟨-, -, -, h4, -⟩ := h
  rw [pE_none hr] at h4
  rw [← h4]; exact ⟨rfl, rfl⟩
theorem kAt_e {T : Nat → Int32} {n ne j j2 : Nat} {A : List kE3} {e : kE3} (h : kAt T n ne j A) (hr : rE T n j = (j2, some e)) (hn : n ≤ j2) : pT T n = (true, j2, A ++ [e]) := by
  obtain ⟨-, -, -, h4, -⟩ := h
  rw [pE_some hr, pl_e hn] at h4
  exact h4.symm
theorem kAt_jl {T : Nat → Int32} {n ne j j2 : Nat} {A : List kE3} {e : kE3} (h : kAt T n ne j A) (hr : rE T n j = (j2, some e)) : j < j2 ∧ j2 ≤ n := by
  have h1 := rE_le (T := T) (n := n) (i := j) h.2.1.2
  rw [hr] at h1
  exact ⟨h1.2.2 (by simp), h1.2.1⟩
theorem kAt_f {T : Nat → Int32} {n ne j j2 : Nat} {A : List kE3} {e : kE3} (hn : n ≤ 100) (h : kAt T n ne j A) (hr : rE T n j = (j2, some e)) (hl : j2 < n) (hc : ¬ ch T n j2 = 59) : (pT T n).1 = false ∧ (pT T n).2.1 = j2 := by
  have h1 := kAt_jl h hr
  obtain ⟨-, h2, -, h4, -⟩ := h
  rw [pE_some hr, show 100 - ne = (99 - ne) + 1 by omega, pl_n hl hc] at h4
  rw [← h4]; exact ⟨rfl, rfl⟩
theorem kAt_s {T : Nat → Int32} {n ne j j2 : Nat} {A : List kE3} {e : kE3} (hn : n ≤ 100) (h : kAt T n ne j A) (hr : rE T n j = (j2, some e)) (hl : j2 < n) (hc : ch T n j2 = 59) : kAt T n (ne + 1) (j2 + 1) (A ++ [e]) := by
  have h1 := kAt_jl h hr
  obtain ⟨ha, h2, h3, h4, h5⟩ := h
  rw [pE_some hr, show 100 - ne = (99 - ne) + 1 by omega, pl_E hl hc] at h4
  refine ⟨by rw [List.length_append, ha, List.length_singleton], ⟨by omega, by omega⟩, by rw [ps, ← h3, hr], by rw [show 100 - (ne + 1) = 99 - ne by omega]; exact h4, fun m hm => ?_⟩
  rcases Nat.lt_succ_iff_lt_or_eq.mp hm with z | z
  · obtain ⟨d, d1, d2⟩ := h5 m z
    exact ⟨d, by rw [List.getElem?_append_left (by omega)]; exact d1, d2⟩
  · subst z
    exact ⟨e, by rw [← ha, List.getElem?_append_right (Nat.le_refl _)]; simp, by rw [← h3, hr], by rw [← h3, hr]; exact hl⟩
theorem pl_pre {T : Nat → Int32} {n : Nat} : ∀ (k i : Nat) (A : List kE3), (pl T n k i A).1 = true → A <+: (pl T n k i A).2.2
  | 0, i, A, _ => List.prefix_refl A
  | k + 1, i, A, h => by
    by_cases hi : i < n
    · by_cases hc : ch T n i = 59
      · rw [pl_E hi hc] at h ⊢
        unfold pE at h ⊢
        cases he : (rE T n (i + 1)).2 with
        | none => rw [he] at h; cases h
        | some e =>
          rw [he] at h
          exact List.IsPrefix.trans (List.prefix_append A [e]) (pl_pre k _ _ h)
      · rw [pl_n hi hc] at h; cases h
    · rw [pl_e (by omega)]; exact List.prefix_refl A
/-- of a text that is one: the entry that comes next, and what was read before -/
theorem kAt_ok {T : Nat → Int32} {n ne j : Nat} {A : List kE3} (h : kAt T n ne j A) (hok : (pT T n).1 = true) : ∃ e, (rE T n j).2 = some e ∧ (pT T n).2.2[ne]? = some e ∧ (pT T n).2.2.take ne = A ∧ (pT T n).2.2.drop ne = e :: (pT T n).2.2.drop (ne + 1) := by
  obtain ⟨ha, h2, h3, h4, h5⟩ := h
  rw [← h4] at hok ⊢
  unfold pE at hok ⊢
  cases he : (rE T n j).2 with
  | none => rw [he] at hok; cases hok
  | some e =>
    rw [he] at hok
    simp only at hok ⊢
    obtain ⟨B, hB⟩ := pl_pre _ _ _ hok
    rw [← hB, List.append_assoc]
    refine ⟨e, rfl, ?_, ?_, ?_⟩
    · rw [← ha, List.getElem?_append_right (Nat.le_refl _)]; simp
    · rw [← ha, List.take_left]
    · rw [← ha]; simp
theorem ps_lt {T : Nat → Int32} {n ne : Nat} (h : ∀ m, m < ne → (rE T n (ps T n m)).1 < n) : ∀ m, m ≤ ne → ps T n m ≤ n ∧ ∀ k, k < m → ps T n k < ps T n m
  | 0, _ => ⟨Nat.zero_le n, fun k hk => absurd hk (Nat.not_lt_zero k)⟩
  | m + 1, hm => by
    obtain ⟨h1, h2⟩ := ps_lt h m (by omega)
    have h3 := h m (by omega)
    have h4 := (rE_le (T := T) (n := n) h1).1
    refine ⟨by rw [ps]; omega, fun k hk => ?_⟩
    rw [ps]
    rcases Nat.lt_succ_iff_lt_or_eq.mp hk with z | z
    · have := h2 k z; omega
    · subst z; omega
theorem kAt_ps {T : Nat → Int32} {n ne j : Nat} {A : List kE3} (h : kAt T n ne j A) {m : Nat} (hm : m ≤ ne) : ps T n m ≤ n ∧ (ps T n m < j ↔ m < ne) := by
  obtain ⟨ha, h2, h3, h4, h5⟩ := h
  have hq : ∀ m, m < ne → (rE T n (ps T n m)).1 < n := fun m hm => by obtain ⟨e, -, -, g⟩ := h5 m hm; exact g
  refine ⟨(ps_lt hq m hm).1, ⟨fun z => ?_, fun z => by rw [h3]; exact (ps_lt hq ne (Nat.le_refl _)).2 m z⟩⟩
  rcases Nat.lt_or_ge m ne with y | y
  · exact y
  · rw [show m = ne by omega, ← h3] at z; exact absurd z (Nat.lt_irrefl _)
theorem kAt_at {T : Nat → Int32} {n ne j : Nat} {A : List kE3} (h : kAt T n ne j A) {m j2 : Nat} {o : Option kE3} (hm : m < ne) (hr : rE T n (ps T n m) = (j2, o)) : ∃ e, o = some e ∧ A[m]? = some e ∧ j2 + 1 = ps T n (m + 1) := by
  obtain ⟨e, h1, h2, h3⟩ := h.2.2.2.2 m hm
  rw [hr] at h2
  exact ⟨e, h2, h1, by rw [ps, hr]⟩
/-- whether a key is there behind one more entry -/
theorem was_s {G : List kE3} {P : List kE3} {m : Nat} {e : kE3} {x : Int32} (hG : kSo G) (hm : P[m]? = some e) : (lkp ((P.take (m + 1)).foldl appG G) x).isSome = if e.1 = x then decide (¬ e.2.2 = 1) else (lkp ((P.take m).foldl appG G) x).isSome := by
  rw [List.take_add_one, hm, Option.toList_some, List.foldl_append]
  show (lkp (appG ((P.take m).foldl appG G) e) x).isSome = _
  rw [appG_lkp _ _ (fold_so _ _ hG)]
  by_cases c : e.1 = x
  · rw [if_pos c, if_pos c]
    by_cases c2 : e.2.2 = 1 <;> simp [c2]
  · rw [if_neg c, if_neg c]
theorem apl_e {M C : List kE3} {e : kE3} {rv : Int32} (h : e.2.2 = 0 → rv = e.2.1) (h01 : e.2.2 = 0 ∨ e.2.2 = 1) : aplS M C (e.1, rv, e.2.2) = aplS M C e := by
  unfold aplS
  rcases h01 with z | z
  · simp only [h z]
  · simp only [z, if_true]
theorem moc_no {M C : List kE3} {S T : Nat → Int32} (h : (C.length : Int) ≤ (S 1).toInt) : mocS M C S T = (M, C, T) := by rw [mocS, if_neg (by omega)]

