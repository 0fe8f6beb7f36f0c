/-! ===== texts of entries ===== -/
def ch (T : Nat → Int32) (n i : Nat) : Int32 := if i < n then T i else -1
def kdg (x : Int32) : Int32 := if x < 48 then 0 else if 57 < x then 0 else 1
theorem kdg_m1 : kdg (-1) = 0 := by decide
def rn (T : Nat → Int32) (n : Nat) : Nat → Nat → Int32 → Nat × Int32
  | 0, i, v => (i, v)
  | k + 1, i, v => if kdg (ch T n i) = 0 then (i, v) else rn T n k (i + 1) (v * 10 + ch T n i - 48)
theorem ch_in {T : Nat → Int32} {n i : Nat} (h : ¬ kdg (ch T n i) = 0) : i < n := by
  by_cases c : i < n
  · exact c
  · rw [ch, if_neg c] at h
    exact absurd kdg_m1 h
theorem ch_inw {T : Nat → Int32} {n i : Nat} {w : Int32} (h : ch T n i = w) (hw : ¬ w = -1) : i < n := by
  by_cases c : i < n
  · exact c
  · rw [ch, if_neg c] at h
    exact absurd h.symm hw
theorem rn_le {T : Nat → Int32} {n : Nat} : ∀ (k i : Nat) (v : Int32), i ≤ (rn T n k i v).1 ∧ (rn T n k i v).1 ≤ i + k ∧ (i ≤ n → (rn T n k i v).1 ≤ n)
  | 0, i, v => by simp [rn]
  | k + 1, i, v => by
    rw [rn]
    by_cases c : kdg (ch T n i) = 0
    · rw [if_pos c]; simp
    · have h1 := ch_in c
      have h2 := rn_le (T := T) (n := n) k (i + 1) (v * 10 + ch T n i - 48)
      rw [if_neg c]
      omega
/-- behind = : the value -/
def rV (T : Nat → Int32) (n i : Nat) : Nat × Option Int32 :=
  if ch T n i = 61 then
    (if (rn T n 4 (if ch T n (i + 1) = 45 then i + 2 else i + 1) 0).1 = (if ch T n (i + 1) = 45 then i + 2 else i + 1) then ((if ch T n (i + 1) = 45 then i + 2 else i + 1), none)
     else ((rn T n 4 (if ch T n (i + 1) = 45 then i + 2 else i + 1) 0).1, some (if ch T n (i + 1) = 45 then -(rn T n 4 (if ch T n (i + 1) = 45 then i + 2 else i + 1) 0).2 else (rn T n 4 (if ch T n (i + 1) = 45 then i + 2 else i + 1) 0).2)))
  else (i, none)
def rE (T : Nat → Int32) (n i : Nat) : Nat × Option kE3 :=
  if (rn T n 4 i 0).1 = i then (i, none)
  else if ch T n (rn T n 4 i 0).1 = 33 then ((rn T n 4 i 0).1 + 1, some ((rn T n 4 i 0).2, 0, 1))
  else ((rV T n (rn T n 4 i 0).1).1, (rV T n (rn T n 4 i 0).1).2.map (fun v => ((rn T n 4 i 0).2, v, 0)))
theorem rV_le {T : Nat → Int32} {n i : Nat} (h : i ≤ n) : i ≤ (rV T n i).1 ∧ (rV T n i).1 ≤ n := by
  unfold rV
  by_cases c : ch T n i = 61
  · have h1 := ch_inw c (by decide)
    rw [if_pos c]
    by_cases c2 : ch T n (i + 1) = 45
    · have h2 := ch_inw c2 (by decide)
      have h3 := rn_le (T := T) (n := n) 4 (i + 2) 0
      simp only [if_pos c2]
      split <;> simp <;> omega
    · have h3 := rn_le (T := T) (n := n) 4 (i + 1) 0
      simp only [if_neg c2]
      split <;> simp <;> omega
  · rw [if_neg c]; simp; exact h
theorem rE_le {T : Nat → Int32} {n i : Nat} (h : i ≤ n) : i ≤ (rE T n i).1 ∧ (rE T n i).1 ≤ n ∧ ((rE T n i).2 ≠ none → i < (rE T n i).1) := by
  unfold rE
  have h3 := rn_le (T := T) (n := n) 4 i 0
  by_cases c : (rn T n 4 i 0).1 = i
  · rw [if_pos c]; simp; exact h
  · rw [if_neg c]
    by_cases c2 : ch T n (rn T n 4 i 0).1 = 33
    · have h2 := ch_inw c2 (by decide)
      rw [if_pos c2]
      simp
      omega
    · rw [if_neg c2]
      have h4 := rV_le (T := T) (n := n) (i := (rn T n 4 i 0).1) (by omega)
      simp only
      omega
/-- behind an entry: the rest of a text -/
def pl (T : Nat → Int32) (n : Nat) : Nat → Nat → List kE3 → Bool × Nat × List kE3
  | 0, i, L => (true, i, L)
  | k + 1, i, L => if i < n then (if ch T n i = 59 then (match (rE T n (i + 1)).2 with | some e => pl T n k (rE T n (i + 1)).1 (L ++ [e]) | none => (false, (rE T n (i + 1)).1, L)) else (false, i, L)) else (true, i, L)
def pT (T : Nat → Int32) (n : Nat) : Bool × Nat × List kE3 :=
  if n = 0 then (true, 0, []) else (match (rE T n 0).2 with | some e => pl T n 100 (rE T n 0).1 [e] | none => (false, (rE T n 0).1, []))
def kbool (b : Bool) : Int32 := if b then 1 else 0
theorem EL_keep {m : Nat} {fk fv fr : Nat → Int32} {a b : Int32} (h : m < 100) : EL m (kstore 100 fk (nI m) a) fv (kstore 100 fr (nI m) b) = EL m fk fv fr := by
  rw [kstore_nI _ _ (by decide) h, kstore_nI _ _ (by decide) h]
  refine EL_cong (fun j hj => ?_)
  have : ¬ j = m := by omega
  simp [upd, this]
theorem EL_pushs {m : Nat} {fk fv fr : Nat → Int32} {a x b : Int32} (h : m < 100) : EL (m + 1) (kstore 100 fk (nI m) a) (kstore 100 fv (nI m) x) (kstore 100 fr (nI m) b) = EL m fk fv fr ++ [(a, x, b)] := by
  rw [kstore_nI _ _ (by decide) h, kstore_nI _ _ (by decide) h, kstore_nI _ _ (by decide) h, EL_push]
theorem pl_s {T : Nat → Int32} {n k i : Nat} {L : List kE3} (hi : i < n) (hc : ch T n i = 59) {e : kE3} (he : (rE T n (i + 1)).2 = some e) : pl T n (k + 1) i L = pl T n k (rE T n (i + 1)).1 (L ++ [e]) := by
  rw [pl, if_pos hi, if_pos hc, he]
theorem pl_f {T : Nat → Int32} {n k i : Nat} {L : List kE3} (hi : i < n) (hc : ch T n i = 59) (he : (rE T n (i + 1)).2 = none) : pl T n (k + 1) i L = (false, (rE T n (i + 1)).1, L) := by
  rw [pl, if_pos hi, if_pos hc, he]
theorem pl_n {T : Nat → Int32} {n k i : Nat} {L : List kE3} (hi : i < n) (hc : ¬ ch T n i = 59) : pl T n (k + 1) i L = (false, i, L) := by
  rw [pl, if_pos hi, if_neg hc]
theorem pl_e {T : Nat → Int32} {n k i : Nat} {L : List kE3} (hi : n ≤ i) : pl T n k i L = (true, i, L) := by
  cases k with
  | zero => rfl
  | succ k => rw [pl, if_neg (by omega)]
theorem pT_s {T : Nat → Int32} {n j : Nat} {e : kE3} (h0 : ¬ n = 0) (h : rE T n 0 = (j, some e)) : pT T n = pl T n 100 j [e] := by
  rw [pT, if_neg h0, h]
theorem pT_f {T : Nat → Int32} {n j : Nat} (h0 : ¬ n = 0) (h : rE T n 0 = (j, none)) : pT T n = (false, j, []) := by
  rw [pT, if_neg h0, h]
