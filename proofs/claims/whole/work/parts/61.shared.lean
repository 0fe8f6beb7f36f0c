/-! ===== the law's cases: what they share ===== -/
theorem kT0_z (k : Nat) : kT0 (fun _ => 0) k := ⟨by decide, by show (0 : Int32).toInt ≤ (k : Int); rw [show (0 : Int32).toInt = 0 from by decide]; omega⟩
def fdN (n : Nat) : Nat := if 100 ≤ n then n else n + 1
def fdT (T : Nat → Int32) (n : Nat) (x : Int32) : Nat → Int32 := if 100 ≤ n then T else upd T n x
theorem fd_eq {n n2 : Nat} {T T2 : Nat → Int32} {x : Int32} (h : (fdK n = 0 ∧ n2 = n + 1 ∧ T2 = upd T n x) ∨ (fdK n = 1 ∧ n2 = n ∧ T2 = T)) : n2 = fdN n ∧ T2 = fdT T n x := by
  unfold fdN fdT
  by_cases c : 100 ≤ n
  · rw [if_pos c, if_pos c]
    rcases h with h | h
    · rw [fdK, if_pos c] at h; exact absurd h.1 (by decide)
    · exact h.2
  · rw [if_neg c, if_neg c]
    rcases h with h | h
    · exact h.2
    · rw [fdK, if_neg c] at h; exact absurd h.1 (by decide)
theorem fdN_le {n : Nat} (h : n ≤ 100) : fdN n ≤ 100 := by unfold fdN; split <;> omega
theorem EL_M {n : Nat} {fk fv fr : Nat → Int32} {M : List kE3} (h : EL n fk fv fr = M) : n = M.length := by rw [← h, EL_len]
theorem mwV_nan {M : List kE3} {S : Nat → Int32} (hI : kIv M) (hn : M.length ≤ 150) (hS : kSt S) (hk : mwK M = 0) : FP.Core.val64 (mwV M S) ≠ .nan := by
  have h0 : ¬ M.length = 0 := fun z => by rw [mwK, if_pos z] at hk; exact absurd hk (by decide)
  have hw := wsm_le hI (by omega) hS M.length (Nat.le_refl _)
  exact ddiv_val (by omega) ⟨by omega, by omega⟩
theorem mpV_nan {T : Nat → Int32} {k : Nat} (h : kT0 T k) (hk : k ≤ 1000) (hk0 : mpK T = 0) : FP.Core.val32 (mpV T) ≠ .nan := fdiv_val (T0_pos ⟨h.1, by have := h.2; omega⟩ hk0)
