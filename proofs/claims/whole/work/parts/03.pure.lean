/-! ===== plain facts: rows that are read and written by cell and store ===== -/
def kcell (n : Nat) (f : Nat → Int32) (i : Int32) : Int32 := if i < 0 then 0 else if nI n ≤ i then 0 else f i.toNatClampNeg
def kstore (n : Nat) (f : Nat → Int32) (i v : Int32) : Nat → Int32 := if i < 0 then f else if nI n ≤ i then f else upd f i.toNatClampNeg v
def kcpy (f t : Nat → Int32) (k : Nat) : Nat → Int32 := fun j => if j < k then f j else t j
theorem kin {i : Int32} {n : Nat} (hn : n < 2 ^ 31) (h0 : ¬ i < 0) (h1 : ¬ nI n ≤ i) : vp_in i n := by
  have z : (0 : Int32).toInt = 0 := by decide
  have e := nI_toInt hn
  rw [Int32.lt_iff_toInt_lt, z] at h0
  rw [Int32.le_iff_toInt_le, e] at h1
  exact vp_in_iff.mpr ⟨by omega, by omega⟩
theorem kcell_nI {n j : Nat} (f : Nat → Int32) (hn : n < 2 ^ 31) (hj : j < n) : kcell n f (nI j) = f j := by
  have hj' : j < 2 ^ 31 := by omega
  rw [kcell, if_neg (nI_pos hj'), if_neg (by rw [nI_leI hn hj']; omega), nI_clamp hj']
theorem kstore_nI {n j : Nat} (f : Nat → Int32) (v : Int32) (hn : n < 2 ^ 31) (hj : j < n) : kstore n f (nI j) v = upd f j v := by
  have hj' : j < 2 ^ 31 := by omega
  rw [kstore, if_neg (nI_pos hj'), if_neg (by rw [nI_leI hn hj']; omega), nI_clamp hj']
theorem kcpy_0 (f t : Nat → Int32) : t = kcpy f t 0 := by
  funext j
  simp [kcpy]
theorem kcpy_s {f t : Nat → Int32} {nf nt i : Nat} (hf : nf < 2 ^ 31) (ht : nt < 2 ^ 31) (h1 : i < nf) (h2 : i < nt) : kstore nt (kcpy f t i) (nI i) (kcell nf f (nI i)) = kcpy f t (i + 1) := by
  rw [kstore_nI _ _ ht h2, kcell_nI _ hf h1]
  funext j
  by_cases h : j = i
  · subst h
    simp [kcpy, upd]
  · have e : (j < i + 1) ↔ (j < i) := by omega
    simp [kcpy, upd, h, e]
theorem k_lt {x y : Int32} {i k : Nat} (hx : x = nI i) (hy : y = nI k) (hi : i < 2 ^ 31) (hk : k < 2 ^ 31) (c : ¬ y ≤ x) : i < k := by
  rw [hx, hy, nI_leI hk hi] at c
  omega
theorem k_ge {x y : Int32} {i k : Nat} (hx : x = nI i) (hy : y = nI k) (hi : i < 2 ^ 31) (hk : k < 2 ^ 31) (c : y ≤ x) : k ≤ i := by
  rw [hx, hy, nI_leI hk hi] at c
  omega
theorem kl {i k : Nat} (hi : i < 2 ^ 31) (hk : k < 2 ^ 31) (c : ¬ nI k ≤ nI i) : i < k := by
  rw [nI_leI hk hi] at c
  omega
theorem kg {i k : Nat} (hi : i < 2 ^ 31) (hk : k < 2 ^ 31) (c : nI k ≤ nI i) : k ≤ i := by
  rw [nI_leI hk hi] at c
  exact c
def kis1 (r : Int32) : Int32 := if r = 1 then 1 else 0
