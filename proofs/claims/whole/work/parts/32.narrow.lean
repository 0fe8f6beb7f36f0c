/-! ===== the model: narrowing, the longest run, segments ===== -/
def kL (x : Int) : Int64 := Int64.ofInt x
theorem kL_toInt {x : Int} (h1 : -9223372036854775808 ≤ x) (h2 : x < 9223372036854775808) : (kL x).toInt = x := Int64.toInt_ofInt_of_le h1 h2
theorem kL_mul (x y : Int) : kL x * kL y = kL (x * y) := (Int64.ofInt_mul x y).symm
theorem kL_add (x y : Int) : kL x + kL y = kL (x + y) := (Int64.ofInt_add x y).symm
theorem kL_sub (x y : Int) : kL x - kL y = kL (x - y) := (Int64.ofInt_sub x y).symm
theorem kL_I {x : Int} (h1 : -2147483648 ≤ x) (h2 : x < 2147483648) : (kI x).toInt64 = kL x := by
  apply Int64.toInt_inj.mp
  rw [Int32.toInt_toInt64, kI_toInt h1 h2, kL_toInt (by omega) (by omega)]
theorem kL_i (x : Int) : (kL x).toInt32 = kI x := by
  apply Int32.toInt_inj.mp
  rw [Int64.toInt_toInt32, kL, kI, Int64.toInt_ofInt, Int32.toInt_ofInt]
  exact Int.bmod_bmod_of_dvd (by decide)
theorem kL_le {x y : Int} (h1 : -9223372036854775808 ≤ x) (h2 : x < 9223372036854775808) (h3 : -9223372036854775808 ≤ y) (h4 : y < 9223372036854775808) : kL x ≤ kL y ↔ x ≤ y := by
  rw [Int64.le_iff_toInt_le, kL_toInt h1 h2, kL_toInt h3 h4]
theorem kL_lt {x y : Int} (h1 : -9223372036854775808 ≤ x) (h2 : x < 9223372036854775808) (h3 : -9223372036854775808 ≤ y) (h4 : y < 9223372036854775808) : kL x < kL y ↔ x < y := by
  rw [Int64.lt_iff_toInt_lt, kL_toInt h1 h2, kL_toInt h3 h4]
theorem kL_inj {x y : Int} (h1 : -9223372036854775808 ≤ x) (h2 : x < 9223372036854775808) (h3 : -9223372036854775808 ≤ y) (h4 : y < 9223372036854775808) : kL x = kL y ↔ x = y := by
  rw [← Int64.toInt_inj, kL_toInt h1 h2, kL_toInt h3 h4]
/-- the model's narrowing: both ends, the upper one may be none yet (bottom 0) -/
def nrL (β ρ δ a b : Int) : Int × Int := if a * δ < (ρ - β) * b then (ρ - β, δ) else (a, b)
def nrH (β ρ δ c d : Int) : Int × Int := if d = 0 ∨ (ρ + β) * d < c * δ then (ρ + β, δ) else (c, d)
def kmb (a b c d : Int) : Prop := (0 ≤ a ∧ a ≤ 200 ∧ a ≤ b) ∧ (1 ≤ b ∧ b ≤ 10000) ∧ (0 ≤ c ∧ c ≤ 200) ∧ (0 ≤ d ∧ d ≤ 10000)
/-- the class's upper end and the model's, as bounds of slopes of at most 1 -/
def kre (c d C D : Int) : Prop := ∀ x y : Int, 0 < y → x ≤ y → (x * d ≤ c * y ↔ x * D ≤ C * y)
theorem kfr {x y p q r s : Int} (hq : 0 < q) (hy : 0 ≤ y) (hs : 0 ≤ s) (h1 : x * q ≤ p * y) (h2 : p * s ≤ r * q) : x * s ≤ r * y := by
  have a1 : x * q * s ≤ p * y * s := Int.mul_le_mul_of_nonneg_right h1 hs
  have a2 : p * s * y ≤ r * q * y := Int.mul_le_mul_of_nonneg_right h2 hy
  have e1 : x * q * s = x * s * q := by rw [Int.mul_assoc, Int.mul_comm q s, ← Int.mul_assoc]
  have e2 : p * y * s = p * s * y := by rw [Int.mul_assoc, Int.mul_comm y s, ← Int.mul_assoc]
  have e3 : r * q * y = r * y * q := by rw [Int.mul_assoc, Int.mul_comm q y, ← Int.mul_assoc]
  have a3 : x * s * q ≤ r * y * q := by omega
  exact Int.le_of_mul_le_mul_right a3 hq
theorem kre_0 : kre 1 1 1 0 := by
  intro x y hy hxy
  simp
  omega
theorem nr_tk {β ρ δ a b c d C D : Int} (hβ : 0 ≤ β ∧ β ≤ 8) (hρ : 0 ≤ ρ ∧ ρ ≤ 180) (hδ : 1 ≤ δ ∧ δ ≤ 10000) (hρδ : ρ ≤ δ) (hb : kbd a b c d) (hm : kmb a b C D) (hcd : c ≤ d) (hr : kre c d C D) (hac : a * D ≤ C * b) :
    (((nrL β ρ δ a b).1 * (nrH β ρ δ C D).2 ≤ (nrH β ρ δ C D).1 * (nrL β ρ δ a b).2) → ∃ c2 d2 : Int, tk β ρ δ a b c d = some ((nrL β ρ δ a b).1, (nrL β ρ δ a b).2, c2, d2) ∧ kre c2 d2 (nrH β ρ δ C D).1 (nrH β ρ δ C D).2 ∧ c2 ≤ d2) ∧
    (¬ ((nrL β ρ δ a b).1 * (nrH β ρ δ C D).2 ≤ (nrH β ρ δ C D).1 * (nrL β ρ δ a b).2) → tk β ρ δ a b c d = none) := by
  obtain ⟨⟨ha0, ha1, hab⟩, ⟨hb1, hb2⟩, ⟨hc0, hc1⟩, ⟨hd1, hd2⟩⟩ := hb
  obtain ⟨-, -, ⟨hC0, hC1⟩, ⟨hD0, hD1⟩⟩ := hm
  have hnl1 : ρ - β ≤ δ := by omega
  -- the new low against the old top
  have r1 : (ρ - β) * d ≤ c * δ ↔ (ρ - β) * D ≤ C * δ := hr (ρ - β) δ (by omega) hnl1
  have r0 : (ρ - β) * δ ≤ (ρ + β) * δ := Int.mul_le_mul_of_nonneg_right (by omega) (by omega)
  -- what the model asks in the end: three comparisons
  have key : ((nrL β ρ δ a b).1 * (nrH β ρ δ C D).2 ≤ (nrH β ρ δ C D).1 * (nrL β ρ δ a b).2) ↔ ((ρ - β) * D ≤ C * δ ∧ a * δ ≤ (ρ + β) * b) := by
    unfold nrL nrH
    by_cases l1 : a * δ < (ρ - β) * b <;> by_cases h1 : D = 0 ∨ (ρ + β) * D < C * δ
    · rw [if_pos l1, if_pos h1]
      simp only
      have q1 : a * δ ≤ (ρ + β) * b := by
        have : (ρ - β) * b ≤ (ρ + β) * b := Int.mul_le_mul_of_nonneg_right (by omega) (by omega)
        omega
      have q2 : (ρ - β) * D ≤ C * δ := by
        rcases h1 with h1 | h1
        · rw [h1, Int.mul_zero]; exact Int.mul_nonneg hC0 (by omega)
        · have : (ρ - β) * D ≤ (ρ + β) * D := Int.mul_le_mul_of_nonneg_right (by omega) hD0
          omega
      exact ⟨fun _ => ⟨q2, q1⟩, fun _ => r0⟩
    · rw [if_pos l1, if_neg h1]
      simp only
      have q1 : a * δ ≤ (ρ + β) * b := by
        have : (ρ - β) * b ≤ (ρ + β) * b := Int.mul_le_mul_of_nonneg_right (by omega) (by omega)
        omega
      exact ⟨fun z => ⟨z, q1⟩, fun z => z.1⟩
    · rw [if_neg l1, if_pos h1]
      simp only
      have q2 : (ρ - β) * D ≤ C * δ := by
        rcases h1 with h1 | h1
        · rw [h1, Int.mul_zero]; exact Int.mul_nonneg hC0 (by omega)
        · have : (ρ - β) * D ≤ (ρ + β) * D := Int.mul_le_mul_of_nonneg_right (by omega) hD0
          omega
      exact ⟨fun z => ⟨q2, z⟩, fun z => z.2⟩
    · rw [if_neg l1, if_neg h1]
      simp only
      have h1D : ¬ D = 0 := fun z => h1 (Or.inl z)
      have h1c : ¬ (ρ + β) * D < C * δ := fun z => h1 (Or.inr z)
      have q2 : (ρ - β) * D ≤ C * δ := by
        have l2 : (ρ - β) * b ≤ a * δ := by omega
        exact kfr (q := b) (p := a) (by omega) (by omega) hD0 l2 hac
      have q1 : a * δ ≤ (ρ + β) * b := kfr (q := D) (p := C) (by omega) (by omega) (by omega) hac (by omega)
      exact ⟨fun _ => ⟨q2, q1⟩, fun _ => hac⟩
  constructor
  · intro hok
    obtain ⟨k1, k2⟩ := key.mp hok
    have k1' := r1.mpr k1
    have ht : tk β ρ δ a b c d = some (if a * δ < (ρ - β) * b then ρ - β else a, if a * δ < (ρ - β) * b then δ else b, if (ρ + β) * d < c * δ then ρ + β else c, if (ρ + β) * d < c * δ then δ else d) := by
      rw [tk, if_neg (fun z => z.elim (by omega) (by omega))]
    refine ⟨if (ρ + β) * d < c * δ then ρ + β else c, if (ρ + β) * d < c * δ then δ else d, ?_, ?_, ?_⟩
    · rw [ht]
      unfold nrL
      by_cases l1 : a * δ < (ρ - β) * b
      · simp only [if_pos l1]
      · simp only [if_neg l1]
    · intro x y hy hxy
      unfold nrH
      by_cases t1 : (ρ + β) * d < c * δ <;> by_cases h1 : D = 0 ∨ (ρ + β) * D < C * δ
      · simp only [if_pos t1, if_pos h1]
      · simp only [if_pos t1, if_neg h1]
        -- the new top is below the class's, not below the model's: they are one
        have h1D : ¬ D = 0 := fun z => h1 (Or.inl z)
        have h1c : C * δ ≤ (ρ + β) * D := by have : ¬ (ρ + β) * D < C * δ := fun z => h1 (Or.inr z)
                                             omega
        have hle1 : ρ + β ≤ δ := by
          refine Int.not_lt.mp (fun z => ?_)
          have z1 : δ * d ≤ (ρ + β) * d := Int.mul_le_mul_of_nonneg_right (by omega) (by omega)
          have z2 : c * δ ≤ d * δ := Int.mul_le_mul_of_nonneg_right hcd (by omega)
          have z3 : d * δ = δ * d := Int.mul_comm _ _
          omega
        have r2 := (hr (ρ + β) δ (by omega) hle1).mp (by omega)
        constructor
        · intro hx
          exact kfr (q := δ) (p := ρ + β) (by omega) (by omega) hD0 hx r2
        · intro hx
          exact kfr (q := D) (p := C) (by omega) (by omega) (by omega) hx h1c
      · simp only [if_neg t1, if_pos h1]
        constructor
        · intro hx
          exact kfr (q := d) (p := c) (by omega) (by omega) (by omega) hx (by omega)
        · intro hx
          have hx2 : x * D ≤ C * y := by
            rcases h1 with h1 | h1
            · rw [h1, Int.mul_zero]; exact Int.mul_nonneg hC0 (by omega)
            · exact kfr (q := δ) (p := ρ + β) (by omega) (by omega) hD0 hx (by omega)
          exact (hr x y hy hxy).mpr hx2
      · simp only [if_neg t1, if_neg h1]
        exact hr x y hy hxy
    · by_cases t1 : (ρ + β) * d < c * δ
      · rw [if_pos t1, if_pos t1]
        refine Int.not_lt.mp (fun z => ?_)
        have z1 : δ * d ≤ (ρ + β) * d := Int.mul_le_mul_of_nonneg_right (by omega) (by omega)
        have z2 : c * δ ≤ d * δ := Int.mul_le_mul_of_nonneg_right hcd (by omega)
        have z3 : d * δ = δ * d := Int.mul_comm _ _
        omega
      · rw [if_neg t1, if_neg t1]; exact hcd
  · intro hno
    have hn : ¬ ((ρ - β) * D ≤ C * δ ∧ a * δ ≤ (ρ + β) * b) := fun z => hno (key.mpr z)
    rw [tk, if_pos]
    by_cases z1 : (ρ - β) * D ≤ C * δ
    · right
      have : ¬ a * δ ≤ (ρ + β) * b := fun z => hn ⟨z1, z⟩
      omega
    · left
      have : ¬ (ρ - β) * d ≤ c * δ := fun z => z1 (r1.mp z)
      omega
theorem nr_bd {β ρ δ a b C D : Int} (hβ : 0 ≤ β ∧ β ≤ 8) (hρ : 0 ≤ ρ ∧ ρ ≤ 180) (hδ : 1 ≤ δ ∧ δ ≤ 10000) (hρδ : ρ ≤ δ) (hm : kmb a b C D) : kmb (nrL β ρ δ a b).1 (nrL β ρ δ a b).2 (nrH β ρ δ C D).1 (nrH β ρ δ C D).2 := by
  obtain ⟨⟨h1, h2, h2'⟩, ⟨h3, h4⟩, ⟨h5, h6⟩, ⟨h7, h8⟩⟩ := hm
  have hL : (0 ≤ (nrL β ρ δ a b).1 ∧ (nrL β ρ δ a b).1 ≤ 200 ∧ (nrL β ρ δ a b).1 ≤ (nrL β ρ δ a b).2) ∧ (1 ≤ (nrL β ρ δ a b).2 ∧ (nrL β ρ δ a b).2 ≤ 10000) := by
    unfold nrL
    split
    · rename_i hh
      have : 0 ≤ a * δ := Int.mul_nonneg h1 (by omega)
      have : 0 < (ρ - β) * b := by omega
      have : 0 < ρ - β := Int.lt_of_not_ge (fun hle => by
        have h9 := Int.mul_le_mul_of_nonneg_right hle (show 0 ≤ b by omega)
        omega)
      simp only; omega
    · simp only; omega
  have hH : (0 ≤ (nrH β ρ δ C D).1 ∧ (nrH β ρ δ C D).1 ≤ 200) ∧ (0 ≤ (nrH β ρ δ C D).2 ∧ (nrH β ρ δ C D).2 ≤ 10000) := by
    unfold nrH
    split
    · simp only; omega
    · simp only; omega
  exact ⟨hL.1, hL.2, hH.1, hH.2⟩
theorem kmb_0 : kmb 0 1 1 0 := by unfold kmb; omega
theorem tk_bd2 {β ρ δ a b c d a2 b2 c2 d2 : Int} (h : kbd a b c d) (hβ : 0 ≤ β ∧ β ≤ 8) (hρ : 0 ≤ ρ ∧ ρ ≤ 180) (hδ : 1 ≤ δ ∧ δ ≤ 10000) (hρδ : ρ ≤ δ) (ht : tk β ρ δ a b c d = some (a2, b2, c2, d2)) : kbd a2 b2 c2 d2 := tk_bd h hβ hρ hδ hρδ ht

