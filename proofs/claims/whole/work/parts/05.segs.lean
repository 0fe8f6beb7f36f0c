/-! ===== whole numbers in int fields; the longest runs of a main part ===== -/
def kI (x : Int) : Int32 := Int32.ofInt x
theorem kI_toInt {x : Int} (h1 : -2147483648 ≤ x) (h2 : x < 2147483648) : (kI x).toInt = x := Int32.toInt_ofInt_of_le h1 h2
theorem kI_add (x y : Int) : kI x + kI y = kI (x + y) := (Int32.ofInt_add x y).symm
theorem kI_sub (x y : Int) : kI x - kI y = kI (x - y) := (Int32.ofInt_sub x y).symm
theorem kI_mul (x y : Int) : kI x * kI y = kI (x * y) := (Int32.ofInt_mul x y).symm
theorem kI_neg (x : Int) : - kI x = kI (- x) := (Int32.ofInt_neg x).symm
theorem kI_nI (n : Nat) : nI n = kI (n : Int) := (Int32.ofInt_eq_ofNat).symm
theorem kI_of (x : Int32) : x = kI x.toInt := (Int32.ofInt_toInt x).symm
theorem kI_le {x y : Int} (h1 : -2147483648 ≤ x) (h2 : x < 2147483648) (h3 : -2147483648 ≤ y) (h4 : y < 2147483648) : kI x ≤ kI y ↔ x ≤ y := by
  rw [Int32.le_iff_toInt_le, kI_toInt h1 h2, kI_toInt h3 h4]
theorem kI_lt {x y : Int} (h1 : -2147483648 ≤ x) (h2 : x < 2147483648) (h3 : -2147483648 ≤ y) (h4 : y < 2147483648) : kI x < kI y ↔ x < y := by
  rw [Int32.lt_iff_toInt_lt, kI_toInt h1 h2, kI_toInt h3 h4]
theorem kI_inj {x y : Int} (h1 : -2147483648 ≤ x) (h2 : x < 2147483648) (h3 : -2147483648 ≤ y) (h4 : y < 2147483648) : kI x = kI y ↔ x = y := by
  rw [← Int32.toInt_inj, kI_toInt h1 h2, kI_toInt h3 h4]
theorem kmulb {x w : Int} (h1 : -300 ≤ x) (h2 : x ≤ 300) (h3 : 0 ≤ w) (h4 : w ≤ 10000) : -3000000 ≤ x * w ∧ x * w ≤ 3000000 := by
  have a : x * w ≤ 300 * w := Int.mul_le_mul_of_nonneg_right h2 h3
  have b : -300 * w ≤ x * w := Int.mul_le_mul_of_nonneg_right h1 h3
  omega
/-- one more position: the slopes that are left, none if none is -/
def tk (β ρ δ a b c d : Int) : Option (Int × Int × Int × Int) :=
  if c * δ < (ρ - β) * d ∨ (ρ + β) * b < a * δ then none
  else some (if a * δ < (ρ - β) * b then ρ - β else a, if a * δ < (ρ - β) * b then δ else b, if (ρ + β) * d < c * δ then ρ + β else c, if (ρ + β) * d < c * δ then δ else d)
/-- the bounds of what is in a run's fields -/
def kbd (a b c d : Int) : Prop := (0 ≤ a ∧ a ≤ 200 ∧ a ≤ b) ∧ (1 ≤ b ∧ b ≤ 10000) ∧ (0 ≤ c ∧ c ≤ 200) ∧ (1 ≤ d ∧ d ≤ 10000)
def kst (x y z w : Int) : Int32 := if x * w ≤ z * y then 0 else 1
theorem kst_01 (x y z w : Int) : kst x y z w = 0 ∨ kst x y z w = 1 := by unfold kst; split <;> simp
theorem kst_0 {x y z w : Int} : kst x y z w = 0 ↔ ¬ z * y < x * w := by
  unfold kst
  split <;> simp <;> omega
theorem kst_1 {x y z w : Int} : ¬ kst x y z w = 0 ↔ z * y < x * w := by
  rw [kst_0]
  omega
theorem tk_bd {β ρ δ a b c d a2 b2 c2 d2 : Int} (h : kbd a b c d) (hβ : 0 ≤ β ∧ β ≤ 8) (hρ : 0 ≤ ρ ∧ ρ ≤ 180) (hδ : 1 ≤ δ ∧ δ ≤ 10000) (hρδ : ρ ≤ δ) (ht : tk β ρ δ a b c d = some (a2, b2, c2, d2)) : kbd a2 b2 c2 d2 := by
  obtain ⟨⟨h1, h2, h2'⟩, ⟨h3, h4⟩, ⟨h5, h6⟩, ⟨h7, h8⟩⟩ := h
  unfold tk at ht
  split at ht
  · cases ht
  · cases ht
    refine ⟨?_, ?_, ?_, ?_⟩
    · split
      · rename_i hh
        have : 0 ≤ a * δ := Int.mul_nonneg h1 (by omega)
        have : 0 < (ρ - β) * b := by omega
        have : 0 < ρ - β := Int.lt_of_not_ge (fun hle => by
          have h9 := Int.mul_le_mul_of_nonneg_right hle (show 0 ≤ b by omega)
          omega)
        omega
      · omega
    · split <;> omega
    · split <;> omega
    · split <;> omega
def gw (κ : Nat → Int) (f : Nat) (β : Int) : Nat → Nat → Int → Int → Int → Int → Nat × Int × Int
  | 0, p, a, b, _, _ => (p - 1, a, b)
  | k + 1, p, a, b, c, d => match tk β ((p : Int) - (f : Int)) (κ p - κ f) a b c d with
    | none => (p - 1, a, b)
    | some (a2, b2, c2, d2) => gw κ f β k (p + 1) a2 b2 c2 d2
/-- the longest run from f on, and its least slope: last, numerator, denominator before they are reduced -/
def gw0 (κ : Nat → Int) (n f : Nat) (β : Int) : Nat × Int × Int := gw κ f β (n - (f + 1)) (f + 1) 0 1 1 1
def kasc (κ : Nat → Int) (n : Nat) : Prop := (∀ j, j < n → 0 ≤ κ j ∧ κ j < 10000) ∧ ∀ i j, i < j → j < n → κ i < κ j
theorem kasc_gap {κ : Nat → Int} {n : Nat} (h : kasc κ n) : ∀ (i k : Nat), i + k < n → (k : Int) ≤ κ (i + k) - κ i
  | i, 0, _ => by simp
  | i, k + 1, hk => by
    have h1 := kasc_gap h i k (by omega)
    have h2 := h.2 (i + k) (i + k + 1) (by omega) (by omega)
    rw [show i + (k + 1) = i + k + 1 by omega]
    push_cast
    omega
theorem kasc_d {κ : Nat → Int} {n f p : Nat} (h : kasc κ n) (hf : f < p) (hp : p < n) : (p : Int) - (f : Int) ≤ κ p - κ f ∧ κ p - κ f ≤ 10000 := by
  have h1 := kasc_gap h f (p - f) (by omega)
  rw [show f + (p - f) = p by omega] at h1
  have h2 := (h.1 p hp).2
  have h3 := (h.1 f (by omega)).1
  omega
theorem gw_bd {κ : Nat → Int} {n f : Nat} {β : Int} (h : kasc κ n) (hn : n ≤ 160) (hβ : 0 ≤ β ∧ β ≤ 8) : ∀ (k p : Nat) (a b c d : Int), f < p → p + k ≤ n → kbd a b c d → (p - 1 ≤ (gw κ f β k p a b c d).1 ∧ (gw κ f β k p a b c d).1 ≤ p + k - 1) ∧ (0 ≤ (gw κ f β k p a b c d).2.1 ∧ (gw κ f β k p a b c d).2.1 ≤ 200 ∧ (gw κ f β k p a b c d).2.1 ≤ (gw κ f β k p a b c d).2.2 ∧ 1 ≤ (gw κ f β k p a b c d).2.2 ∧ (gw κ f β k p a b c d).2.2 ≤ 10000)
  | 0, p, a, b, c, d, hp, hk, hb => by
    obtain ⟨⟨h1, h2, h2'⟩, ⟨h3, h4⟩, -⟩ := hb
    simp only [gw]
    omega
  | k + 1, p, a, b, c, d, hp, hk, hb => by
    have hd := kasc_d h hp (show p < n by omega)
    simp only [gw]
    cases ht : tk β ((p : Int) - (f : Int)) (κ p - κ f) a b c d with
    | none =>
      obtain ⟨⟨h1, h2, h2'⟩, ⟨h3, h4⟩, -⟩ := hb
      simp only
      omega
    | some S =>
      obtain ⟨a2, b2, c2, d2⟩ := S
      have hb2 := tk_bd hb hβ (by omega) (by omega) (by omega) ht
      have ih := gw_bd (f := f) h hn hβ k (p + 1) a2 b2 c2 d2 (by omega) (by omega) hb2
      simp only
      omega
theorem kbd_0 : kbd 0 1 1 1 := by unfold kbd; omega
theorem gw0_bd {κ : Nat → Int} {n f : Nat} {β : Int} (h : kasc κ n) (hn : n ≤ 160) (hβ : 0 ≤ β ∧ β ≤ 8) (hf : f < n) : (f ≤ (gw0 κ n f β).1 ∧ (gw0 κ n f β).1 < n) ∧ (0 ≤ (gw0 κ n f β).2.1 ∧ (gw0 κ n f β).2.1 ≤ 200 ∧ (gw0 κ n f β).2.1 ≤ (gw0 κ n f β).2.2 ∧ 1 ≤ (gw0 κ n f β).2.2 ∧ (gw0 κ n f β).2.2 ≤ 10000) := by
  have := gw_bd (f := f) h hn hβ (n - (f + 1)) (f + 1) 0 1 1 1 (by omega) (by omega) kbd_0
  unfold gw0
  omega
/-- the segments: first, last, numerator, denominator -/
def sg (κ : Nat → Int) (n : Nat) (β : Int) : Nat → Nat → List (Nat × Nat × Nat × Nat)
  | 0, _ => []
  | k + 1, f => if f < n then
      (f, (gw0 κ n f β).1, (gw0 κ n f β).2.1.toNat / Nat.gcd (gw0 κ n f β).2.2.toNat (gw0 κ n f β).2.1.toNat, (gw0 κ n f β).2.2.toNat / Nat.gcd (gw0 κ n f β).2.2.toNat (gw0 κ n f β).2.1.toNat) :: sg κ n β k ((gw0 κ n f β).1 + 1)
    else []
def sgs (κ : Nat → Int) (n : Nat) (β : Int) : List (Nat × Nat × Nat × Nat) := sg κ n β n 0
theorem sg_s {κ : Nat → Int} {n : Nat} {β : Int} (k f : Nat) : sg κ n β (k + 1) f = if f < n then
      (f, (gw0 κ n f β).1, (gw0 κ n f β).2.1.toNat / Nat.gcd (gw0 κ n f β).2.2.toNat (gw0 κ n f β).2.1.toNat, (gw0 κ n f β).2.2.toNat / Nat.gcd (gw0 κ n f β).2.2.toNat (gw0 κ n f β).2.1.toNat) :: sg κ n β k ((gw0 κ n f β).1 + 1)
    else [] := rfl
/-- enough steps are enough -/
theorem sg_more {κ : Nat → Int} {n : Nat} {β : Int} (h : kasc κ n) (hn : n ≤ 160) (hβ : 0 ≤ β ∧ β ≤ 8) : ∀ (k f : Nat), n ≤ f + k → sg κ n β (k + 1) f = sg κ n β k f
  | 0, f, hk => by simp only [sg]; rw [if_neg (by omega)]
  | k + 1, f, hk => by
    rw [sg_s (k + 1) f, sg_s k f]
    by_cases hf : f < n
    · have hb := gw0_bd h hn hβ hf
      rw [if_pos hf, if_pos hf, sg_more h hn hβ k _ (by omega)]
    · rw [if_neg hf, if_neg hf]
theorem sg_len {κ : Nat → Int} {n : Nat} {β : Int} (h : kasc κ n) (hn : n ≤ 160) (hβ : 0 ≤ β ∧ β ≤ 8) : ∀ (k f : Nat), (sg κ n β k f).length ≤ n - f
  | 0, f => by simp [sg]
  | k + 1, f => by
    rw [sg]
    by_cases hf : f < n
    · have hb := gw0_bd h hn hβ hf
      have ih := sg_len h hn hβ k ((gw0 κ n f β).1 + 1)
      rw [if_pos hf, List.length_cons]
      omega
    · rw [if_neg hf]; simp
/-- Euclid's steps: few are enough -/
def kev (k D R : Nat) : Prop := (∃ m, k = 2 * m ∧ D * 2 ^ m ≤ 16384 ∧ R ≤ D) ∨ (∃ m, k = 2 * m + 1 ∧ D * 2 ^ m ≤ 16384 ∧ R * 2 ^ (m + 1) ≤ 16384 ∧ R ≤ D)
theorem kev_0 {D R : Nat} (h : R ≤ D) (hD : D ≤ 10000) : kev 0 D R := Or.inl ⟨0, rfl, by omega, h⟩
theorem kev_s {k D R : Nat} (h : kev k D R) (hR : 0 < R) : kev (k + 1) R (D % R) := by
  have h1 : D % R < R := Nat.mod_lt _ hR
  rcases h with ⟨m, rfl, h2, h3⟩ | ⟨m, rfl, h2, h4, h3⟩
  · refine Or.inr ⟨m, rfl, Nat.le_trans (Nat.mul_le_mul_right _ h3) h2, ?_, Nat.le_of_lt h1⟩
    have h5 : 2 * (D % R) ≤ D := by
      have h6 : D = R * (D / R) + D % R := (Nat.div_add_mod D R).symm
      have h7 : 1 ≤ D / R := (Nat.one_le_div_iff hR).mpr h3
      have h8 : R * 1 ≤ R * (D / R) := Nat.mul_le_mul_left R h7
      omega
    rw [Nat.pow_succ, Nat.mul_comm (2 ^ m) 2, ← Nat.mul_assoc, Nat.mul_comm (D % R) 2]
    exact Nat.le_trans (Nat.mul_le_mul_right _ h5) h2
  · exact Or.inl ⟨m + 1, by omega, h4, Nat.le_of_lt h1⟩
theorem kev_end {D R : Nat} (hD : 0 < D) : ¬ kev 64 D R := by
  rintro (⟨m, h1, h2, -⟩ | ⟨m, h1, -⟩)
  · have hm : m = 32 := by omega
    subst hm
    omega
  · omega
theorem kev_le {k D R : Nat} (h : kev k D R) : D ≤ 16384 ∧ R ≤ D := by
  rcases h with ⟨m, -, h2, h3⟩ | ⟨m, -, h2, -, h3⟩
  · exact ⟨Nat.le_trans (Nat.le_mul_of_pos_right D (Nat.two_pow_pos m)) h2, h3⟩
  · exact ⟨Nat.le_trans (Nat.le_mul_of_pos_right D (Nat.two_pow_pos m)) h2, h3⟩
theorem gw_none {κ : Nat → Int} {f n p : Nat} {β a b c d : Int} (hp : p < n) (ht : tk β ((p : Int) - (f : Int)) (κ p - κ f) a b c d = none) : gw κ f β (n - p) p a b c d = (p - 1, a, b) := by
  rw [show n - p = (n - (p + 1)) + 1 by omega, gw, ht]
theorem gw_some {κ : Nat → Int} {f n p : Nat} {β a b c d a2 b2 c2 d2 : Int} (hp : p < n) (ht : tk β ((p : Int) - (f : Int)) (κ p - κ f) a b c d = some (a2, b2, c2, d2)) : gw κ f β (n - p) p a b c d = gw κ f β (n - (p + 1)) (p + 1) a2 b2 c2 d2 := by
  rw [show n - p = (n - (p + 1)) + 1 by omega, gw, ht]
theorem gw_end {κ : Nat → Int} {f n p : Nat} {β a b c d : Int} (hp : n ≤ p) : gw κ f β (n - p) p a b c d = (p - 1, a, b) := by
  rw [show n - p = 0 by omega, gw]
theorem sg_enough {κ : Nat → Int} {n : Nat} {β : Int} (h : kasc κ n) (hn : n ≤ 160) (hβ : 0 ≤ β ∧ β ≤ 8) {f : Nat} : ∀ (j : Nat), sg κ n β (n - f + j) f = sg κ n β (n - f) f
  | 0 => rfl
  | j + 1 => by rw [← Nat.add_assoc, sg_more h hn hβ (n - f + j) f (by omega), sg_enough h hn hβ j]
/-- the segments' rows as a list, and what they are of the main part -/
abbrev kS5 : Type := Int32 × Int32 × Int32 × Int32 × Int32
def SG (m : Nat) (u1 u2 u3 u4 u5 : Nat → Int32) : List kS5 := (List.range m).map fun i => (u1 i, u2 i, u3 i, u4 i, u5 i)
def sgc (κ : Nat → Int) (q : Nat × Nat × Nat × Nat) : kS5 := (nI q.1, nI q.2.1, kI (κ q.1), nI q.2.2.1, nI q.2.2.2)
theorem SG_len (m : Nat) (u1 u2 u3 u4 u5 : Nat → Int32) : (SG m u1 u2 u3 u4 u5).length = m := by simp [SG]
theorem SG_push (m : Nat) (u1 u2 u3 u4 u5 : Nat → Int32) (x1 x2 x3 x4 x5 : Int32) : SG (m + 1) (upd u1 m x1) (upd u2 m x2) (upd u3 m x3) (upd u4 m x4) (upd u5 m x5) = SG m u1 u2 u3 u4 u5 ++ [(x1, x2, x3, x4, x5)] := by
  rw [SG, List.range_succ, List.map_append, SG]
  congr 1
  · refine List.map_congr_left (fun j hj => ?_)
    have : ¬ j = m := by have := List.mem_range.mp hj; omega
    simp [upd, this]
  · simp [upd]
theorem SG_step {κ : Nat → Int} {n fi m : Nat} {β : Int} {u1 u2 u3 u4 u5 : Nat → Int32} {G : List kS5} (h : kasc κ n) (hn : n ≤ 160) (hβ : 0 ≤ β ∧ β ≤ 8) (hf : fi < n) (hg : SG m u1 u2 u3 u4 u5 ++ (sg κ n β (n - fi) fi).map (sgc κ) = G) :
    SG (m + 1) (upd u1 m (nI fi)) (upd u2 m (nI (gw0 κ n fi β).1)) (upd u3 m (kI (κ fi))) (upd u4 m (nI ((gw0 κ n fi β).2.1.toNat / Nat.gcd (gw0 κ n fi β).2.2.toNat (gw0 κ n fi β).2.1.toNat))) (upd u5 m (nI ((gw0 κ n fi β).2.2.toNat / Nat.gcd (gw0 κ n fi β).2.2.toNat (gw0 κ n fi β).2.1.toNat))) ++ (sg κ n β (n - ((gw0 κ n fi β).1 + 1)) ((gw0 κ n fi β).1 + 1)).map (sgc κ) = G := by
  have hb := gw0_bd h hn hβ hf
  have e := sg_enough h hn hβ (f := (gw0 κ n fi β).1 + 1) ((gw0 κ n fi β).1 - fi)
  rw [show n - ((gw0 κ n fi β).1 + 1) + ((gw0 κ n fi β).1 - fi) = n - fi - 1 by omega] at e
  rw [← hg, SG_push, show n - fi = (n - fi - 1) + 1 by omega, sg_s, if_pos hf, e]
  simp [sgc]
/-- the last segment whose first key isn't greater, the first one if there is none -/
def kplc (u : Nat → Int32) (x : Int32) : Nat → Nat
  | 0 => 0
  | i + 1 => if i = 0 then 0 else if u i ≤ x then i else kplc u x i
theorem kplc_lt (u : Nat → Int32) (x : Int32) : ∀ m, 0 < m → kplc u x m < m
  | 0, h => absurd h (Nat.lt_irrefl 0)
  | i + 1, _ => by
    rw [kplc]
    by_cases h : i = 0
    · rw [if_pos h]; omega
    · rw [if_neg h]
      split
      · omega
      · have := kplc_lt u x i (by omega)
        omega
theorem kplc_exit {u : Nat → Int32} {x : Int32} {i mm : Nat} (h : 1 ≤ i ∧ (i ≤ mm ∨ i = 1)) (h2 : mm ≤ i) : kplc u x i = kplc u x mm := by
  rcases Nat.eq_zero_or_pos mm with z | z
  · rw [z, show i = 1 by omega]; rfl
  · rw [show i = mm by omega]
