/-! ===== bits (rows 196 to 232 of laws/BITS.to-paste), counts of bits, division, windows and probes ===== -/
theorem wb_tb (n : Nat) : (lN n).toBitVec = BitVec.ofNat 64 n := rfl
theorem wb_inj {a b : Int64} (h : a.toBitVec = b.toBitVec) : a = b := Int64.toBitVec_inj.mp h
theorem wb_tn {n : Nat} (h : n < 2 ^ 64) : (lN n).toBitVec.toNat = n := by rw [wb_tb, BitVec.toNat_ofNat, Nat.mod_eq_of_lt h]
theorem wb_of (x : Int64) : ∃ n, n < 2 ^ 64 ∧ x = lN n := ⟨x.toBitVec.toNat, x.toBitVec.isLt, wb_inj (by rw [wb_tb]; simp)⟩
theorem wb_of32 (x : Int32) : ∃ n, n < 2 ^ 32 ∧ x = nI n := ⟨x.toBitVec.toNat, x.toBitVec.isLt, Int32.toBitVec_inj.mp (by show _ = BitVec.ofNat 32 _; simp)⟩
theorem wb_c : ∀ k, k < 64 → ((nI k).toInt64 &&& 63) = lN k := by decide +kernel
theorem wb_cu : ∀ k, k < 64 → ((nI k).toInt64.toUInt64 &&& Int64.toUInt64 63) = UInt64.ofNat k := by decide +kernel
theorem wb_sm : ∀ k, k < 64 → (BitVec.ofNat 64 k).smod 64 = BitVec.ofNat 64 k := by decide +kernel
theorem wb_pw {a b : Nat} (h : a ≤ b) : 2 ^ b = 2 ^ a * 2 ^ (b - a) := by rw [← Nat.pow_add]; congr 1; omega
theorem wb_lt2 {a b : Nat} (h : a < b) : 2 ^ a < 2 ^ b := Nat.pow_lt_pow_right (by decide) h
theorem wb_mod (n : Nat) : lN n = lN (n % 2 ^ 64) := wb_inj (by rw [wb_tb, wb_tb]; apply BitVec.eq_of_toNat_eq; rw [BitVec.toNat_ofNat, BitVec.toNat_ofNat, Nat.mod_mod])
theorem wb_shr {n k : Nat} (hn : n < 2 ^ 64) (hk : k < 64) : ((lN n).toUInt64 >>> ((nI k).toInt64.toUInt64 &&& Int64.toUInt64 63)).toInt64 = lN (n / 2 ^ k) := by
  rw [wb_cu k hk]
  apply wb_inj
  apply BitVec.eq_of_toNat_eq
  show ((lN n).toUInt64 >>> UInt64.ofNat k).toNat = (BitVec.ofNat 64 _).toNat
  have h1 : (UInt64.ofNat k).toNat = k := by
    show (BitVec.ofNat 64 k).toNat = k
    rw [BitVec.toNat_ofNat, Nat.mod_eq_of_lt (by omega)]
  have h2 : (lN n).toUInt64.toNat = n := wb_tn hn
  rw [UInt64.toNat_shiftRight, h1, h2, Nat.mod_eq_of_lt hk, Nat.shiftRight_eq_div_pow, BitVec.toNat_ofNat, Nat.mod_eq_of_lt (Nat.lt_of_le_of_lt (Nat.div_le_self _ _) hn)]
theorem wb_shl (n : Nat) {k : Nat} (hk : k < 64) : lN n <<< ((nI k).toInt64 &&& 63) = lN (n * 2 ^ k) := by
  rw [wb_c k hk]
  apply wb_inj
  rw [Int64.toBitVec_shiftLeft, wb_tb, wb_tb, wb_tb, wb_sm k hk]
  apply BitVec.eq_of_toNat_eq
  rw [BitVec.shiftLeft_eq', BitVec.toNat_shiftLeft, BitVec.toNat_ofNat, BitVec.toNat_ofNat, BitVec.toNat_ofNat, Nat.mod_eq_of_lt (show k < 2 ^ 64 by omega), Nat.shiftLeft_eq, Nat.mul_mod, Nat.mod_mod, ← Nat.mul_mod]
theorem wb_and {a b : Nat} (ha : a < 2 ^ 64) (hb : b < 2 ^ 64) : lN a &&& lN b = lN (a &&& b) := by
  apply wb_inj
  rw [Int64.toBitVec_and, wb_tb, wb_tb, wb_tb]
  apply BitVec.eq_of_toNat_eq
  rw [BitVec.toNat_and, BitVec.toNat_ofNat, BitVec.toNat_ofNat, BitVec.toNat_ofNat, Nat.mod_eq_of_lt ha, Nat.mod_eq_of_lt hb, Nat.mod_eq_of_lt (Nat.and_lt_two_pow _ hb)]
theorem wb_or {a b : Nat} (ha : a < 2 ^ 64) (hb : b < 2 ^ 64) : lN a ||| lN b = lN (a ||| b) := by
  apply wb_inj
  rw [Int64.toBitVec_or, wb_tb, wb_tb, wb_tb]
  apply BitVec.eq_of_toNat_eq
  rw [BitVec.toNat_or, BitVec.toNat_ofNat, BitVec.toNat_ofNat, BitVec.toNat_ofNat, Nat.mod_eq_of_lt ha, Nat.mod_eq_of_lt hb, Nat.mod_eq_of_lt (Nat.or_lt_two_pow ha hb)]
theorem fb_orL (a b : Nat) : lN a ||| lN b = lN (a ||| b) := by
  apply wb_inj
  rw [Int64.toBitVec_or, wb_tb, wb_tb, wb_tb]
  apply BitVec.eq_of_getLsbD_eq
  intro i hi
  simp [hi]
def kushr (x : Int64) (y : Int32) : Int64 := (x.toUInt64 >>> (y.toInt64.toUInt64 &&& Int64.toUInt64 63)).toInt64
theorem kushr_lN {n k : Nat} (hn : n < 2 ^ 64) (hk : k < 64) : kushr (lN n) (nI k) = lN (n / 2 ^ k) := wb_shr hn hk
/-- Long.bitCount, as it is written -/
def kbc1 (w : Int64) : Int64 := w - (kushr w 1 &&& 6148914691236517205)
def kbc2 (w : Int64) : Int64 := (w &&& 3689348814741910323) + (kushr w 2 &&& 3689348814741910323)
def kbc3 (w : Int64) : Int64 := (w + kushr w 4) &&& 1085102592571150095
def kbc4 (w : Int64) : Int64 := w + kushr w 8
def kbc5 (w : Int64) : Int64 := w + kushr w 16
def kbc6 (w : Int64) : Int64 := w + kushr w 32
def kbc (w : Int64) : Int32 := (kbc6 (kbc5 (kbc4 (kbc3 (kbc2 (kbc1 w)))))).toInt32 &&& 127
/-- the number of ones -/
def kpop : Nat → Nat → Nat
  | 0, _ => 0
  | k + 1, w => w % 2 + kpop k (w / 2)
theorem and_app {u a : Nat} (v b : Nat) (hu : u < 256) (ha : a < 256) : (u + 256 * v) &&& (a + 256 * b) = (u &&& a) + 256 * (v &&& b) := by
  have hx : (u &&& a) < 2 ^ 8 := Nat.lt_of_le_of_lt Nat.and_le_left hu
  apply Nat.eq_of_testBit_eq
  intro i
  rw [Nat.testBit_and, Nat.add_comm u, Nat.add_comm a, Nat.add_comm (u &&& a), show 256 = 2 ^ 8 from rfl, Nat.testBit_two_pow_mul_add _ hu, Nat.testBit_two_pow_mul_add _ ha, Nat.testBit_two_pow_mul_add _ hx]
  by_cases h : i < 8
  · simp only [h, if_true, ↓reduceIte, Nat.testBit_and]
  · simp only [h, if_false, ↓reduceIte, Nat.testBit_and]
def nb1 (w M : Nat) : Nat := w - ((w / 2) &&& M)
def nb2 (w M : Nat) : Nat := (w &&& M) + ((w / 4) &&& M)
def nb3 (w M : Nat) : Nat := (w + w / 16) &&& M
def nb4 (w : Nat) : Nat := w + w / 256
def nb5 (w : Nat) : Nat := w + w / 65536
def nb6 (w : Nat) : Nat := w + w / 4294967296
/-- what one byte, and what the ten bits above it come to -/
def nbl (u : Nat) : Nat := nb3 (nb2 (nb1 u 85) 51) 15
def nbh (v : Nat) : Nat := nb3 (nb2 (nb1 v 24019198012642645) 14411518807585587) 4238682002231055
theorem nb_l1 : ∀ u, u < 256 → ∀ k, k < 2 → ((u / 2 + 128 * k) &&& 85) = ((u / 2) &&& 85) ∧ ((u / 2) &&& 85) ≤ u := by decide +kernel
theorem nb_l2 : ∀ u, u < 256 → ∀ k, k < 4 → ((nb1 u 85 / 4 + 64 * k) &&& 51) = ((nb1 u 85 / 4) &&& 51) ∧ nb1 u 85 < 256 ∧ nb2 (nb1 u 85) 51 ≤ 68 := by decide +kernel
theorem nb_l3 : ∀ u, u < 69 → ∀ k, k < 5 → ((u + (u / 16 + 16 * k)) &&& 15) = ((u + u / 16) &&& 15) ∧ u + (u / 16 + 16 * k) < 256 := by decide +kernel
theorem nb_h : ∀ v, v < 1024 → ((v / 2) &&& 24019198012642645) ≤ v ∧ nb1 v 24019198012642645 < 1024 ∧ nb2 (nb1 v 24019198012642645) 14411518807585587 % 16 < 5 ∧ nb2 (nb1 v 24019198012642645) 14411518807585587 < 2048 ∧ nbh v < 2048 ∧ (nb6 (nb5 (nb4 (256 * nbh v)))) % 128 = kpop 10 v ∧ kpop 10 v ≤ 10 ∧ nbh v % 256 + nbh v / 256 = kpop 10 v ∧ nbh v / 256 ≤ 2 := by decide +kernel
theorem nb_l : ∀ u, u < 256 → nbl u = kpop 8 u ∧ kpop 8 u ≤ 8 := by decide +kernel
theorem kpop_app : ∀ (k j u v : Nat), u < 2 ^ k → kpop (k + j) (u + 2 ^ k * v) = kpop k u + kpop j v
  | 0, j, u, v, h => by
    have : u = 0 := by simpa using h
    subst this
    simp [kpop]
  | k + 1, j, u, v, h => by
    rw [show k + 1 + j = (k + j) + 1 by omega, kpop, kpop]
    have e : 2 ^ (k + 1) * v = 2 * (2 ^ k * v) := by rw [Nat.pow_succ, Nat.mul_comm (2 ^ k) 2, Nat.mul_assoc]
    rw [e, show (u + 2 * (2 ^ k * v)) % 2 = u % 2 by omega, show (u + 2 * (2 ^ k * v)) / 2 = u / 2 + 2 ^ k * v by omega, kpop_app k j (u / 2) v (by rw [Nat.pow_succ] at h; omega)]
    omega
theorem nb_all {u v : Nat} (hu : u < 256) (hv : v < 1024) : nb3 (nb2 (nb1 (u + 256 * v) 6148914691236517205) 3689348814741910323) 1085102592571150095 = nbl u + 256 * nbh v := by
  have a1 := nb_l1 u hu (v % 2) (Nat.mod_lt _ (by decide))
  have h := nb_h v hv
  have e1 : nb1 (u + 256 * v) 6148914691236517205 = nb1 u 85 + 256 * nb1 v 24019198012642645 := by
    unfold nb1
    rw [show (u + 256 * v) / 2 = (u / 2 + 128 * (v % 2)) + 256 * (v / 2) by omega, show 6148914691236517205 = 85 + 256 * 24019198012642645 from rfl, and_app _ _ (by omega) (by decide), a1.1]
    omega
  rw [e1]
  have a2 := nb_l2 u hu (nb1 v 24019198012642645 % 4) (Nat.mod_lt _ (by decide))
  have e2 : nb2 (nb1 u 85 + 256 * nb1 v 24019198012642645) 3689348814741910323 = nb2 (nb1 u 85) 51 + 256 * nb2 (nb1 v 24019198012642645) 14411518807585587 := by
    generalize nb1 u 85 = x at a2
    generalize nb1 v 24019198012642645 = y at a2
    unfold nb2
    rw [show (x + 256 * y) / 4 = (x / 4 + 64 * (y % 4)) + 256 * (y / 4) by omega, show 3689348814741910323 = 51 + 256 * 14411518807585587 from rfl, and_app _ _ (by omega) (by decide), and_app _ _ (by omega) (by decide), a2.1]
    omega
  rw [e2]
  have a3 := nb_l3 (nb2 (nb1 u 85) 51) (by omega) (nb2 (nb1 v 24019198012642645) 14411518807585587 % 16) (by omega)
  unfold nbl nbh
  generalize nb2 (nb1 u 85) 51 = x at a3
  generalize nb2 (nb1 v 24019198012642645) 14411518807585587 = y at a3
  unfold nb3
  rw [show x + 256 * y + (x + 256 * y) / 16 = (x + (x / 16 + 16 * (y % 16))) + 256 * (y + y / 16) by omega, show 1085102592571150095 = 15 + 256 * 4238682002231055 from rfl, and_app _ _ a3.2 (by decide), a3.1]
theorem nb_end {w : Nat} (hw : w < 262144) : nb6 (nb5 (nb4 (nb3 (nb2 (nb1 w 6148914691236517205) 3689348814741910323) 1085102592571150095))) % 128 = kpop 18 w ∧ nb6 (nb5 (nb4 (nb3 (nb2 (nb1 w 6148914691236517205) 3689348814741910323) 1085102592571150095))) < 2000000 := by
  obtain ⟨u, v, rfl, hu, hv⟩ : ∃ u v, w = u + 256 * v ∧ u < 256 ∧ v < 1024 := ⟨w % 256, w / 256, by omega, by omega, by omega⟩
  rw [nb_all hu hv]
  have h1 := nb_l u hu
  have h2 := nb_h v hv
  have h3 := kpop_app 8 10 u v hu
  rw [show (2 : Nat) ^ 8 = 256 from rfl] at h3
  rw [h3, ← h1.1]
  obtain ⟨-, -, -, -, -, -, c1, c2, c3⟩ := h2
  rw [← c2]
  have c4 := h1.2
  rw [← h1.1] at c4
  rw [← c2] at c1
  generalize nbl u = y at c4 ⊢
  obtain ⟨x0, x1, hx, hx0⟩ : ∃ x0 x1, nbh v = x0 + 256 * x1 ∧ x0 < 256 := ⟨nbh v % 256, nbh v / 256, by omega, by omega⟩
  rw [hx, show (x0 + 256 * x1) % 256 = x0 by omega, show (x0 + 256 * x1) / 256 = x1 by omega] at c1
  rw [hx, show (x0 + 256 * x1) / 256 = x1 by omega] at c3
  rw [hx, show (x0 + 256 * x1) % 256 = x0 by omega, show (x0 + 256 * x1) / 256 = x1 by omega]
  have d4 : nb4 (y + 256 * (x0 + 256 * x1)) = y + 257 * x0 + 65792 * x1 := by unfold nb4; omega
  have d5 : nb5 (y + 257 * x0 + 65792 * x1) = y + 257 * x0 + 65793 * x1 := by unfold nb5; omega
  have d6 : nb6 (y + 257 * x0 + 65793 * x1) = y + 257 * x0 + 65793 * x1 := by unfold nb6; omega
  rw [d4, d5, d6]
  omega
theorem kbc_lN {w : Nat} (hw : w < 262144) : kbc (lN w) = nI (kpop 18 w) := by
  have hx := nb_end hw
  have b1 : ∀ x y : Nat, x &&& y ≤ x := fun x y => Nat.and_le_left
  have hA : ∀ x M : Nat, x < 2 ^ 63 → nb1 x M ≤ x := fun x M _ => Nat.sub_le _ _
  have g1 : kbc1 (lN w) = lN (nb1 w 6148914691236517205) := by
    unfold kbc1 nb1
    rw [show (1 : Int32) = nI 1 from rfl, kushr_lN (by omega) (by decide), show (6148914691236517205 : Int64) = lN 6148914691236517205 from rfl, wb_and (by omega) (by decide), lN_sub (Nat.le_trans Nat.and_le_left (Nat.div_le_self _ _))]
  have l1 : nb1 w 6148914691236517205 ≤ w := Nat.sub_le _ _
  have g2 : kbc2 (lN (nb1 w 6148914691236517205)) = lN (nb2 (nb1 w 6148914691236517205) 3689348814741910323) := by
    unfold kbc2 nb2
    rw [show (2 : Int32) = nI 2 from rfl, kushr_lN (by omega) (by decide), show (3689348814741910323 : Int64) = lN 3689348814741910323 from rfl, wb_and (by omega) (by decide), wb_and (by omega) (by decide), lN_add]
  have l2 : nb2 (nb1 w 6148914691236517205) 3689348814741910323 ≤ 2 * w := by
    unfold nb2
    have c1 := b1 (nb1 w 6148914691236517205) 3689348814741910323
    have c2 := b1 (nb1 w 6148914691236517205 / 4) 3689348814741910323
    omega
  have g3 : kbc3 (lN (nb2 (nb1 w 6148914691236517205) 3689348814741910323)) = lN (nb3 (nb2 (nb1 w 6148914691236517205) 3689348814741910323) 1085102592571150095) := by
    unfold kbc3 nb3
    rw [show (4 : Int32) = nI 4 from rfl, kushr_lN (by omega) (by decide), lN_add, show (1085102592571150095 : Int64) = lN 1085102592571150095 from rfl, wb_and (by omega) (by decide)]
  have l3 : nb3 (nb2 (nb1 w 6148914691236517205) 3689348814741910323) 1085102592571150095 ≤ 4 * w := by
    unfold nb3
    have c1 := b1 (nb2 (nb1 w 6148914691236517205) 3689348814741910323 + nb2 (nb1 w 6148914691236517205) 3689348814741910323 / 16) 1085102592571150095
    omega
  rw [kbc, g1, g2, g3]
  generalize nb3 (nb2 (nb1 w 6148914691236517205) 3689348814741910323) 1085102592571150095 = x at hx l3
  have g4 : kbc4 (lN x) = lN (nb4 x) := by
    unfold kbc4 nb4
    rw [show (8 : Int32) = nI 8 from rfl, kushr_lN (by omega) (by decide), lN_add]
  have l4 : nb4 x ≤ 2 * x := by unfold nb4; omega
  have g5 : kbc5 (lN (nb4 x)) = lN (nb5 (nb4 x)) := by
    unfold kbc5 nb5
    rw [show (16 : Int32) = nI 16 from rfl, kushr_lN (by omega) (by decide), lN_add]
  have l5 : nb5 (nb4 x) ≤ 2 * nb4 x := by unfold nb5; omega
  have g6 : kbc6 (lN (nb5 (nb4 x))) = lN (nb6 (nb5 (nb4 x))) := by
    unfold kbc6 nb6
    rw [show (32 : Int32) = nI 32 from rfl, kushr_lN (by omega) (by decide), lN_add]
  rw [g4, g5, g6, lN_i, pk_andN (by omega) 7 (by decide), show 2 ^ 7 = 128 from rfl, hx.1]
theorem kpop_or : ∀ (k i w : Nat), i < k → kpop k (w ||| 2 ^ i) = kpop k w + (if w.testBit i then 0 else 1)
  | 0, i, w, h => absurd h (Nat.not_lt_zero _)
  | k + 1, 0, w, _ => by
    have e1 : (w ||| 2 ^ 0) % 2 = 1 := by
      have : (w ||| 1).testBit 0 = true := by simp
      simpa [Nat.testBit_zero] using this
    have e2 : (w ||| 2 ^ 0) / 2 = w / 2 := by
      apply Nat.eq_of_testBit_eq
      intro j
      rw [Nat.testBit_div_two, Nat.testBit_div_two, Nat.testBit_or, Nat.testBit_two_pow]
      simp
    rw [kpop, kpop, e1, e2, Nat.testBit_zero]
    by_cases h : w % 2 = 1
    · simp [h]
    · have : w % 2 = 0 := by omega
      simp [this]
      omega
  | k + 1, i + 1, w, h => by
    have e1 : (w ||| 2 ^ (i + 1)) % 2 = w % 2 := by
      have h1 : (w ||| 2 ^ (i + 1)).testBit 0 = w.testBit 0 := by
        rw [Nat.testBit_or, Nat.testBit_two_pow]
        simp
      rw [Nat.testBit_zero, Nat.testBit_zero] at h1
      have h2 : (w ||| 2 ^ (i + 1)) % 2 < 2 := Nat.mod_lt _ (by decide)
      have h3 : w % 2 < 2 := Nat.mod_lt _ (by decide)
      have h4 : ((w ||| 2 ^ (i + 1)) % 2 = 1) ↔ (w % 2 = 1) := by simpa using h1
      omega
    have e2 : (w ||| 2 ^ (i + 1)) / 2 = w / 2 ||| 2 ^ i := by
      apply Nat.eq_of_testBit_eq
      intro j
      rw [Nat.testBit_div_two, Nat.testBit_or, Nat.testBit_or, Nat.testBit_div_two, Nat.testBit_two_pow, Nat.testBit_two_pow]
      simp
    rw [kpop, kpop, e1, e2, kpop_or k i (w / 2) (by omega), Nat.testBit_div_two]
    omega
/-- the word of the probed pages, and their number; the last probe first -/
def wrdR (s lo : Nat) : List Nat → Nat
  | [] => 0
  | m :: R => wrdR s lo R ||| 2 ^ (m / s - lo / s)
def dstR (s : Nat) : List Nat → Nat
  | [] => 0
  | m :: R => dstR s R + (if m / s ∈ R.map (fun x => x / s) then 0 else 1)
def wrd (s lo : Nat) (P : List Nat) : Nat := wrdR s lo P.reverse
def dst (s : Nat) (P : List Nat) : Nat := dstR s P.reverse
theorem wrd_snoc (s lo : Nat) (P : List Nat) (m : Nat) : wrd s lo (P ++ [m]) = wrd s lo P ||| 2 ^ (m / s - lo / s) := by simp [wrd, wrdR]
theorem dst_snoc (s : Nat) (P : List Nat) (m : Nat) : dst s (P ++ [m]) = dst s P + (if m / s ∈ P.map (fun x => x / s) then 0 else 1) := by simp [dst, dstR]
theorem wrdR_bit {s lo : Nat} : ∀ (R : List Nat) (i : Nat), (wrdR s lo R).testBit i = decide (i ∈ R.map (fun m => m / s - lo / s))
  | [], i => by simp [wrdR]
  | m :: R, i => by
    rw [wrdR, Nat.testBit_or, wrdR_bit R i, Nat.testBit_two_pow]
    simp only [List.map_cons, List.mem_cons]
    by_cases h : m / s - lo / s = i
    · simp [h]
    · have : ¬ i = m / s - lo / s := fun e => h e.symm
      simp [h, this]
theorem wrdR_pop {s lo : Nat} : ∀ (R : List Nat), (∀ m ∈ R, lo ≤ m ∧ m / s - lo / s < 18) → kpop 18 (wrdR s lo R) = dstR s R
  | [], _ => by rw [wrdR, dstR]; decide
  | m :: R, h => by
    have hm := h m List.mem_cons_self
    rw [wrdR, dstR, kpop_or 18 _ _ hm.2, wrdR_pop R (fun x hx => h x (List.mem_cons_of_mem _ hx)), wrdR_bit]
    have e : (m / s - lo / s ∈ R.map (fun x => x / s - lo / s)) ↔ (m / s ∈ R.map (fun x => x / s)) := by
      simp only [List.mem_map]
      constructor
      · rintro ⟨x, hx, hxe⟩
        refine ⟨x, hx, ?_⟩
        have h1 := Nat.div_le_div_right (c := s) (h x (List.mem_cons_of_mem _ hx)).1
        have h2 := Nat.div_le_div_right (c := s) hm.1
        omega
      · rintro ⟨x, hx, hxe⟩
        exact ⟨x, hx, by rw [hxe]⟩
    by_cases c : m / s ∈ R.map (fun x => x / s)
    · rw [if_pos c, if_pos (by simpa using e.mpr c)]
    · rw [if_neg c, if_neg (by intro z; exact c (e.mp (by simpa using z)))]
theorem wrdR_lt {s lo : Nat} : ∀ (R : List Nat), (∀ m ∈ R, lo ≤ m ∧ m / s - lo / s < 18) → wrdR s lo R < 2 ^ 18
  | [], _ => by simp [wrdR]
  | m :: R, h => Nat.or_lt_two_pow (wrdR_lt R (fun x hx => h x (List.mem_cons_of_mem _ hx))) (Nat.pow_lt_pow_right (by decide) (h m List.mem_cons_self).2)
theorem wrd_dst {s lo : Nat} {P : List Nat} (h : ∀ m ∈ P, lo ≤ m ∧ m / s - lo / s < 18) : kbc (lN (wrd s lo P)) = nI (dst s P) := by
  have h' : ∀ m ∈ P.reverse, lo ≤ m ∧ m / s - lo / s < 18 := fun m hm => h m (by simpa using hm)
  show kbc (lN (wrdR s lo P.reverse)) = nI (dstR s P.reverse)
  rw [kbc_lN (wrdR_lt _ h'), wrdR_pop _ h']
/-- division of int fields, and to the floor -/
theorem kI_div {u b : Int} (h1 : -2147483648 < u) (h2 : u < 2147483648) (h3 : 0 < b) (h4 : b < 2147483648) : kI u / kI b = kI (u.tdiv b) := by
  have e1 := kI_toInt (x := u) (by omega) h2
  have e2 := kI_toInt (x := b) (by omega) h4
  have e3 : (kI u / kI b).toInt = u.tdiv b := by
    rw [Int32.toInt_div_of_ne_left _ _ (by
      intro h
      have := congrArg Int32.toInt h
      rw [e1, Int32.toInt_minValue] at this
      omega), e1, e2]
  rw [kI_of (kI u / kI b), e3]
theorem kI_xor {u b : Int} (h1 : -2147483648 ≤ u) (h2 : u < 2147483648) (h3 : 0 < b) (h4 : b < 2147483648) : 0 ≤ kI u ^^^ kI b ↔ 0 ≤ u := by
  have e1 := kI_toInt (x := u) h1 h2
  have e2 := kI_toInt (x := b) (by omega) h4
  rw [Int32.le_iff_toInt_le, show (0 : Int32).toInt = 0 from by decide]
  have m0 : ∀ z : Int32, 0 ≤ z.toInt ↔ z.toBitVec.msb = false := by
    intro z
    have := BitVec.msb_eq_toInt (x := z.toBitVec)
    rw [this]
    show 0 ≤ z.toBitVec.toInt ↔ _
    simp
  rw [m0, Int32.toBitVec_xor, BitVec.msb_xor]
  have f1 := m0 (kI u)
  have f2 := m0 (kI b)
  rw [e1] at f1
  rw [e2] at f2
  rw [f2.mp (by omega), Bool.xor_false]
  exact f1.symm
theorem kfloor_pos {u b : Int} (h : 0 ≤ u) : u.tdiv b = u / b := Int.tdiv_eq_ediv_of_nonneg h
theorem kfloor_neg {u b : Int} (h : u < 0) (hb : 0 < b) : u / b = if u.tdiv b * b = u then u.tdiv b else u.tdiv b - 1 := by
  have h1 := Int.mul_tdiv_add_tmod u b
  have g1 : (-u).tmod b = -(u.tmod b) := Int.neg_tmod u b
  have g2 := Int.tmod_nonneg (a := -u) b (by omega)
  have g3 := Int.tmod_lt_of_pos (-u) hb
  have h2 : u.tmod b ≤ 0 := by omega
  have h3 : -b < u.tmod b := by omega
  have h4 := Int.mul_ediv_add_emod u b
  have h5 := Int.emod_nonneg u (show b ≠ 0 by omega)
  have h6 := Int.emod_lt_of_pos u hb
  have e : u.tdiv b * b = b * u.tdiv b := Int.mul_comm _ _
  rw [e]
  by_cases c : b * u.tdiv b = u
  · rw [if_pos c]
    have : b * (u / b) - b * u.tdiv b = - (u % b) := by omega
    rw [← Int.mul_sub] at this
    have k1 : ¬ (1 ≤ u / b - u.tdiv b) := fun z => by
      have := Int.mul_le_mul_of_nonneg_left z (show 0 ≤ b by omega)
      omega
    have k2 : ¬ (u / b - u.tdiv b ≤ -1) := fun z => by
      have := Int.mul_le_mul_of_nonneg_left z (show 0 ≤ b by omega)
      omega
    omega
  · rw [if_neg c]
    have : b * (u / b) - b * u.tdiv b = u.tmod b - (u % b) := by omega
    rw [← Int.mul_sub] at this
    have k0 : ¬ u.tmod b = 0 := by omega
    have k1 : ¬ (0 ≤ u / b - u.tdiv b) := fun z => by
      have := Int.mul_le_mul_of_nonneg_left z (show 0 ≤ b by omega)
      omega
    have k2 : ¬ (u / b - u.tdiv b ≤ -2) := fun z => by
      have := Int.mul_le_mul_of_nonneg_left z (show 0 ≤ b by omega)
      omega
    omega
theorem kdiv_bd {u b : Int} (h1 : -3000000 ≤ u) (h2 : u ≤ 3000000) (hb : 0 < b) : -3000000 ≤ u / b ∧ u / b ≤ 3000000 := by
  constructor
  · exact Int.le_ediv_of_mul_le hb (by omega)
  · exact Int.ediv_le_of_le_mul hb (by omega)
theorem ktdiv_bd {u b : Int} (h1 : -3000000 ≤ u) (h2 : u ≤ 3000000) (hb : 0 < b) : -3000001 ≤ u.tdiv b ∧ u.tdiv b ≤ 3000001 := by
  have := kdiv_bd h1 h2 hb
  rcases Int.lt_or_le u 0 with h | h
  · have e := kfloor_neg h hb
    split at e <;> omega
  · rw [kfloor_pos h]
    omega
theorem kmulc {x w : Int} (h1 : 0 ≤ x) (h2 : x ≤ 200) (h3 : -10000 ≤ w) (h4 : w ≤ 10000) : -3000000 ≤ x * w ∧ x * w ≤ 3000000 := by
  have a : x * w ≤ x * 10000 := Int.mul_le_mul_of_nonneg_left h4 h1
  have b : x * -10000 ≤ x * w := Int.mul_le_mul_of_nonneg_left h3 h1
  omega
/-- prediction and window -/
def kpr (f j a b : Nat) (κf x : Int) : Nat := (min (max ((f : Int) + ((a : Int) * (x - κf)) / (b : Int)) (f : Int)) (j : Int)).toNat
def klo (f pr : Nat) (β : Int) : Nat := (max ((pr : Int) - β) (f : Int)).toNat
def khi (j pr : Nat) (β : Int) : Nat := (min ((pr : Int) + β + 1) (j : Int)).toNat
theorem kI_max {x y : Int} (h1 : -2147483648 ≤ x) (h2 : x < 2147483648) (h3 : -2147483648 ≤ y) (h4 : y < 2147483648) : (if kI x < kI y then kI y else kI x) = kI (max x y) := by
  by_cases c : x < y
  · rw [if_pos ((kI_lt h1 h2 h3 h4).mpr c), Int.max_eq_right (by omega)]
  · rw [if_neg (fun z => c ((kI_lt h1 h2 h3 h4).mp z)), Int.max_eq_left (by omega)]
theorem kI_min {x y : Int} (h1 : -2147483648 ≤ x) (h2 : x < 2147483648) (h3 : -2147483648 ≤ y) (h4 : y < 2147483648) : (if kI y < kI x then kI y else kI x) = kI (min x y) := by
  by_cases c : y < x
  · rw [if_pos ((kI_lt h3 h4 h1 h2).mpr c), Int.min_eq_right (by omega)]
  · rw [if_neg (fun z => c ((kI_lt h3 h4 h1 h2).mp z)), Int.min_eq_left (by omega)]
theorem kI_tn {x : Int} (h : 0 ≤ x) : kI x = nI x.toNat := by rw [kI_nI, Int.toNat_of_nonneg h]
/-- the probes of a search from lo up to e, e itself not -/
def prb (Q : Nat → Int32) (x : Int32) : Nat → Nat → Nat → List Nat
  | 0, _, _ => []
  | k + 1, lo, t => if lo < t then (lo + t - 1) / 2 :: (if Q ((lo + t - 1) / 2) = x then [] else if Q ((lo + t - 1) / 2) < x then prb Q x k ((lo + t - 1) / 2 + 1) t else prb Q x k lo ((lo + t - 1) / 2)) else []
theorem prb_more (Q : Nat → Int32) (x : Int32) : ∀ (k lo t : Nat), t ≤ lo + k → prb Q x (k + 1) lo t = prb Q x k lo t
  | 0, lo, t, h => by simp only [prb]; rw [if_neg (by omega)]
  | k + 1, lo, t, h => by
    have s1 : ∀ (k lo t : Nat), prb Q x (k + 1) lo t = if lo < t then (lo + t - 1) / 2 :: (if Q ((lo + t - 1) / 2) = x then [] else if Q ((lo + t - 1) / 2) < x then prb Q x k ((lo + t - 1) / 2 + 1) t else prb Q x k lo ((lo + t - 1) / 2)) else [] := fun _ _ _ => rfl
    rw [s1 (k + 1) lo t, s1 k lo t]
    by_cases c : lo < t
    · rw [if_pos c, if_pos c, prb_more Q x k ((lo + t - 1) / 2 + 1) t (by omega), prb_more Q x k lo ((lo + t - 1) / 2) (by omega)]
    · rw [if_neg c, if_neg c]
theorem prb_enough (Q : Nat → Int32) (x : Int32) {lo t : Nat} : ∀ j, prb Q x (t - lo + j) lo t = prb Q x (t - lo) lo t
  | 0 => rfl
  | j + 1 => by rw [← Nat.add_assoc, prb_more Q x (t - lo + j) lo t (by omega), prb_enough Q x j]
theorem prb_s (Q : Nat → Int32) (x : Int32) {lo t : Nat} (h : lo < t) : prb Q x (t - lo) lo t = (lo + t - 1) / 2 :: (if Q ((lo + t - 1) / 2) = x then [] else if Q ((lo + t - 1) / 2) < x then prb Q x (t - ((lo + t - 1) / 2 + 1)) ((lo + t - 1) / 2 + 1) t else prb Q x ((lo + t - 1) / 2 - lo) lo ((lo + t - 1) / 2)) := by
  have e1 := prb_enough Q x (lo := (lo + t - 1) / 2 + 1) (t := t) ((lo + t - 1) / 2 - lo)
  have e2 := prb_enough Q x (lo := lo) (t := (lo + t - 1) / 2) (t - 1 - (lo + t - 1) / 2)
  rw [show t - ((lo + t - 1) / 2 + 1) + ((lo + t - 1) / 2 - lo) = t - lo - 1 by omega] at e1
  rw [show (lo + t - 1) / 2 - lo + (t - 1 - (lo + t - 1) / 2) = t - lo - 1 by omega] at e2
  rw [show t - lo = (t - lo - 1) + 1 by omega, prb, if_pos h, e1, e2]
theorem prb_0 (Q : Nat → Int32) (x : Int32) {lo t : Nat} (h : t ≤ lo) : prb Q x (t - lo) lo t = [] := by
  rw [show t - lo = 0 by omega, prb]
theorem prb_in (Q : Nat → Int32) (x : Int32) : ∀ (k lo t m : Nat), m ∈ prb Q x k lo t → lo ≤ m ∧ m < t
  | 0, _, _, _, h => by simp [prb] at h
  | k + 1, lo, t, m, h => by
    rw [prb] at h
    by_cases c : lo < t
    · rw [if_pos c] at h
      rcases List.mem_cons.mp h with rfl | h
      · omega
      · split at h
        · cases h
        · split at h
          · have := prb_in Q x k _ _ m h
            omega
          · have := prb_in Q x k _ _ m h
            omega
    · rw [if_neg c] at h
      cases h
theorem pg_off {s lo m : Nat} (hs : 0 < s) (h : lo ≤ m) (h2 : m < lo + 18) : m / s - lo / s < 18 := by
  have h1 : m ≤ lo + 17 := by omega
  have h3 : m / s ≤ (lo + 17 * s) / s := Nat.div_le_div_right (Nat.le_trans h1 (Nat.add_le_add_left (Nat.le_mul_of_pos_right 17 hs) lo))
  rw [Nat.add_mul_div_right _ _ hs] at h3
  omega
def kH (t : Nat) : Int32 := kI ((t : Int) - 1)
