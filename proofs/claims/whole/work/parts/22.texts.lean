/-! ===== LearnedIndex: the fewest runs, the least bound, texts, snapshots ===== -/
def fstep (lst : Nat → Nat) (F : Nat → Nat) (f : Nat) : Nat → Nat := fun e => if f < e ∧ e ≤ lst f + 1 then min (F f + 1) (F e) else F e
def fseq (lst : Nat → Nat) (F : Nat → Nat) : Nat → Nat → Nat
  | 0 => F
  | k + 1 => fstep lst (fseq lst F k) k
theorem fseq_le (lst : Nat → Nat) : ∀ (k e : Nat), fseq lst id k e ≤ e
  | 0, e => Nat.le_refl e
  | k + 1, e => by
    have h1 := fseq_le lst k e
    simp only [fseq, fstep]
    split
    · exact Nat.le_trans (Nat.min_le_right _ _) h1
    · exact h1
def fst0 : Nat → Nat := fun e => if e = 0 then 0 else 152
theorem fseq_rel (lst : Nat → Nat) (hl : ∀ f, f ≤ lst f) : ∀ k, (∀ e, e ≤ 152 → fseq lst id k e = min e (fseq lst fst0 k e)) ∧ (∀ e, e ≤ k → e ≤ 152 → fseq lst fst0 k e ≤ e)
  | 0 => by
    refine ⟨fun e he => ?_, fun e he _ => ?_⟩
    · simp only [fseq, fst0, id]
      split <;> omega
    · simp only [fseq, fst0]
      split <;> omega
  | k + 1 => by
    obtain ⟨h1, h2⟩ := fseq_rel lst hl k
    refine ⟨fun e he => ?_, fun e he he2 => ?_⟩
    · simp only [fseq, fstep]
      have a1 := h1 e he
      split
      · rename_i hc
        have a2 := h1 k (by omega)
        have a3 := h2 k (Nat.le_refl k) (by omega)
        omega
      · exact a1
    · simp only [fseq, fstep]
      split
      · rename_i hc
        have a3 := h2 k (Nat.le_refl k) (by omega)
        omega
      · rename_i hc
        have := hl k
        exact h2 e (by omega) he2
def fewS (κ : Nat → Int) (n : Nat) (β : Int) : Nat := fseq (fun f => (gw0 κ n f β).1) id n n
def fpart (F : Nat → Nat) (f t : Nat) : Nat → Nat := fun e => if f < e ∧ e < t then min (F f + 1) (F e) else F e
theorem fpart_0 (F : Nat → Nat) (f e : Nat) : fpart F f (f + 1) e = F e := by
  unfold fpart
  rw [if_neg (by omega)]
theorem fpart_end (lst F : Nat → Nat) (f e : Nat) : fpart F f (lst f + 2) e = fstep lst F f e := by
  unfold fpart fstep
  by_cases c : f < e ∧ e ≤ lst f + 1
  · rw [if_pos c, if_pos (by omega)]
  · rw [if_neg c, if_neg (by omega)]
theorem min_I {a b : Nat} (ha : a < 1000) (hb : b < 1000) : (if nI b < nI a then nI b else nI a) = nI (min a b) := by
  by_cases c : b < a
  · rw [if_pos (by rw [nI_ltI (by omega) (by omega)]; exact c), Nat.min_eq_right (by omega)]
  · rw [if_neg (by rw [nI_ltI (by omega) (by omega)]; exact c), Nat.min_eq_left (by omega)]
def fewK (b : Int32) : Int32 := if stV 0 b then 0 else 1
theorem stV_b {b : Int32} (h : stV 0 b = true) : 1 ≤ b.toInt ∧ b.toInt ≤ 8 := by
  rw [stV] at h
  obtain ⟨h1, h2, h3, h4⟩ := of_decide_eq_true h
  have a1 : (kcell 4 kLeast 0).toInt = 1 := by decide
  have a2 : (kcell 4 kGreatest 0).toInt = 8 := by decide
  rw [Int32.le_iff_toInt_le] at h3 h4
  omega
/-- the least bound with at most so many segments, 9 if there is none -/
def lbf (κ : Nat → Int) (n : Nat) (k : Int) : Nat → Nat → Nat
  | 0, _ => 9
  | q + 1, b => if (((sgs κ n (b : Int)).length : Nat) : Int) ≤ k then b else lbf κ n k q (b + 1)
def lbS (M : List kE3) (y : Int32) : Nat := lbf (kap M) M.length y.toInt 8 1
def lbK (M : List kE3) (y : Int32) : Int32 := if y < 0 then 1 else if lbS M y = 9 then 2 else 0
theorem lbf_s {κ : Nat → Int} {n : Nat} {k : Int} {b : Nat} (h : b ≤ 8) : lbf κ n k (9 - b) b = if (((sgs κ n (b : Int)).length : Nat) : Int) ≤ k then b else lbf κ n k (9 - (b + 1)) (b + 1) := by
  rw [show 9 - b = (9 - (b + 1)) + 1 by omega, lbf]
theorem lbf_9 {κ : Nat → Int} {n : Nat} {k : Int} {b : Nat} (h : 9 ≤ b) : lbf κ n k (9 - b) b = 9 := by rw [show 9 - b = 0 by omega, lbf]
def fdK (n : Nat) : Int32 := if 100 ≤ n then 1 else 0
theorem rn_val {T : Nat → Int32} {n : Nat} : ∀ (k i a : Nat) (v : Int32), v = nI a → a * 10 ^ k + 10 ^ k ≤ 10000 → ∃ b, (rn T n k i v).2 = nI b ∧ b < 10000
  | 0, i, a, v, hv, h => ⟨a, hv, by have : a * 10 ^ 0 + 10 ^ 0 = a + 1 := by simp
                                    omega⟩
  | k + 1, i, a, v, hv, h => by
    rw [rn]
    by_cases c : kdg (ch T n i) = 0
    · rw [if_pos c]
      have hp : 0 < 10 ^ (k + 1) := Nat.pow_pos (by decide)
      have h2 : a ≤ a * 10 ^ (k + 1) := Nat.le_mul_of_pos_right a hp
      exact ⟨a, hv, by omega⟩
    · rw [if_neg c]
      obtain ⟨d, hd, hd2⟩ : ∃ d, ch T n i = nI (48 + d) ∧ d ≤ 9 := by
        have c1 : ¬ ch T n i < 48 := fun z => c (by rw [kdg, if_pos z])
        have c2 : ¬ (57 : Int32) < ch T n i := fun z => c (by rw [kdg, if_neg c1, if_pos z])
        rw [Int32.lt_iff_toInt_lt, show (48 : Int32).toInt = 48 from by decide] at c1
        rw [Int32.lt_iff_toInt_lt, show (57 : Int32).toInt = 57 from by decide] at c2
        refine ⟨(ch T n i).toInt.toNat - 48, ?_, by omega⟩
        rw [show 48 + ((ch T n i).toInt.toNat - 48) = (ch T n i).toInt.toNat by omega, ← kI_tn (by omega)]
        exact kI_of _
      refine rn_val k (i + 1) (a * 10 + d) _ ?_ ?_
      · rw [hv, hd, kI_nI, kI_nI, kI_nI, show (10 : Int32) = kI 10 from rfl, show (48 : Int32) = kI 48 from rfl, kI_mul, kI_add, kI_sub]
        congr 1; push_cast; omega
      · have e : (a * 10 + d) * 10 ^ k + 10 ^ k ≤ a * 10 ^ (k + 1) + 10 ^ (k + 1) := by
          rw [Nat.pow_succ, Nat.add_mul, Nat.mul_assoc, Nat.mul_comm 10 (10 ^ k)]
          have := Nat.mul_le_mul_right (10 ^ k) hd2
          omega
        exact Nat.le_trans e h
/-- entries as a text can have them -/
def kEv (L : List kE3) : Prop := ∀ e ∈ L, (0 ≤ e.1.toInt ∧ e.1.toInt < 10000) ∧ (e.2.2 = 0 ∨ e.2.2 = 1)
theorem rE_ev {T : Nat → Int32} {n i j : Nat} {e : kE3} (h : rE T n i = (j, some e)) : (0 ≤ e.1.toInt ∧ e.1.toInt < 10000) ∧ (e.2.2 = 0 ∨ e.2.2 = 1) := by
  obtain ⟨b, hb, hb2⟩ := rn_val (T := T) (n := n) 4 i 0 0 rfl (by decide)
  have hk : 0 ≤ (rn T n 4 i 0).2.toInt ∧ (rn T n 4 i 0).2.toInt < 10000 := by
    rw [hb, nI_toInt (by omega)]; omega
  unfold rE at h
  split at h
  · cases h
  · split at h
    · cases h; exact ⟨hk, Or.inr rfl⟩
    · have h2 := (Prod.mk.inj h).2
      cases hv : (rV T n (rn T n 4 i 0).1).2 with
      | none => rw [hv] at h2; cases h2
      | some v => rw [hv] at h2; cases h2; exact ⟨hk, Or.inl rfl⟩
theorem pl_ev {T : Nat → Int32} {n : Nat} : ∀ (k i : Nat) (L : List kE3), kEv L → kEv (pl T n k i L).2.2
  | 0, _, _, h => h
  | k + 1, i, L, h => by
    rw [pl]
    split
    · split
      · cases he : rE T n (i + 1) with
        | mk j o =>
          cases o with
          | none => exact h
          | some e => exact pl_ev k j (L ++ [e]) (fun d hd => (List.mem_append.mp hd).elim (h d) (fun z => by rw [List.mem_singleton.mp z]; exact rE_ev he))
      · exact h
    · exact h
theorem pT_ev {T : Nat → Int32} {n : Nat} : kEv (pT T n).2.2 := by
  unfold pT
  split
  · intro e he; cases he
  · cases he : rE T n 0 with
    | mk j o =>
      cases o with
      | none => intro e he; cases he
      | some e => exact pl_ev 100 j [e] (fun d hd => by rw [List.mem_singleton.mp hd]; exact rE_ev he)
/-- a text's entries, one after the other -/
def ldF (S : Nat → Int32) (X : List kE3 × List kE3 × (Nat → Int32)) (e : kE3) : List kE3 × List kE3 × (Nat → Int32) := mocS X.1 (aplS X.1 X.2.1 e) S X.2.2
def ldS (M C : List kE3) (S T : Nat → Int32) (L : List kE3) : List kE3 × List kE3 × (Nat → Int32) := L.foldl (ldF S) (M, C, T)
def ldK (M C : List kE3) (T : Nat → Int32) (n : Nat) : Int32 := if (pT T n).1 = true ∧ ovf (gat M C) (pT T n).2.2 = true then 1 else 0
def ldV (T : Nat → Int32) (n : Nat) : Int32 := if (pT T n).1 = true then nI (pT T n).2.2.length else -100 - nI (pT T n).2.1
def ldZ (M C : List kE3) (S T : Nat → Int32) (U : Nat → Int32) (n : Nat) : List kE3 × List kE3 × (Nat → Int32) := if (pT U n).1 = true then ldS M C S T (pT U n).2.2 else (M, C, T)
theorem moc_gat {M C : List kE3} {S T : Nat → Int32} (h1 : kSo M) (h2 : kSo C) : gat (mocS M C S T).1 (mocS M C S T).2.1 = gat M C := by
  unfold mocS
  split
  · exact gat_nilC _ (gat_z h1 h2)
  · rfl
theorem moc_iv {M C : List kE3} {S T : Nat → Int32} (h1 : kIv M) (h2 : kIv C) : kIv (mocS M C S T).1 ∧ kIv (mocS M C S T).2.1 := by
  unfold mocS
  split
  · exact ⟨gat_iv h1 h2, kIv_nil⟩
  · exact ⟨h1, h2⟩
theorem moc_cap {M C : List kE3} {S T : Nat → Int32} (hS : kSt S) : (mocS M C S T).2.1.length ≤ 20 ∧ ((mocS M C S T).2.1.length : Int) ≤ (S 1).toInt := by
  obtain ⟨-, ⟨h1, h2⟩, -⟩ := hS
  unfold mocS
  split
  · simp; omega
  · dsimp only; omega
theorem ldS_s {M C : List kE3} {S T : Nat → Int32} {L : List kE3} {i : Nat} {e : kE3} (h : L[i]? = some e) : ldS M C S T (L.take (i + 1)) = ldF S (ldS M C S T (L.take i)) e := by
  rw [ldS, List.take_add_one, h, Option.toList_some, List.foldl_append]; rfl
/-- what a snapshot keeps -/
def kSV (vn : Nat) (vfk vfv vfr : Nat → Int32) (vnc : Nat) (vgk vgv vgr vfs vft : Nat → Int32) (M C : List kE3) (S T : Nat → Int32) : Prop := (EL vn vfk vfv vfr = M ∧ EL vnc vgk vgv vgr = C) ∧ (∀ j, j < 4 → vfs j = S j) ∧ (∀ j, j < 5 → vft j = T j)
theorem kcpy_lt {f t : Nat → Int32} {k j : Nat} (h : j < k) : kcpy f t k j = f j := by rw [kcpy, if_pos h]

set_option maxRecDepth 20000 in
theorem ggX6_fewest_X6_isSettingValue : GoodIn wsX6_fewest wsX6_isSettingValue := goodIn_ca (goodIn_r _ [13, 14, 15, 16, 17, 12, 18] (by decide +kernel) (by decide +kernel)) (goodIn_sub (fun _ h => List.mem_cons_of_mem _ (List.mem_append_left _ (List.mem_append_right _ h))) (by decide +kernel))
set_option maxRecDepth 20000 in
theorem gX6_fewest_X6_isSettingValue : GoodIn wsX6_fewest (va_wsS RX6 172 yX6_isSettingValue wsX6_isSettingValue) := goodIn_app (goodIn_of _ (by decide +kernel)) ggX6_fewest_X6_isSettingValue
set_option maxRecDepth 20000 in
theorem ggX6_fewest_X6_store : GoodIn wsX6_fewest wsX6_store := goodIn_ca (goodIn_r _ [21] (by decide +kernel) (by decide +kernel)) (goodIn_sub (fun _ h => List.mem_cons_of_mem _ (List.mem_append_left _ (List.mem_append_right _ h))) (by decide +kernel))
set_option maxRecDepth 20000 in
theorem gX6_fewest_X6_store : GoodIn wsX6_fewest (va_wsS RX6 133 yX6_store wsX6_store) := goodIn_app (goodIn_of _ (by decide +kernel)) ggX6_fewest_X6_store
set_option maxRecDepth 20000 in
theorem ggX6_fewest_X2_grow : GoodIn wsX6_fewest wsX2_grow := goodIn_ca (goodIn_ca (goodIn_r _ [26, 27, 28, 29, 30, 31, 32, 33, 34, 35, 36, 37, 17, 12, 18, 38, 39, 40, 25, 41, 42, 43, 44, 45, 46, 47, 48, 67, 68, 69, 70, 71, 63, 64, 65, 66] (by decide +kernel) (by decide +kernel)) (goodIn_sub (fun _ h => List.mem_cons_of_mem _ (List.mem_append_left _ (List.mem_append_right _ h))) (by decide +kernel))) (goodIn_sub (fun _ h => List.mem_cons_of_mem _ (List.mem_append_right _ h)) (by decide +kernel))
set_option maxRecDepth 20000 in
theorem gX6_fewest_X2_grow : GoodIn wsX6_fewest (wsV RX6 237 RX2 yX2_grow wsX2_grow) := goodIn_app (goodIn_of _ (by decide +kernel)) ggX6_fewest_X2_grow
set_option maxRecDepth 20000 in
theorem ggX6_fewest_X6_cell : GoodIn wsX6_fewest wsX6_cell := goodIn_ca (goodIn_r _ [18] (by decide +kernel) (by decide +kernel)) (goodIn_sub (fun _ h => List.mem_cons_of_mem _ (List.mem_append_left _ (List.mem_append_right _ h))) (by decide +kernel))
set_option maxRecDepth 20000 in
theorem gX6_fewest_X6_cell : GoodIn wsX6_fewest (va_wsS RX6 124 yX6_cell wsX6_cell) := goodIn_app (goodIn_of _ (by decide +kernel)) ggX6_fewest_X6_cell
theorem dX6_fewest_0 : decode cX6_fewest 0 = .ok (.iconst 0, 1) := by decide +kernel
theorem dX6_fewest_1 : decode cX6_fewest 1 = .ok (.iload_n 1, 1) := by decide +kernel
theorem dX6_fewest_2 : decode cX6_fewest 2 = .ok (.invokestatic 172, 3) := by decide +kernel
theorem dX6_fewest_5 : decode cX6_fewest 5 = .ok (.ifCond .ne 13, 3) := by decide +kernel
theorem dX6_fewest_8 : decode cX6_fewest 8 = .ok (.new 128, 3) := by decide +kernel
theorem dX6_fewest_11 : decode cX6_fewest 11 = .ok (.dup, 1) := by decide +kernel
theorem dX6_fewest_12 : decode cX6_fewest 12 = .ok (.ldc 235, 2) := by decide +kernel
theorem dX6_fewest_14 : decode cX6_fewest 14 = .ok (.invokespecial 132, 3) := by decide +kernel
theorem dX6_fewest_17 : decode cX6_fewest 17 = .ok (.athrow, 1) := by decide +kernel
theorem dX6_fewest_18 : decode cX6_fewest 18 = .ok (.aload_n 0, 1) := by decide +kernel
theorem dX6_fewest_19 : decode cX6_fewest 19 = .ok (.getfield 10, 3) := by decide +kernel
theorem dX6_fewest_22 : decode cX6_fewest 22 = .ok (.getfield 113, 3) := by decide +kernel
theorem dX6_fewest_25 : decode cX6_fewest 25 = .ok (.getfield 77, 3) := by decide +kernel
theorem dX6_fewest_28 : decode cX6_fewest 28 = .ok (.istore_n 2, 1) := by decide +kernel
theorem dX6_fewest_29 : decode cX6_fewest 29 = .ok (.iconst 0, 1) := by decide +kernel
theorem dX6_fewest_30 : decode cX6_fewest 30 = .ok (.istore_n 3, 1) := by decide +kernel
theorem dX6_fewest_31 : decode cX6_fewest 31 = .ok (.iload_n 3, 1) := by decide +kernel
theorem dX6_fewest_32 : decode cX6_fewest 32 = .ok (.iload_n 2, 1) := by decide +kernel
theorem dX6_fewest_33 : decode cX6_fewest 33 = .ok (.if_icmp .gt 18, 3) := by decide +kernel
theorem dX6_fewest_36 : decode cX6_fewest 36 = .ok (.aload_n 0, 1) := by decide +kernel
theorem dX6_fewest_37 : decode cX6_fewest 37 = .ok (.getfield 47, 3) := by decide +kernel
theorem dX6_fewest_40 : decode cX6_fewest 40 = .ok (.iload_n 3, 1) := by decide +kernel
theorem dX6_fewest_41 : decode cX6_fewest 41 = .ok (.iload_n 3, 1) := by decide +kernel
theorem dX6_fewest_42 : decode cX6_fewest 42 = .ok (.invokestatic 133, 3) := by decide +kernel
theorem dX6_fewest_45 : decode cX6_fewest 45 = .ok (.iinc 3 1, 3) := by decide +kernel
theorem dX6_fewest_48 : decode cX6_fewest 48 = .ok (.goto (-17), 3) := by decide +kernel
theorem dX6_fewest_51 : decode cX6_fewest 51 = .ok (.iconst 0, 1) := by decide +kernel
theorem dX6_fewest_52 : decode cX6_fewest 52 = .ok (.istore_n 3, 1) := by decide +kernel
theorem dX6_fewest_53 : decode cX6_fewest 53 = .ok (.iload_n 3, 1) := by decide +kernel
theorem dX6_fewest_54 : decode cX6_fewest 54 = .ok (.iload_n 2, 1) := by decide +kernel
theorem dX6_fewest_55 : decode cX6_fewest 55 = .ok (.if_icmp .ge 85, 3) := by decide +kernel
theorem dX6_fewest_58 : decode cX6_fewest 58 = .ok (.aload_n 0, 1) := by decide +kernel
theorem dX6_fewest_59 : decode cX6_fewest 59 = .ok (.getfield 43, 3) := by decide +kernel
theorem dX6_fewest_62 : decode cX6_fewest 62 = .ok (.aload_n 0, 1) := by decide +kernel
theorem dX6_fewest_63 : decode cX6_fewest 63 = .ok (.getfield 10, 3) := by decide +kernel
theorem dX6_fewest_66 : decode cX6_fewest 66 = .ok (.getfield 113, 3) := by decide +kernel
theorem dX6_fewest_69 : decode cX6_fewest 69 = .ok (.iload_n 3, 1) := by decide +kernel
theorem dX6_fewest_70 : decode cX6_fewest 70 = .ok (.iload_n 1, 1) := by decide +kernel
theorem dX6_fewest_71 : decode cX6_fewest 71 = .ok (.invokevirtual 237, 3) := by decide +kernel
theorem dX6_fewest_74 : decode cX6_fewest 74 = .ok (.aload_n 0, 1) := by decide +kernel
theorem dX6_fewest_75 : decode cX6_fewest 75 = .ok (.getfield 47, 3) := by decide +kernel
theorem dX6_fewest_78 : decode cX6_fewest 78 = .ok (.iload_n 3, 1) := by decide +kernel
theorem dX6_fewest_79 : decode cX6_fewest 79 = .ok (.invokestatic 124, 3) := by decide +kernel
theorem dX6_fewest_82 : decode cX6_fewest 82 = .ok (.iconst 1, 1) := by decide +kernel
theorem dX6_fewest_83 : decode cX6_fewest 83 = .ok (.iadd, 1) := by decide +kernel
theorem dX6_fewest_84 : decode cX6_fewest 84 = .ok (.istore 4, 2) := by decide +kernel
theorem dX6_fewest_86 : decode cX6_fewest 86 = .ok (.iload_n 3, 1) := by decide +kernel
theorem dX6_fewest_87 : decode cX6_fewest 87 = .ok (.iconst 1, 1) := by decide +kernel
theorem dX6_fewest_88 : decode cX6_fewest 88 = .ok (.iadd, 1) := by decide +kernel
theorem dX6_fewest_89 : decode cX6_fewest 89 = .ok (.istore 5, 2) := by decide +kernel
theorem dX6_fewest_91 : decode cX6_fewest 91 = .ok (.iload 5, 2) := by decide +kernel
theorem dX6_fewest_93 : decode cX6_fewest 93 = .ok (.aload_n 0, 1) := by decide +kernel
theorem dX6_fewest_94 : decode cX6_fewest 94 = .ok (.getfield 43, 3) := by decide +kernel
theorem dX6_fewest_97 : decode cX6_fewest 97 = .ok (.getfield 241, 3) := by decide +kernel
theorem dX6_fewest_100 : decode cX6_fewest 100 = .ok (.iconst 1, 1) := by decide +kernel
theorem dX6_fewest_101 : decode cX6_fewest 101 = .ok (.iadd, 1) := by decide +kernel
theorem dX6_fewest_102 : decode cX6_fewest 102 = .ok (.if_icmp .gt 32, 3) := by decide +kernel
theorem dX6_fewest_105 : decode cX6_fewest 105 = .ok (.aload_n 0, 1) := by decide +kernel
theorem dX6_fewest_106 : decode cX6_fewest 106 = .ok (.getfield 47, 3) := by decide +kernel
theorem dX6_fewest_109 : decode cX6_fewest 109 = .ok (.iload 5, 2) := by decide +kernel
theorem dX6_fewest_111 : decode cX6_fewest 111 = .ok (.iload 4, 2) := by decide +kernel
theorem dX6_fewest_113 : decode cX6_fewest 113 = .ok (.aload_n 0, 1) := by decide +kernel
theorem dX6_fewest_114 : decode cX6_fewest 114 = .ok (.getfield 47, 3) := by decide +kernel
theorem dX6_fewest_117 : decode cX6_fewest 117 = .ok (.iload 5, 2) := by decide +kernel
theorem dX6_fewest_119 : decode cX6_fewest 119 = .ok (.invokestatic 124, 3) := by decide +kernel
theorem dX6_fewest_122 : decode cX6_fewest 122 = .ok (.invokestatic 244, 3) := by decide +kernel
theorem dX6_fewest_125 : decode cX6_fewest 125 = .ok (.invokestatic 133, 3) := by decide +kernel
theorem dX6_fewest_128 : decode cX6_fewest 128 = .ok (.iinc 5 1, 3) := by decide +kernel
theorem dX6_fewest_131 : decode cX6_fewest 131 = .ok (.goto (-40), 3) := by decide +kernel
theorem dX6_fewest_134 : decode cX6_fewest 134 = .ok (.iinc 3 1, 3) := by decide +kernel
theorem dX6_fewest_137 : decode cX6_fewest 137 = .ok (.goto (-84), 3) := by decide +kernel
theorem dX6_fewest_140 : decode cX6_fewest 140 = .ok (.aload_n 0, 1) := by decide +kernel
theorem dX6_fewest_141 : decode cX6_fewest 141 = .ok (.getfield 47, 3) := by decide +kernel
theorem dX6_fewest_144 : decode cX6_fewest 144 = .ok (.iload_n 2, 1) := by decide +kernel
theorem dX6_fewest_145 : decode cX6_fewest 145 = .ok (.invokestatic 124, 3) := by decide +kernel
theorem dX6_fewest_148 : decode cX6_fewest 148 = .ok (.ireturn, 1) := by decide +kernel
def rm_X6_fewest : Room := { frames := 6, cells := 1, slots := 6, locals := 82 }
abbrev p_X6_fewest (g : kG) (x0 : Nat) (yn : Nat) (ys : Nat) (iS : Int32) (xc : Nat) (xs : Nat) (xt : Nat) (xr : Nat) (xf : Nat) (xh : Nat) (xi : Nat) (am : Nat) (ac : Nat) (as_ : Nat) (atx : Nat) (mka : Nat) (mva : Nat) (mra : Nat) (nM : Nat) (fMk : Nat → Int32) (fMv : Nat → Int32) (fMr : Nat → Int32) (cka : Nat) (cva : Nat) (cra : Nat) (nC : Nat) (gk : Nat → Int32) (gv : Nat → Int32) (gr : Nat → Int32) (r1 : Int32) (r2 : Int32) (r3 : Int32) (r4 : Int32) (r5 : Int32) (ff : Nat → Int32) (M : List kE3) (C : List kE3) (b : Int32) : Int32 → va_W → Prop := fun r w1 => ∃ (f2 : Nat → Int32), ∃ (x1 : Int32), ∃ (x2 : Int32), ∃ (x3 : Int32), ∃ (x4 : Int32), ∃ (x5 : Int32), r = nI (fewS (kap M) M.length b.toInt) ∧ (fewK b = 0) ∧ w1 = [(x0, .inr (8, [.ref yn, .ref ys, .int iS, .ref xc, .ref xs, .ref xt, .ref xr, .ref xf, .ref xh, .ref xi])), (yn, .inr (7, [.ref am, .ref ac, .ref as_, .ref atx])), (am, .inr (2, [.ref mka, .ref mva, .ref mra, .int (nI nM)])), (mka, .inl (g.2.1.1, 160, .inl fMk)), (mva, .inl (g.2.1.1, 160, .inl fMv)), (mra, .inl (g.2.1.1, 160, .inl fMr)), (ac, .inr (2, [.ref cka, .ref cva, .ref cra, .int (nI nC)])), (cka, .inl (g.2.1.1, 160, .inl gk)), (cva, .inl (g.2.1.1, 160, .inl gv)), (cra, .inl (g.2.1.1, 160, .inl gr)), (xr, .inr (4, [.int x1, .int x2, .int x3, .int x4, .int x5])), (xf, .inl (g.2.1.1, 160, .inl f2))]
abbrev x_X6_fewest (g : kG) (x0 : Nat) (yn : Nat) (ys : Nat) (iS : Int32) (xc : Nat) (xs : Nat) (xt : Nat) (xr : Nat) (xf : Nat) (xh : Nat) (xi : Nat) (am : Nat) (ac : Nat) (as_ : Nat) (atx : Nat) (mka : Nat) (mva : Nat) (mra : Nat) (nM : Nat) (fMk : Nat → Int32) (fMv : Nat → Int32) (fMr : Nat → Int32) (cka : Nat) (cva : Nat) (cra : Nat) (nC : Nat) (gk : Nat → Int32) (gv : Nat → Int32) (gr : Nat → Int32) (r1 : Int32) (r2 : Int32) (r3 : Int32) (r4 : Int32) (r5 : Int32) (ff : Nat → Int32) (M : List kE3) (C : List kE3) (b : Int32) : String → va_W → Prop := fun E w1 => (E = "java/lang/IllegalArgumentException" ∧ (fewK b = 1) ∧ w1 = [(x0, .inr (8, [.ref yn, .ref ys, .int iS, .ref xc, .ref xs, .ref xt, .ref xr, .ref xf, .ref xh, .ref xi])), (yn, .inr (7, [.ref am, .ref ac, .ref as_, .ref atx])), (am, .inr (2, [.ref mka, .ref mva, .ref mra, .int (nI nM)])), (mka, .inl (g.2.1.1, 160, .inl fMk)), (mva, .inl (g.2.1.1, 160, .inl fMv)), (mra, .inl (g.2.1.1, 160, .inl fMr)), (ac, .inr (2, [.ref cka, .ref cva, .ref cra, .int (nI nC)])), (cka, .inl (g.2.1.1, 160, .inl gk)), (cva, .inl (g.2.1.1, 160, .inl gv)), (cra, .inl (g.2.1.1, 160, .inl gr)), (xr, .inr (4, [.int r1, .int r2, .int r3, .int r4, .int r5])), (xf, .inl (g.2.1.1, 160, .inl ff))])
set_option maxHeartbeats 4000000 in
set_option maxRecDepth 100000 in
theorem c_X6_fewest (l : Launch) (g : kG) (htr : l.stackTraces = false) (x0 : Nat) (yn : Nat) (ys : Nat) (iS : Int32) (xc : Nat) (xs : Nat) (xt : Nat) (xr : Nat) (xf : Nat) (xh : Nat) (xi : Nat) (am : Nat) (ac : Nat) (as_ : Nat) (atx : Nat) (mka : Nat) (mva : Nat) (mra : Nat) (nM : Nat) (fMk : Nat → Int32) (fMv : Nat → Int32) (fMr : Nat → Int32) (cka : Nat) (cva : Nat) (cra : Nat) (nC : Nat) (gk : Nat → Int32) (gv : Nat → Int32) (gr : Nat → Int32) (r1 : Int32) (r2 : Int32) (r3 : Int32) (r4 : Int32) (r5 : Int32) (ff : Nat → Int32) (M : List kE3) (C : List kE3) (b : Int32) (hMC : kMC nM fMk fMv fMr nC gk gv gr M C) : XI l yX6_fewest wsX6_fewest rm_X6_fewest g [.ref x0, .int b] [(x0, .inr (8, [.ref yn, .ref ys, .int iS, .ref xc, .ref xs, .ref xt, .ref xr, .ref xf, .ref xh, .ref xi])), (yn, .inr (7, [.ref am, .ref ac, .ref as_, .ref atx])), (am, .inr (2, [.ref mka, .ref mva, .ref mra, .int (nI nM)])), (mka, .inl (g.2.1.1, 160, .inl fMk)), (mva, .inl (g.2.1.1, 160, .inl fMv)), (mra, .inl (g.2.1.1, 160, .inl fMr)), (ac, .inr (2, [.ref cka, .ref cva, .ref cra, .int (nI nC)])), (cka, .inl (g.2.1.1, 160, .inl gk)), (cva, .inl (g.2.1.1, 160, .inl gv)), (cra, .inl (g.2.1.1, 160, .inl gr)), (xr, .inr (4, [.int r1, .int r2, .int r3, .int r4, .int r5])), (xf, .inl (g.2.1.1, 160, .inl ff))] 1 6 (p_X6_fewest g x0 yn ys iS xc xs xt xr xf xh xi am ac as_ atx mka mva mra nM fMk fMv fMr cka cva cra nC gk gv gr r1 r2 r3 r4 r5 ff M C b) (x_X6_fewest g x0 yn ys iS xc xs xt xr xf xh xi am ac as_ atx mka mva mra nM fMk fMv fMr cka cva cra nC gk gv gr r1 r2 r3 r4 r5 ff M C b) := by
  refine kxbodyI (cc := cX6_fewest) (n := 6) (k := 12) (own := RX6) (by decide) rfl rfl rfl rfl ?_
  intro p e s m below meth cd A ls hT0 hcx
  obtain ⟨hx, hb, hRt, hml, hts, hown, hlk, hA, hP, hK, hD, hE, hS, hl⟩ := hcx
  have hl : lv_has ls 6 [(0, .ref x0), (1, .int b)] := hl
  obtain ⟨⟨hM, hC⟩, ⟨hnM, hnC⟩, ⟨hIM, hIC⟩, hlen⟩ := id hMC
  have hcl : nC = C.length := by rw [← hC, EL_len]
  have hnl : nM = M.length := by rw [← hM, EL_len]
  have hasc := kap_asc hM hIM
  refine lv_iconst (v := 0) hx hb dX6_fewest_0 (by decide) ?_
  refine lv_iload_n hx hb dX6_fewest_1 rfl (lv_at hl 1 rfl) ?_
  refine kcalli (wc := []) [] (va_runS (As := [.int 0, .int b]) (rest := []) ⟨hx, hb, hml, hown, hts⟩ ((c_X6_isSettingValue l g 0 b) _) (va_cwS 2 hts gX6_fewest_X6_isSettingValue rfl rfl rfl (by decide +kernel) ⟨Nat.le_of_ble_eq_true rfl, Nat.le_of_ble_eq_true rfl⟩) (kpreS (wc := []) hK hP hD hS hA hE [] rfl rfl) rfl rfl hl.1 rfl (lv_room (Nat.le_of_ble_eq_true rfl)) dX6_fewest_2 ⟨Nat.zero_le _, Nat.zero_le _⟩) hP hD hS hA rfl (fun r_1 w_1 H locs hp hP hD hS => ?_)
  obtain ⟨rfl, rfl⟩ := hp
  have hP : va_P g.1 vwCl [(x0, .inr (8, [.ref yn, .ref ys, .int iS, .ref xc, .ref xs, .ref xt, .ref xr, .ref xf, .ref xh, .ref xi])), (yn, .inr (7, [.ref am, .ref ac, .ref as_, .ref atx])), (am, .inr (2, [.ref mka, .ref mva, .ref mra, .int (nI nM)])), (mka, .inl (g.2.1.1, 160, .inl fMk)), (mva, .inl (g.2.1.1, 160, .inl fMv)), (mra, .inl (g.2.1.1, 160, .inl fMr)), (ac, .inr (2, [.ref cka, .ref cva, .ref cra, .int (nI nC)])), (cka, .inl (g.2.1.1, 160, .inl gk)), (cva, .inl (g.2.1.1, 160, .inl gv)), (cra, .inl (g.2.1.1, 160, .inl gr)), (xr, .inr (4, [.int r1, .int r2, .int r3, .int r4, .int r5])), (xf, .inl (g.2.1.1, 160, .inl ff))] H := hP
  have hD : va_D A [(x0, .inr (8, [.ref yn, .ref ys, .int iS, .ref xc, .ref xs, .ref xt, .ref xr, .ref xf, .ref xh, .ref xi])), (yn, .inr (7, [.ref am, .ref ac, .ref as_, .ref atx])), (am, .inr (2, [.ref mka, .ref mva, .ref mra, .int (nI nM)])), (mka, .inl (g.2.1.1, 160, .inl fMk)), (mva, .inl (g.2.1.1, 160, .inl fMv)), (mra, .inl (g.2.1.1, 160, .inl fMr)), (ac, .inr (2, [.ref cka, .ref cva, .ref cra, .int (nI nC)])), (cka, .inl (g.2.1.1, 160, .inl gk)), (cva, .inl (g.2.1.1, 160, .inl gv)), (cra, .inl (g.2.1.1, 160, .inl gr)), (xr, .inr (4, [.int r1, .int r2, .int r3, .int r4, .int r5])), (xf, .inl (g.2.1.1, 160, .inl ff))] := hD
  refine lv_if_ne (tgt := 18) hx hb dX6_fewest_5 (by decide) (fun c_5 => ?_) (fun c_5 => ?_)
  · skip
    have hst : stV 0 b = true := (kbool_ne _).mp c_5
    have hbb := stV_b hst
    have hbI : b = kI b.toInt := kI_of b
    have hll : ∀ f, f ≤ (gw0 (kap M) nM f b.toInt).1 ∨ nM ≤ f := fun f => (Nat.lt_or_ge f nM).elim (fun z => Or.inl (gw0_bd hasc (by omega) ⟨by omega, by omega⟩ z).1.1) Or.inr
    refine lv_aload_n hx hb dX6_fewest_18 rfl (lv_at hl 0 rfl) ?_
    refine va_get (D := g.1) (ci := 8) (v := .ref yn) (C := RX6) (T := TX6) (N := 10) hx hb hts (by decide +kernel) hown hK hP 0 rfl rfl 0 (by decide) (hts (.fieldLink RX6 10 "LearnedIndex" "now" "LLearnedIndex$State;") (by decide +kernel)) (fun _ h9 => h9) rfl dX6_fewest_19 ?_
    refine va_getN (D := g.1) (ci := 7) (v := .ref am) (C := RX5) (T := TX5) (N := 4) hx hb hts (by decide +kernel) hown hK hP 1 rfl rfl 0 (by decide) (va_Nw.use rfl (hE.1 _ (List.mem_of_getElem? (i := 4) rfl))) (fun _ h9 => h9) rfl dX6_fewest_22 ?_
    refine va_getN (D := g.1) (ci := 2) (v := .int (nI nM)) (C := RX0) (T := TX0) (N := 4) hx hb hts (by decide +kernel) hown hK hP 2 rfl rfl 3 (by decide) (va_Nw.use rfl (hE.1 _ (List.mem_of_getElem? (i := 2) rfl))) (fun _ h9 => h9) rfl dX6_fewest_25 ?_
    refine lv_istore_n (lv' := [(2, .int (nI nM)), (0, .ref x0), (1, .int b)]) hx hb dX6_fewest_28 rfl hl (by decide) rfl (fun ls hl => ?_)
    refine lv_iconst (v := 0) hx hb dX6_fewest_29 (by decide) ?_
    refine lv_istore_n (lv' := [(3, .int 0), (2, .int (nI nM)), (0, .ref x0), (1, .int b)]) hx hb dX6_fewest_30 rfl hl (by decide) rfl (fun ls hl => ?_)
    have L31 : ∀ (n9 : Nat) (e9 : Nat) (fz : Nat → Int32) (H : Heap) (locs : List Loc) (ls : Array Slot), (e9 ≤ nM + 1) → (∀ j, j < e9 → fz j = nI j) → nM + 1 - e9 < n9 → va_P g.1 vwCl [(x0, .inr (8, [.ref yn, .ref ys, .int iS, .ref xc, .ref xs, .ref xt, .ref xr, .ref xf, .ref xh, .ref xi])), (yn, .inr (7, [.ref am, .ref ac, .ref as_, .ref atx])), (am, .inr (2, [.ref mka, .ref mva, .ref mra, .int (nI nM)])), (mka, .inl (g.2.1.1, 160, .inl fMk)), (mva, .inl (g.2.1.1, 160, .inl fMv)), (mra, .inl (g.2.1.1, 160, .inl fMr)), (ac, .inr (2, [.ref cka, .ref cva, .ref cra, .int (nI nC)])), (cka, .inl (g.2.1.1, 160, .inl gk)), (cva, .inl (g.2.1.1, 160, .inl gv)), (cra, .inl (g.2.1.1, 160, .inl gr)), (xr, .inr (4, [.int r1, .int r2, .int r3, .int r4, .int r5])), (xf, .inl (g.2.1.1, 160, .inl fz))] H → va_D A [(x0, .inr (8, [.ref yn, .ref ys, .int iS, .ref xc, .ref xs, .ref xt, .ref xr, .ref xf, .ref xh, .ref xi])), (yn, .inr (7, [.ref am, .ref ac, .ref as_, .ref atx])), (am, .inr (2, [.ref mka, .ref mva, .ref mra, .int (nI nM)])), (mka, .inl (g.2.1.1, 160, .inl fMk)), (mva, .inl (g.2.1.1, 160, .inl fMv)), (mra, .inl (g.2.1.1, 160, .inl fMr)), (ac, .inr (2, [.ref cka, .ref cva, .ref cra, .int (nI nC)])), (cka, .inl (g.2.1.1, 160, .inl gk)), (cva, .inl (g.2.1.1, 160, .inl gv)), (cra, .inl (g.2.1.1, 160, .inl gr)), (xr, .inr (4, [.int r1, .int r2, .int r3, .int r4, .int r5])), (xf, .inl (g.2.1.1, 160, .inl fz))] → va_S A s.heap H locs → lv_has ls 6 [(3, .int (nI e9)), (2, .int (nI nM)), (0, .ref x0), (1, .int b)] → W p l e rm_X6_fewest s m ([.ref x0, .int b] : List Value).toArray below meth cd H locs 0 0 (kQxi g 12 A (p_X6_fewest g x0 yn ys iS xc xs xt xr xf xh xi am ac as_ atx mka mva mra nM fMk fMv fMr cka cva cra nC gk gv gr r1 r2 r3 r4 r5 ff M C b) (x_X6_fewest g x0 yn ys iS xc xs xt xr xf xh xi am ac as_ atx mka mva mra nM fMk fMv fMr cka cva cra nC gk gv gr r1 r2 r3 r4 r5 ff M C b) 1 6 below ([.ref x0, .int b] : List Value).toArray s) (F0 m 31 ls []) := by
      intro n9
      induction n9 with
      | zero => intro e9 fz H locs ls he hfi h9; exact absurd h9 (Nat.not_lt_zero _)
      | succ n9 ih31 =>
        intro e9 fz H locs ls he hfi hn31 hP hD hS hl
        refine lv_iload_n hx hb dX6_fewest_31 rfl (lv_at hl 0 rfl) ?_
        refine lv_iload_n hx hb dX6_fewest_32 rfl (lv_at hl 1 rfl) ?_
        refine lv_icmp_gt (tgt := 51) hx hb dX6_fewest_33 (by decide) (fun c_33 => ?_) (fun c_33 => ?_)
        · skip
          have hen : nM < e9 := by rw [nI_ltI (by omega) (by omega)] at c_33; exact c_33
          have hff0 : ∀ j, j ≤ nM → fz j = nI (fseq (fun f => (gw0 (kap M) nM f b.toInt).1) id 0 j) := fun j hj => hfi j (by omega)
          refine lv_iconst (v := 0) hx hb dX6_fewest_51 (by decide) ?_
          refine lv_istore_n (lv' := [(3, .int 0), (2, .int (nI nM)), (0, .ref x0), (1, .int b)]) hx hb dX6_fewest_52 rfl hl (by decide) rfl (fun ls hl => ?_)
          have L53 : ∀ (n9 : Nat) (f9 : Nat) (d1 : Int32) (d2 : Int32) (d3 : Int32) (d4 : Int32) (d5 : Int32) (fz : Nat → Int32) (H : Heap) (locs : List Loc) (ls : Array Slot), (f9 ≤ nM) → (∀ j, j ≤ nM → fz j = nI (fseq (fun f => (gw0 (kap M) nM f b.toInt).1) id f9 j)) → nM - f9 < n9 → va_P g.1 vwCl [(x0, .inr (8, [.ref yn, .ref ys, .int iS, .ref xc, .ref xs, .ref xt, .ref xr, .ref xf, .ref xh, .ref xi])), (yn, .inr (7, [.ref am, .ref ac, .ref as_, .ref atx])), (am, .inr (2, [.ref mka, .ref mva, .ref mra, .int (nI nM)])), (mka, .inl (g.2.1.1, 160, .inl fMk)), (mva, .inl (g.2.1.1, 160, .inl fMv)), (mra, .inl (g.2.1.1, 160, .inl fMr)), (ac, .inr (2, [.ref cka, .ref cva, .ref cra, .int (nI nC)])), (cka, .inl (g.2.1.1, 160, .inl gk)), (cva, .inl (g.2.1.1, 160, .inl gv)), (cra, .inl (g.2.1.1, 160, .inl gr)), (xr, .inr (4, [.int d1, .int d2, .int d3, .int d4, .int d5])), (xf, .inl (g.2.1.1, 160, .inl fz))] H → va_D A [(x0, .inr (8, [.ref yn, .ref ys, .int iS, .ref xc, .ref xs, .ref xt, .ref xr, .ref xf, .ref xh, .ref xi])), (yn, .inr (7, [.ref am, .ref ac, .ref as_, .ref atx])), (am, .inr (2, [.ref mka, .ref mva, .ref mra, .int (nI nM)])), (mka, .inl (g.2.1.1, 160, .inl fMk)), (mva, .inl (g.2.1.1, 160, .inl fMv)), (mra, .inl (g.2.1.1, 160, .inl fMr)), (ac, .inr (2, [.ref cka, .ref cva, .ref cra, .int (nI nC)])), (cka, .inl (g.2.1.1, 160, .inl gk)), (cva, .inl (g.2.1.1, 160, .inl gv)), (cra, .inl (g.2.1.1, 160, .inl gr)), (xr, .inr (4, [.int d1, .int d2, .int d3, .int d4, .int d5])), (xf, .inl (g.2.1.1, 160, .inl fz))] → va_S A s.heap H locs → lv_has ls 6 [(3, .int (nI f9)), (2, .int (nI nM)), (0, .ref x0), (1, .int b)] → W p l e rm_X6_fewest s m ([.ref x0, .int b] : List Value).toArray below meth cd H locs 0 0 (kQxi g 12 A (p_X6_fewest g x0 yn ys iS xc xs xt xr xf xh xi am ac as_ atx mka mva mra nM fMk fMv fMr cka cva cra nC gk gv gr r1 r2 r3 r4 r5 ff M C b) (x_X6_fewest g x0 yn ys iS xc xs xt xr xf xh xi am ac as_ atx mka mva mra nM fMk fMv fMr cka cva cra nC gk gv gr r1 r2 r3 r4 r5 ff M C b) 1 6 below ([.ref x0, .int b] : List Value).toArray s) (F0 m 53 ls []) := by
            intro n9
            induction n9 with
            | zero => intro f9 d1 d2 d3 d4 d5 fz H locs ls hf0 hff h9; exact absurd h9 (Nat.not_lt_zero _)
            | succ n9 ih53 =>
              intro f9 d1 d2 d3 d4 d5 fz H locs ls hf0 hff hn53 hP hD hS hl
              refine lv_iload_n hx hb dX6_fewest_53 rfl (lv_at hl 0 rfl) ?_
              refine lv_iload_n hx hb dX6_fewest_54 rfl (lv_at hl 1 rfl) ?_
              refine lv_icmp_ge (tgt := 140) hx hb dX6_fewest_55 (by decide) (fun c_55 => ?_) (fun c_55 => ?_)
              · skip
                have hin : nM ≤ f9 := kg (by omega) (by omega) c_55
                have hf9 : f9 = nM := by omega
                refine lv_aload_n hx hb dX6_fewest_140 rfl (lv_at hl 2 rfl) ?_
                refine va_get (D := g.1) (ci := 8) (v := .ref xf) (C := RX6) (T := TX6) (N := 10) hx hb hts (by decide +kernel) hown hK hP 0 rfl rfl 7 (by decide) (hts (.fieldLink RX6 47 "LearnedIndex" "fewestRuns" "[I") (by decide +kernel)) (fun _ h9 => h9) rfl dX6_fewest_141 ?_
                refine lv_iload_n hx hb dX6_fewest_144 rfl (lv_at hl 1 rfl) ?_
                refine kcalli (wc := [(xf, .inl (g.2.1.1, 160, .inl fz))]) [11] (va_runS (As := [.ref xf, .int (nI nM)]) (rest := []) ⟨hx, hb, hml, hown, hts⟩ ((c_X6_cell l g xf 160 fz (nI nM) (by decide)) _) (va_cwS 2 hts gX6_fewest_X6_cell rfl rfl rfl (by decide +kernel) ⟨Nat.le_of_ble_eq_true rfl, Nat.le_of_ble_eq_true rfl⟩) (kpreS (wc := [(xf, .inl (g.2.1.1, 160, .inl fz))]) hK hP hD hS hA hE [11] rfl rfl) rfl rfl hl.1 rfl (lv_room (Nat.le_of_ble_eq_true rfl)) dX6_fewest_145 ⟨Nat.zero_le _, Nat.zero_le _⟩) hP hD hS hA rfl (fun r_2 w_2 H locs hp hP hD hS => ?_)
                obtain ⟨rfl, rfl⟩ := hp
                have hP : va_P g.1 vwCl [(x0, .inr (8, [.ref yn, .ref ys, .int iS, .ref xc, .ref xs, .ref xt, .ref xr, .ref xf, .ref xh, .ref xi])), (yn, .inr (7, [.ref am, .ref ac, .ref as_, .ref atx])), (am, .inr (2, [.ref mka, .ref mva, .ref mra, .int (nI nM)])), (mka, .inl (g.2.1.1, 160, .inl fMk)), (mva, .inl (g.2.1.1, 160, .inl fMv)), (mra, .inl (g.2.1.1, 160, .inl fMr)), (ac, .inr (2, [.ref cka, .ref cva, .ref cra, .int (nI nC)])), (cka, .inl (g.2.1.1, 160, .inl gk)), (cva, .inl (g.2.1.1, 160, .inl gv)), (cra, .inl (g.2.1.1, 160, .inl gr)), (xr, .inr (4, [.int d1, .int d2, .int d3, .int d4, .int d5])), (xf, .inl (g.2.1.1, 160, .inl fz))] H := hP
                have hD : va_D A [(x0, .inr (8, [.ref yn, .ref ys, .int iS, .ref xc, .ref xs, .ref xt, .ref xr, .ref xf, .ref xh, .ref xi])), (yn, .inr (7, [.ref am, .ref ac, .ref as_, .ref atx])), (am, .inr (2, [.ref mka, .ref mva, .ref mra, .int (nI nM)])), (mka, .inl (g.2.1.1, 160, .inl fMk)), (mva, .inl (g.2.1.1, 160, .inl fMv)), (mra, .inl (g.2.1.1, 160, .inl fMr)), (ac, .inr (2, [.ref cka, .ref cva, .ref cra, .int (nI nC)])), (cka, .inl (g.2.1.1, 160, .inl gk)), (cva, .inl (g.2.1.1, 160, .inl gv)), (cra, .inl (g.2.1.1, 160, .inl gr)), (xr, .inr (4, [.int d1, .int d2, .int d3, .int d4, .int d5])), (xf, .inl (g.2.1.1, 160, .inl fz))] := hD
                exact kretxi (Nat.le_of_ble_eq_true rfl) (Nat.le_of_ble_eq_true rfl) hx hb hRt hlk hK hP hD hS rfl dX6_fewest_148 (⟨_, _, _, _, _, _, by rw [kcell_nI _ (by decide) (by omega), hff _ (Nat.le_refl _), hf9, fewS, ← hnl], by rw [fewK, if_pos hst], rfl⟩)
              · skip
                have hin : f9 < nM := kl (by omega) (by omega) c_55
                have hg1 := (gw0_bd hasc (by omega) (β := b.toInt) ⟨by omega, by omega⟩ hin).1
                have hsl := fseq_le (fun f => (gw0 (kap M) nM f b.toInt).1) f9
                refine lv_aload_n hx hb dX6_fewest_58 rfl (lv_at hl 2 rfl) ?_
                refine va_get (D := g.1) (ci := 8) (v := .ref xr) (C := RX6) (T := TX6) (N := 10) hx hb hts (by decide +kernel) hown hK hP 0 rfl rfl 6 (by decide) (hts (.fieldLink RX6 43 "LearnedIndex" "run" "LLearnedIndex$Run;") (by decide +kernel)) (fun _ h9 => h9) rfl dX6_fewest_59 ?_
                refine lv_aload_n hx hb dX6_fewest_62 rfl (lv_at hl 2 rfl) ?_
                refine va_get (D := g.1) (ci := 8) (v := .ref yn) (C := RX6) (T := TX6) (N := 10) hx hb hts (by decide +kernel) hown hK hP 0 rfl rfl 0 (by decide) (hts (.fieldLink RX6 10 "LearnedIndex" "now" "LLearnedIndex$State;") (by decide +kernel)) (fun _ h9 => h9) rfl dX6_fewest_63 ?_
                refine va_getN (D := g.1) (ci := 7) (v := .ref am) (C := RX5) (T := TX5) (N := 4) hx hb hts (by decide +kernel) hown hK hP 1 rfl rfl 0 (by decide) (va_Nw.use rfl (hE.1 _ (List.mem_of_getElem? (i := 4) rfl))) (fun _ h9 => h9) rfl dX6_fewest_66 ?_
                refine lv_iload_n hx hb dX6_fewest_69 rfl (lv_at hl 0 rfl) ?_
                refine lv_iload_n hx hb dX6_fewest_70 rfl (lv_at hl 3 rfl) ?_
                refine lv_topi (fun v9 e_v9 => ?_)
                rw [show (v9 : Int32) = kI b.toInt from e_v9.trans hbI]
                refine kcallv (wc := [(xr, .inr (4, [.int d1, .int d2, .int d3, .int d4, .int d5])), (am, .inr (2, [.ref mka, .ref mva, .ref mra, .int (nI nM)])), (mka, .inl (g.2.1.1, 160, .inl fMk)), (mva, .inl (g.2.1.1, 160, .inl fMv)), (mra, .inl (g.2.1.1, 160, .inl fMr))]) [10, 2, 3, 4, 5] (va_runV (C := RX2) (As := [.ref am, .int (nI f9), .int (kI b.toInt)]) (rest := []) ⟨hx, hb, hml, hown, hts⟩ ((c_X2_grow l g xr d1 d2 d3 d4 d5 am mka mva mra nM fMk fMv fMr f9 b.toInt (kap M) (fun j hj => EL_kap hM hj) hasc (by omega) (⟨by omega, by omega⟩) hin) _) (cwV 3 hts gX6_fewest_X2_grow rfl rfl rfl (by decide +kernel) ⟨Nat.le_of_ble_eq_true rfl, Nat.le_of_ble_eq_true rfl⟩) (kpreV (wc := [(xr, .inr (4, [.int d1, .int d2, .int d3, .int d4, .int d5])), (am, .inr (2, [.ref mka, .ref mva, .ref mra, .int (nI nM)])), (mka, .inl (g.2.1.1, 160, .inl fMk)), (mva, .inl (g.2.1.1, 160, .inl fMv)), (mra, .inl (g.2.1.1, 160, .inl fMr))]) (ci := 4) hK hP hD hS hA hE [10, 2, 3, 4, 5] rfl rfl rfl rfl) rfl rfl hl.1 rfl (lv_room (Nat.le_of_ble_eq_true rfl)) dX6_fewest_71 ⟨Nat.zero_le _, Nat.zero_le _⟩) hP hD hS hA rfl (fun w_3 H locs hp hP hD hS => ?_)
                obtain ⟨x4_3, x5_3, rfl⟩ := hp
                have hP : va_P g.1 vwCl [(x0, .inr (8, [.ref yn, .ref ys, .int iS, .ref xc, .ref xs, .ref xt, .ref xr, .ref xf, .ref xh, .ref xi])), (yn, .inr (7, [.ref am, .ref ac, .ref as_, .ref atx])), (am, .inr (2, [.ref mka, .ref mva, .ref mra, .int (nI nM)])), (mka, .inl (g.2.1.1, 160, .inl fMk)), (mva, .inl (g.2.1.1, 160, .inl fMv)), (mra, .inl (g.2.1.1, 160, .inl fMr)), (ac, .inr (2, [.ref cka, .ref cva, .ref cra, .int (nI nC)])), (cka, .inl (g.2.1.1, 160, .inl gk)), (cva, .inl (g.2.1.1, 160, .inl gv)), (cra, .inl (g.2.1.1, 160, .inl gr)), (xr, .inr (4, [.int (nI (gw0 (kap M) nM f9 b.toInt).1), .int (nI ((gw0 (kap M) nM f9 b.toInt).2.1.toNat / Nat.gcd (gw0 (kap M) nM f9 b.toInt).2.2.toNat (gw0 (kap M) nM f9 b.toInt).2.1.toNat)), .int (nI ((gw0 (kap M) nM f9 b.toInt).2.2.toNat / Nat.gcd (gw0 (kap M) nM f9 b.toInt).2.2.toNat (gw0 (kap M) nM f9 b.toInt).2.1.toNat)), .int x4_3, .int x5_3])), (xf, .inl (g.2.1.1, 160, .inl fz))] H := hP
                have hD : va_D A [(x0, .inr (8, [.ref yn, .ref ys, .int iS, .ref xc, .ref xs, .ref xt, .ref xr, .ref xf, .ref xh, .ref xi])), (yn, .inr (7, [.ref am, .ref ac, .ref as_, .ref atx])), (am, .inr (2, [.ref mka, .ref mva, .ref mra, .int (nI nM)])), (mka, .inl (g.2.1.1, 160, .inl fMk)), (mva, .inl (g.2.1.1, 160, .inl fMv)), (mra, .inl (g.2.1.1, 160, .inl fMr)), (ac, .inr (2, [.ref cka, .ref cva, .ref cra, .int (nI nC)])), (cka, .inl (g.2.1.1, 160, .inl gk)), (cva, .inl (g.2.1.1, 160, .inl gv)), (cra, .inl (g.2.1.1, 160, .inl gr)), (xr, .inr (4, [.int (nI (gw0 (kap M) nM f9 b.toInt).1), .int (nI ((gw0 (kap M) nM f9 b.toInt).2.1.toNat / Nat.gcd (gw0 (kap M) nM f9 b.toInt).2.2.toNat (gw0 (kap M) nM f9 b.toInt).2.1.toNat)), .int (nI ((gw0 (kap M) nM f9 b.toInt).2.2.toNat / Nat.gcd (gw0 (kap M) nM f9 b.toInt).2.2.toNat (gw0 (kap M) nM f9 b.toInt).2.1.toNat)), .int x4_3, .int x5_3])), (xf, .inl (g.2.1.1, 160, .inl fz))] := hD
                refine lv_aload_n hx hb dX6_fewest_74 rfl (lv_at hl 2 rfl) ?_
                refine va_get (D := g.1) (ci := 8) (v := .ref xf) (C := RX6) (T := TX6) (N := 10) hx hb hts (by decide +kernel) hown hK hP 0 rfl rfl 7 (by decide) (hts (.fieldLink RX6 47 "LearnedIndex" "fewestRuns" "[I") (by decide +kernel)) (fun _ h9 => h9) rfl dX6_fewest_75 ?_
                refine lv_iload_n hx hb dX6_fewest_78 rfl (lv_at hl 0 rfl) ?_
                refine kcalli (wc := [(xf, .inl (g.2.1.1, 160, .inl fz))]) [11] (va_runS (As := [.ref xf, .int (nI f9)]) (rest := []) ⟨hx, hb, hml, hown, hts⟩ ((c_X6_cell l g xf 160 fz (nI f9) (by decide)) _) (va_cwS 2 hts gX6_fewest_X6_cell rfl rfl rfl (by decide +kernel) ⟨Nat.le_of_ble_eq_true rfl, Nat.le_of_ble_eq_true rfl⟩) (kpreS (wc := [(xf, .inl (g.2.1.1, 160, .inl fz))]) hK hP hD hS hA hE [11] rfl rfl) rfl rfl hl.1 rfl (lv_room (Nat.le_of_ble_eq_true rfl)) dX6_fewest_79 ⟨Nat.zero_le _, Nat.zero_le _⟩) hP hD hS hA rfl (fun r_4 w_4 H locs hp hP hD hS => ?_)
                obtain ⟨rfl, rfl⟩ := hp
                have hP : va_P g.1 vwCl [(x0, .inr (8, [.ref yn, .ref ys, .int iS, .ref xc, .ref xs, .ref xt, .ref xr, .ref xf, .ref xh, .ref xi])), (yn, .inr (7, [.ref am, .ref ac, .ref as_, .ref atx])), (am, .inr (2, [.ref mka, .ref mva, .ref mra, .int (nI nM)])), (mka, .inl (g.2.1.1, 160, .inl fMk)), (mva, .inl (g.2.1.1, 160, .inl fMv)), (mra, .inl (g.2.1.1, 160, .inl fMr)), (ac, .inr (2, [.ref cka, .ref cva, .ref cra, .int (nI nC)])), (cka, .inl (g.2.1.1, 160, .inl gk)), (cva, .inl (g.2.1.1, 160, .inl gv)), (cra, .inl (g.2.1.1, 160, .inl gr)), (xr, .inr (4, [.int (nI (gw0 (kap M) nM f9 b.toInt).1), .int (nI ((gw0 (kap M) nM f9 b.toInt).2.1.toNat / Nat.gcd (gw0 (kap M) nM f9 b.toInt).2.2.toNat (gw0 (kap M) nM f9 b.toInt).2.1.toNat)), .int (nI ((gw0 (kap M) nM f9 b.toInt).2.2.toNat / Nat.gcd (gw0 (kap M) nM f9 b.toInt).2.2.toNat (gw0 (kap M) nM f9 b.toInt).2.1.toNat)), .int x4_3, .int x5_3])), (xf, .inl (g.2.1.1, 160, .inl fz))] H := hP
                have hD : va_D A [(x0, .inr (8, [.ref yn, .ref ys, .int iS, .ref xc, .ref xs, .ref xt, .ref xr, .ref xf, .ref xh, .ref xi])), (yn, .inr (7, [.ref am, .ref ac, .ref as_, .ref atx])), (am, .inr (2, [.ref mka, .ref mva, .ref mra, .int (nI nM)])), (mka, .inl (g.2.1.1, 160, .inl fMk)), (mva, .inl (g.2.1.1, 160, .inl fMv)), (mra, .inl (g.2.1.1, 160, .inl fMr)), (ac, .inr (2, [.ref cka, .ref cva, .ref cra, .int (nI nC)])), (cka, .inl (g.2.1.1, 160, .inl gk)), (cva, .inl (g.2.1.1, 160, .inl gv)), (cra, .inl (g.2.1.1, 160, .inl gr)), (xr, .inr (4, [.int (nI (gw0 (kap M) nM f9 b.toInt).1), .int (nI ((gw0 (kap M) nM f9 b.toInt).2.1.toNat / Nat.gcd (gw0 (kap M) nM f9 b.toInt).2.2.toNat (gw0 (kap M) nM f9 b.toInt).2.1.toNat)), .int (nI ((gw0 (kap M) nM f9 b.toInt).2.2.toNat / Nat.gcd (gw0 (kap M) nM f9 b.toInt).2.2.toNat (gw0 (kap M) nM f9 b.toInt).2.1.toNat)), .int x4_3, .int x5_3])), (xf, .inl (g.2.1.1, 160, .inl fz))] := hD
                rw [show (kcell 160 fz (nI f9) : Int32) = nI (fseq (fun f => (gw0 (kap M) nM f b.toInt).1) id f9 f9) from by rw [kcell_nI _ (by decide) (by omega), hff f9 (by omega)]]
                refine lv_iconst (v := 1) hx hb dX6_fewest_82 (by decide) ?_
                refine lv_iadd hx hb dX6_fewest_83 ?_
                rw [show ((nI (fseq (fun f => (gw0 (kap M) nM f b.toInt).1) id f9 f9)) + 1 : Int32) = nI (fseq (fun f => (gw0 (kap M) nM f b.toInt).1) id f9 f9 + 1) from nI_1 _]
                refine lv_istore (lv' := [(4, .int (nI (fseq (fun f => (gw0 (kap M) nM f b.toInt).1) id f9 f9 + 1))), (3, .int (nI f9)), (2, .int (nI nM)), (0, .ref x0), (1, .int b)]) hx hb dX6_fewest_84 hl (by decide) rfl (fun ls hl => ?_)
                refine lv_iload_n hx hb dX6_fewest_86 rfl (lv_at hl 1 rfl) ?_
                refine lv_iconst (v := 1) hx hb dX6_fewest_87 (by decide) ?_
                refine lv_iadd hx hb dX6_fewest_88 ?_
                rw [show ((nI f9) + 1 : Int32) = nI (f9 + 1) from nI_1 f9]
                refine lv_istore (lv' := [(5, .int (nI (f9 + 1))), (4, .int (nI (fseq (fun f => (gw0 (kap M) nM f b.toInt).1) id f9 f9 + 1))), (3, .int (nI f9)), (2, .int (nI nM)), (0, .ref x0), (1, .int b)]) hx hb dX6_fewest_89 hl (by decide) rfl (fun ls hl => ?_)
                have L91 : ∀ (n9 : Nat) (t9 : Nat) (fz : Nat → Int32) (H : Heap) (locs : List Loc) (ls : Array Slot), (f9 < t9 ∧ t9 ≤ (gw0 (kap M) nM f9 b.toInt).1 + 2) → (∀ j, j ≤ nM → fz j = nI (fpart (fseq (fun f => (gw0 (kap M) nM f b.toInt).1) id f9) f9 t9 j)) → (gw0 (kap M) nM f9 b.toInt).1 + 2 - t9 < n9 → va_P g.1 vwCl [(x0, .inr (8, [.ref yn, .ref ys, .int iS, .ref xc, .ref xs, .ref xt, .ref xr, .ref xf, .ref xh, .ref xi])), (yn, .inr (7, [.ref am, .ref ac, .ref as_, .ref atx])), (am, .inr (2, [.ref mka, .ref mva, .ref mra, .int (nI nM)])), (mka, .inl (g.2.1.1, 160, .inl fMk)), (mva, .inl (g.2.1.1, 160, .inl fMv)), (mra, .inl (g.2.1.1, 160, .inl fMr)), (ac, .inr (2, [.ref cka, .ref cva, .ref cra, .int (nI nC)])), (cka, .inl (g.2.1.1, 160, .inl gk)), (cva, .inl (g.2.1.1, 160, .inl gv)), (cra, .inl (g.2.1.1, 160, .inl gr)), (xr, .inr (4, [.int (nI (gw0 (kap M) nM f9 b.toInt).1), .int (nI ((gw0 (kap M) nM f9 b.toInt).2.1.toNat / Nat.gcd (gw0 (kap M) nM f9 b.toInt).2.2.toNat (gw0 (kap M) nM f9 b.toInt).2.1.toNat)), .int (nI ((gw0 (kap M) nM f9 b.toInt).2.2.toNat / Nat.gcd (gw0 (kap M) nM f9 b.toInt).2.2.toNat (gw0 (kap M) nM f9 b.toInt).2.1.toNat)), .int x4_3, .int x5_3])), (xf, .inl (g.2.1.1, 160, .inl fz))] H → va_D A [(x0, .inr (8, [.ref yn, .ref ys, .int iS, .ref xc, .ref xs, .ref xt, .ref xr, .ref xf, .ref xh, .ref xi])), (yn, .inr (7, [.ref am, .ref ac, .ref as_, .ref atx])), (am, .inr (2, [.ref mka, .ref mva, .ref mra, .int (nI nM)])), (mka, .inl (g.2.1.1, 160, .inl fMk)), (mva, .inl (g.2.1.1, 160, .inl fMv)), (mra, .inl (g.2.1.1, 160, .inl fMr)), (ac, .inr (2, [.ref cka, .ref cva, .ref cra, .int (nI nC)])), (cka, .inl (g.2.1.1, 160, .inl gk)), (cva, .inl (g.2.1.1, 160, .inl gv)), (cra, .inl (g.2.1.1, 160, .inl gr)), (xr, .inr (4, [.int (nI (gw0 (kap M) nM f9 b.toInt).1), .int (nI ((gw0 (kap M) nM f9 b.toInt).2.1.toNat / Nat.gcd (gw0 (kap M) nM f9 b.toInt).2.2.toNat (gw0 (kap M) nM f9 b.toInt).2.1.toNat)), .int (nI ((gw0 (kap M) nM f9 b.toInt).2.2.toNat / Nat.gcd (gw0 (kap M) nM f9 b.toInt).2.2.toNat (gw0 (kap M) nM f9 b.toInt).2.1.toNat)), .int x4_3, .int x5_3])), (xf, .inl (g.2.1.1, 160, .inl fz))] → va_S A s.heap H locs → lv_has ls 6 [(5, .int (nI t9)), (4, .int (nI (fseq (fun f => (gw0 (kap M) nM f b.toInt).1) id f9 f9 + 1))), (3, .int (nI f9)), (2, .int (nI nM)), (0, .ref x0), (1, .int b)] → W p l e rm_X6_fewest s m ([.ref x0, .int b] : List Value).toArray below meth cd H locs 0 0 (kQxi g 12 A (p_X6_fewest g x0 yn ys iS xc xs xt xr xf xh xi am ac as_ atx mka mva mra nM fMk fMv fMr cka cva cra nC gk gv gr r1 r2 r3 r4 r5 ff M C b) (x_X6_fewest g x0 yn ys iS xc xs xt xr xf xh xi am ac as_ atx mka mva mra nM fMk fMv fMr cka cva cra nC gk gv gr r1 r2 r3 r4 r5 ff M C b) 1 6 below ([.ref x0, .int b] : List Value).toArray s) (F0 m 91 ls []) := by
                  intro n9
                  induction n9 with
                  | zero => intro t9 fz H locs ls ht9 hfp h9; exact absurd h9 (Nat.not_lt_zero _)
                  | succ n9 ih91 =>
                    intro t9 fz H locs ls ht9 hfp hn91 hP hD hS hl
                    refine lv_iload hx hb dX6_fewest_91 (lv_at hl 0 rfl) ?_
                    refine lv_aload_n hx hb dX6_fewest_93 rfl (lv_at hl 4 rfl) ?_
                    refine va_get (D := g.1) (ci := 8) (v := .ref xr) (C := RX6) (T := TX6) (N := 10) hx hb hts (by decide +kernel) hown hK hP 0 rfl rfl 6 (by decide) (hts (.fieldLink RX6 43 "LearnedIndex" "run" "LLearnedIndex$Run;") (by decide +kernel)) (fun _ h9 => h9) rfl dX6_fewest_94 ?_
                    refine va_getN (D := g.1) (ci := 4) (v := .int (nI (gw0 (kap M) nM f9 b.toInt).1)) (C := RX2) (T := TX2) (N := 5) hx hb hts (by decide +kernel) hown hK hP 10 rfl rfl 0 (by decide) (va_Nw.use rfl (hE.1 _ (List.mem_of_getElem? (i := 16) rfl))) (fun _ h9 => h9) rfl dX6_fewest_97 ?_
                    refine lv_iconst (v := 1) hx hb dX6_fewest_100 (by decide) ?_
                    refine lv_iadd hx hb dX6_fewest_101 ?_
                    rw [show ((nI (gw0 (kap M) nM f9 b.toInt).1) + 1 : Int32) = nI ((gw0 (kap M) nM f9 b.toInt).1 + 1) from nI_1 _]
                    refine lv_icmp_gt (tgt := 134) hx hb dX6_fewest_102 (by decide) (fun c_102 => ?_) (fun c_102 => ?_)
                    · skip
                      have hte : t9 = (gw0 (kap M) nM f9 b.toInt).1 + 2 := by rw [nI_ltI (by omega) (by omega)] at c_102; omega
                      have hff2 : ∀ j, j ≤ nM → fz j = nI (fseq (fun f => (gw0 (kap M) nM f b.toInt).1) id (f9 + 1) j) := fun j hj => by rw [hfp j hj, hte, fpart_end (fun f => (gw0 (kap M) nM f b.toInt).1)]; rfl
                      refine lv_iinc (v := nI (f9 + 1)) (lv' := [(3, .int (nI (f9 + 1))), (5, .int (nI t9)), (4, .int (nI (fseq (fun f => (gw0 (kap M) nM f b.toInt).1) id f9 f9 + 1))), (2, .int (nI nM)), (0, .ref x0), (1, .int b)]) hx hb dX6_fewest_134 hl (k := 2) rfl (nI_1 f9) (by decide) rfl (fun ls hl => ?_)
                      refine lv_goto (tgt := 53) hx hb dX6_fewest_137 (by decide) ?_
                      exact ih53 (f9 + 1) (nI (gw0 (kap M) nM f9 b.toInt).1) (nI ((gw0 (kap M) nM f9 b.toInt).2.1.toNat / Nat.gcd (gw0 (kap M) nM f9 b.toInt).2.2.toNat (gw0 (kap M) nM f9 b.toInt).2.1.toNat)) (nI ((gw0 (kap M) nM f9 b.toInt).2.2.toNat / Nat.gcd (gw0 (kap M) nM f9 b.toInt).2.2.toNat (gw0 (kap M) nM f9 b.toInt).2.1.toNat)) x4_3 x5_3 fz _ _ ls hin hff2 (by omega) hP hD hS (lv_sub hl [0, 3, 4, 5] rfl)
                    · skip
                      have hte : t9 ≤ (gw0 (kap M) nM f9 b.toInt).1 + 1 := by rw [nI_ltI (by omega) (by omega)] at c_102; omega
                      have hpt : fpart (fseq (fun f => (gw0 (kap M) nM f b.toInt).1) id f9) f9 t9 t9 = fseq (fun f => (gw0 (kap M) nM f b.toInt).1) id f9 t9 := by unfold fpart; rw [if_neg (by omega)]
                      refine lv_aload_n hx hb dX6_fewest_105 rfl (lv_at hl 4 rfl) ?_
                      refine va_get (D := g.1) (ci := 8) (v := .ref xf) (C := RX6) (T := TX6) (N := 10) hx hb hts (by decide +kernel) hown hK hP 0 rfl rfl 7 (by decide) (hts (.fieldLink RX6 47 "LearnedIndex" "fewestRuns" "[I") (by decide +kernel)) (fun _ h9 => h9) rfl dX6_fewest_106 ?_
                      refine lv_iload hx hb dX6_fewest_109 (lv_at hl 0 rfl) ?_
                      refine lv_iload hx hb dX6_fewest_111 (lv_at hl 1 rfl) ?_
                      refine lv_aload_n hx hb dX6_fewest_113 rfl (lv_at hl 4 rfl) ?_
                      refine va_get (D := g.1) (ci := 8) (v := .ref xf) (C := RX6) (T := TX6) (N := 10) hx hb hts (by decide +kernel) hown hK hP 0 rfl rfl 7 (by decide) (hts (.fieldLink RX6 47 "LearnedIndex" "fewestRuns" "[I") (by decide +kernel)) (fun _ h9 => h9) rfl dX6_fewest_114 ?_
                      refine lv_iload hx hb dX6_fewest_117 (lv_at hl 0 rfl) ?_
                      refine kcalli (wc := [(xf, .inl (g.2.1.1, 160, .inl fz))]) [11] (va_runS (As := [.ref xf, .int (nI t9)]) (rest := [.int (nI (fseq (fun f => (gw0 (kap M) nM f b.toInt).1) id f9 f9 + 1)), .int (nI t9), .ref xf]) ⟨hx, hb, hml, hown, hts⟩ ((c_X6_cell l g xf 160 fz (nI t9) (by decide)) _) (va_cwS 2 hts gX6_fewest_X6_cell rfl rfl rfl (by decide +kernel) ⟨Nat.le_of_ble_eq_true rfl, Nat.le_of_ble_eq_true rfl⟩) (kpreS (wc := [(xf, .inl (g.2.1.1, 160, .inl fz))]) hK hP hD hS hA hE [11] rfl rfl) rfl rfl hl.1 rfl (lv_room (Nat.le_of_ble_eq_true rfl)) dX6_fewest_119 ⟨Nat.zero_le _, Nat.zero_le _⟩) hP hD hS hA rfl (fun r_5 w_5 H locs hp hP hD hS => ?_)
                      obtain ⟨rfl, rfl⟩ := hp
                      have hP : va_P g.1 vwCl [(x0, .inr (8, [.ref yn, .ref ys, .int iS, .ref xc, .ref xs, .ref xt, .ref xr, .ref xf, .ref xh, .ref xi])), (yn, .inr (7, [.ref am, .ref ac, .ref as_, .ref atx])), (am, .inr (2, [.ref mka, .ref mva, .ref mra, .int (nI nM)])), (mka, .inl (g.2.1.1, 160, .inl fMk)), (mva, .inl (g.2.1.1, 160, .inl fMv)), (mra, .inl (g.2.1.1, 160, .inl fMr)), (ac, .inr (2, [.ref cka, .ref cva, .ref cra, .int (nI nC)])), (cka, .inl (g.2.1.1, 160, .inl gk)), (cva, .inl (g.2.1.1, 160, .inl gv)), (cra, .inl (g.2.1.1, 160, .inl gr)), (xr, .inr (4, [.int (nI (gw0 (kap M) nM f9 b.toInt).1), .int (nI ((gw0 (kap M) nM f9 b.toInt).2.1.toNat / Nat.gcd (gw0 (kap M) nM f9 b.toInt).2.2.toNat (gw0 (kap M) nM f9 b.toInt).2.1.toNat)), .int (nI ((gw0 (kap M) nM f9 b.toInt).2.2.toNat / Nat.gcd (gw0 (kap M) nM f9 b.toInt).2.2.toNat (gw0 (kap M) nM f9 b.toInt).2.1.toNat)), .int x4_3, .int x5_3])), (xf, .inl (g.2.1.1, 160, .inl fz))] H := hP
                      have hD : va_D A [(x0, .inr (8, [.ref yn, .ref ys, .int iS, .ref xc, .ref xs, .ref xt, .ref xr, .ref xf, .ref xh, .ref xi])), (yn, .inr (7, [.ref am, .ref ac, .ref as_, .ref atx])), (am, .inr (2, [.ref mka, .ref mva, .ref mra, .int (nI nM)])), (mka, .inl (g.2.1.1, 160, .inl fMk)), (mva, .inl (g.2.1.1, 160, .inl fMv)), (mra, .inl (g.2.1.1, 160, .inl fMr)), (ac, .inr (2, [.ref cka, .ref cva, .ref cra, .int (nI nC)])), (cka, .inl (g.2.1.1, 160, .inl gk)), (cva, .inl (g.2.1.1, 160, .inl gv)), (cra, .inl (g.2.1.1, 160, .inl gr)), (xr, .inr (4, [.int (nI (gw0 (kap M) nM f9 b.toInt).1), .int (nI ((gw0 (kap M) nM f9 b.toInt).2.1.toNat / Nat.gcd (gw0 (kap M) nM f9 b.toInt).2.2.toNat (gw0 (kap M) nM f9 b.toInt).2.1.toNat)), .int (nI ((gw0 (kap M) nM f9 b.toInt).2.2.toNat / Nat.gcd (gw0 (kap M) nM f9 b.toInt).2.2.toNat (gw0 (kap M) nM f9 b.toInt).2.1.toNat)), .int x4_3, .int x5_3])), (xf, .inl (g.2.1.1, 160, .inl fz))] := hD
                      rw [show (kcell 160 fz (nI t9) : Int32) = nI (fseq (fun f => (gw0 (kap M) nM f b.toInt).1) id f9 t9) from by rw [kcell_nI _ (by decide) (by omega), hfp t9 (by omega), hpt]]
                      refine va_mmin hx hb (hml.trans hl.1.symm) hown (hts (.methodLink RX6 244 Lib.Math.min.name) (by decide +kernel)) (hts (.static Lib.Math.min.name) (by decide +kernel)) (hts (.initialized "java/lang/Math") (by decide +kernel)) (hts (.code Lib.Math.min.name Lib.Math.min.code 2 (some .int)) (by decide +kernel)) (Nat.le_of_ble_eq_true rfl) (Nat.le_of_ble_eq_true rfl) (Nat.zero_le _) (Nat.zero_le _) dX6_fewest_122 ?_
                      rw [show (if (nI (fseq (fun f => (gw0 (kap M) nM f b.toInt).1) id f9 t9)) < (nI (fseq (fun f => (gw0 (kap M) nM f b.toInt).1) id f9 f9 + 1)) then (nI (fseq (fun f => (gw0 (kap M) nM f b.toInt).1) id f9 t9)) else (nI (fseq (fun f => (gw0 (kap M) nM f b.toInt).1) id f9 f9 + 1)) : Int32) = nI (min (fseq (fun f => (gw0 (kap M) nM f b.toInt).1) id f9 f9 + 1) (fseq (fun f => (gw0 (kap M) nM f b.toInt).1) id f9 t9)) from min_I (by have := hsl f9; omega) (by have := hsl t9; omega)]
                      refine kcallv (wc := [(xf, .inl (g.2.1.1, 160, .inl fz))]) [11] (va_runS (As := [.ref xf, .int (nI t9), .int (nI (min (fseq (fun f => (gw0 (kap M) nM f b.toInt).1) id f9 f9 + 1) (fseq (fun f => (gw0 (kap M) nM f b.toInt).1) id f9 t9)))]) (rest := []) ⟨hx, hb, hml, hown, hts⟩ ((c_X6_store l g xf 160 fz (nI t9) (nI (min (fseq (fun f => (gw0 (kap M) nM f b.toInt).1) id f9 f9 + 1) (fseq (fun f => (gw0 (kap M) nM f b.toInt).1) id f9 t9))) (by decide)) _) (va_cwS 3 hts gX6_fewest_X6_store rfl rfl rfl (by decide +kernel) ⟨Nat.le_of_ble_eq_true rfl, Nat.le_of_ble_eq_true rfl⟩) (kpreS (wc := [(xf, .inl (g.2.1.1, 160, .inl fz))]) hK hP hD hS hA hE [11] rfl rfl) rfl rfl hl.1 rfl (lv_room (Nat.le_of_ble_eq_true rfl)) dX6_fewest_125 ⟨Nat.zero_le _, Nat.zero_le _⟩) hP hD hS hA rfl (fun w_6 H locs hp hP hD hS => ?_)
                      obtain rfl := hp
                      have hP : va_P g.1 vwCl [(x0, .inr (8, [.ref yn, .ref ys, .int iS, .ref xc, .ref xs, .ref xt, .ref xr, .ref xf, .ref xh, .ref xi])), (yn, .inr (7, [.ref am, .ref ac, .ref as_, .ref atx])), (am, .inr (2, [.ref mka, .ref mva, .ref mra, .int (nI nM)])), (mka, .inl (g.2.1.1, 160, .inl fMk)), (mva, .inl (g.2.1.1, 160, .inl fMv)), (mra, .inl (g.2.1.1, 160, .inl fMr)), (ac, .inr (2, [.ref cka, .ref cva, .ref cra, .int (nI nC)])), (cka, .inl (g.2.1.1, 160, .inl gk)), (cva, .inl (g.2.1.1, 160, .inl gv)), (cra, .inl (g.2.1.1, 160, .inl gr)), (xr, .inr (4, [.int (nI (gw0 (kap M) nM f9 b.toInt).1), .int (nI ((gw0 (kap M) nM f9 b.toInt).2.1.toNat / Nat.gcd (gw0 (kap M) nM f9 b.toInt).2.2.toNat (gw0 (kap M) nM f9 b.toInt).2.1.toNat)), .int (nI ((gw0 (kap M) nM f9 b.toInt).2.2.toNat / Nat.gcd (gw0 (kap M) nM f9 b.toInt).2.2.toNat (gw0 (kap M) nM f9 b.toInt).2.1.toNat)), .int x4_3, .int x5_3])), (xf, .inl (g.2.1.1, 160, .inl (kstore 160 fz (nI t9) (nI (min (fseq (fun f => (gw0 (kap M) nM f b.toInt).1) id f9 f9 + 1) (fseq (fun f => (gw0 (kap M) nM f b.toInt).1) id f9 t9))))))] H := hP
                      have hD : va_D A [(x0, .inr (8, [.ref yn, .ref ys, .int iS, .ref xc, .ref xs, .ref xt, .ref xr, .ref xf, .ref xh, .ref xi])), (yn, .inr (7, [.ref am, .ref ac, .ref as_, .ref atx])), (am, .inr (2, [.ref mka, .ref mva, .ref mra, .int (nI nM)])), (mka, .inl (g.2.1.1, 160, .inl fMk)), (mva, .inl (g.2.1.1, 160, .inl fMv)), (mra, .inl (g.2.1.1, 160, .inl fMr)), (ac, .inr (2, [.ref cka, .ref cva, .ref cra, .int (nI nC)])), (cka, .inl (g.2.1.1, 160, .inl gk)), (cva, .inl (g.2.1.1, 160, .inl gv)), (cra, .inl (g.2.1.1, 160, .inl gr)), (xr, .inr (4, [.int (nI (gw0 (kap M) nM f9 b.toInt).1), .int (nI ((gw0 (kap M) nM f9 b.toInt).2.1.toNat / Nat.gcd (gw0 (kap M) nM f9 b.toInt).2.2.toNat (gw0 (kap M) nM f9 b.toInt).2.1.toNat)), .int (nI ((gw0 (kap M) nM f9 b.toInt).2.2.toNat / Nat.gcd (gw0 (kap M) nM f9 b.toInt).2.2.toNat (gw0 (kap M) nM f9 b.toInt).2.1.toNat)), .int x4_3, .int x5_3])), (xf, .inl (g.2.1.1, 160, .inl (kstore 160 fz (nI t9) (nI (min (fseq (fun f => (gw0 (kap M) nM f b.toInt).1) id f9 f9 + 1) (fseq (fun f => (gw0 (kap M) nM f b.toInt).1) id f9 t9))))))] := hD
                      refine lv_iinc (v := nI (t9 + 1)) (lv' := [(5, .int (nI (t9 + 1))), (4, .int (nI (fseq (fun f => (gw0 (kap M) nM f b.toInt).1) id f9 f9 + 1))), (3, .int (nI f9)), (2, .int (nI nM)), (0, .ref x0), (1, .int b)]) hx hb dX6_fewest_128 hl (k := 0) rfl (nI_1 t9) (by decide) rfl (fun ls hl => ?_)
                      refine lv_goto (tgt := 91) hx hb dX6_fewest_131 (by decide) ?_
                      exact ih91 (t9 + 1) (kstore 160 fz (nI t9) (nI (min (fseq (fun f => (gw0 (kap M) nM f b.toInt).1) id f9 f9 + 1) (fseq (fun f => (gw0 (kap M) nM f b.toInt).1) id f9 t9)))) _ _ ls (⟨by omega, by omega⟩) (by intro j hj; rw [kstore_nI _ _ (by decide) (by omega)]; simp only [upd, fpart]; by_cases z : j = t9; (rw [if_pos z, if_pos (by omega), z]); (rw [if_neg z, hfp j hj, fpart]; congr 1; by_cases z2 : f9 < j ∧ j < t9; (rw [if_pos z2, if_pos (by omega)]); (rw [if_neg z2, if_neg (by omega)]))) (by omega) hP hD hS (lv_sub hl [0, 1, 2, 3, 4, 5] rfl)
                exact L91 _ (f9 + 1) fz _ _ ls (⟨by omega, by omega⟩) (fun j hj => by rw [fpart_0]; exact hff j hj) (Nat.lt_succ_self _) hP hD hS (lv_sub hl [0, 1, 2, 3, 4, 5] rfl)
          exact L53 _ 0 r1 r2 r3 r4 r5 fz _ _ ls (Nat.zero_le _) hff0 (Nat.lt_succ_self _) hP hD hS (lv_sub hl [0, 1, 2, 3] rfl)
        · skip
          have hen : e9 ≤ nM := by rw [nI_ltI (by omega) (by omega)] at c_33; omega
          refine lv_aload_n hx hb dX6_fewest_36 rfl (lv_at hl 2 rfl) ?_
          refine va_get (D := g.1) (ci := 8) (v := .ref xf) (C := RX6) (T := TX6) (N := 10) hx hb hts (by decide +kernel) hown hK hP 0 rfl rfl 7 (by decide) (hts (.fieldLink RX6 47 "LearnedIndex" "fewestRuns" "[I") (by decide +kernel)) (fun _ h9 => h9) rfl dX6_fewest_37 ?_
          refine lv_iload_n hx hb dX6_fewest_40 rfl (lv_at hl 0 rfl) ?_
          refine lv_iload_n hx hb dX6_fewest_41 rfl (lv_at hl 0 rfl) ?_
          refine kcallv (wc := [(xf, .inl (g.2.1.1, 160, .inl fz))]) [11] (va_runS (As := [.ref xf, .int (nI e9), .int (nI e9)]) (rest := []) ⟨hx, hb, hml, hown, hts⟩ ((c_X6_store l g xf 160 fz (nI e9) (nI e9) (by decide)) _) (va_cwS 3 hts gX6_fewest_X6_store rfl rfl rfl (by decide +kernel) ⟨Nat.le_of_ble_eq_true rfl, Nat.le_of_ble_eq_true rfl⟩) (kpreS (wc := [(xf, .inl (g.2.1.1, 160, .inl fz))]) hK hP hD hS hA hE [11] rfl rfl) rfl rfl hl.1 rfl (lv_room (Nat.le_of_ble_eq_true rfl)) dX6_fewest_42 ⟨Nat.zero_le _, Nat.zero_le _⟩) hP hD hS hA rfl (fun w_7 H locs hp hP hD hS => ?_)
          obtain rfl := hp
          have hP : va_P g.1 vwCl [(x0, .inr (8, [.ref yn, .ref ys, .int iS, .ref xc, .ref xs, .ref xt, .ref xr, .ref xf, .ref xh, .ref xi])), (yn, .inr (7, [.ref am, .ref ac, .ref as_, .ref atx])), (am, .inr (2, [.ref mka, .ref mva, .ref mra, .int (nI nM)])), (mka, .inl (g.2.1.1, 160, .inl fMk)), (mva, .inl (g.2.1.1, 160, .inl fMv)), (mra, .inl (g.2.1.1, 160, .inl fMr)), (ac, .inr (2, [.ref cka, .ref cva, .ref cra, .int (nI nC)])), (cka, .inl (g.2.1.1, 160, .inl gk)), (cva, .inl (g.2.1.1, 160, .inl gv)), (cra, .inl (g.2.1.1, 160, .inl gr)), (xr, .inr (4, [.int r1, .int r2, .int r3, .int r4, .int r5])), (xf, .inl (g.2.1.1, 160, .inl (kstore 160 fz (nI e9) (nI e9))))] H := hP
          have hD : va_D A [(x0, .inr (8, [.ref yn, .ref ys, .int iS, .ref xc, .ref xs, .ref xt, .ref xr, .ref xf, .ref xh, .ref xi])), (yn, .inr (7, [.ref am, .ref ac, .ref as_, .ref atx])), (am, .inr (2, [.ref mka, .ref mva, .ref mra, .int (nI nM)])), (mka, .inl (g.2.1.1, 160, .inl fMk)), (mva, .inl (g.2.1.1, 160, .inl fMv)), (mra, .inl (g.2.1.1, 160, .inl fMr)), (ac, .inr (2, [.ref cka, .ref cva, .ref cra, .int (nI nC)])), (cka, .inl (g.2.1.1, 160, .inl gk)), (cva, .inl (g.2.1.1, 160, .inl gv)), (cra, .inl (g.2.1.1, 160, .inl gr)), (xr, .inr (4, [.int r1, .int r2, .int r3, .int r4, .int r5])), (xf, .inl (g.2.1.1, 160, .inl (kstore 160 fz (nI e9) (nI e9))))] := hD
          refine lv_iinc (v := nI (e9 + 1)) (lv' := [(3, .int (nI (e9 + 1))), (2, .int (nI nM)), (0, .ref x0), (1, .int b)]) hx hb dX6_fewest_45 hl (k := 0) rfl (nI_1 e9) (by decide) rfl (fun ls hl => ?_)
          refine lv_goto (tgt := 31) hx hb dX6_fewest_48 (by decide) ?_
          exact ih31 (e9 + 1) (kstore 160 fz (nI e9) (nI e9)) _ _ ls (by omega) (by intro j hj; rw [kstore_nI _ _ (by decide) (by omega)]; simp only [upd]; split; (rename_i z; rw [z]); exact hfi j (by omega)) (by omega) hP hD hS (lv_sub hl [0, 1, 2, 3] rfl)
    exact L31 _ 0 ff _ _ ls (Nat.zero_le _) (fun j hj => absurd hj (Nat.not_lt_zero _)) (Nat.lt_succ_self _) hP hD hS (lv_sub hl [0, 1, 2, 3] rfl)
  · skip
    have hst : stV 0 b = false := (kbool_eq _).mp c_5
    exact kthrS (own := RX6) (cls := "java/lang/IllegalArgumentException") (text := "the bound is out of range") (names := ["java/lang/RuntimeException", "java/lang/Exception"]) hx hb htr hown (by decide +kernel) (hts (.classLink RX6 128 "java/lang/IllegalArgumentException") (by decide +kernel)) (hts (.initialized "java/lang/IllegalArgumentException") (by decide +kernel)) (hE.2.2.2.2.2.1 _ (List.mem_of_getElem? (i := 11) rfl)) (fun w9 h9 => hts w9 (List.mem_cons_of_mem _ (List.mem_append_left _ (List.mem_append_left _ (List.mem_append_right _ h9))))) (by decide +kernel) (by decide +kernel) hE hT0 hlk hK hP hD hS rfl (hl.1.trans hml.symm) dX6_fewest_8 dX6_fewest_11 dX6_fewest_12 dX6_fewest_14 dX6_fewest_17 ⟨⟨Nat.le_of_ble_eq_true rfl, Nat.le_of_ble_eq_true rfl⟩, ⟨Nat.le_of_ble_eq_true rfl, Nat.le_of_ble_eq_true rfl⟩, ⟨Nat.le_of_ble_eq_true rfl, Nat.le_of_ble_eq_true rfl⟩⟩ (⟨rfl, by rw [fewK, if_neg (by rw [hst]; decide)], rfl⟩)
set_option maxRecDepth 20000 in
theorem ggX6_leastBound_X6_cell : GoodIn wsX6_leastBound wsX6_cell := goodIn_ca (goodIn_r _ [13] (by decide +kernel) (by decide +kernel)) (goodIn_sub (fun _ h => List.mem_cons_of_mem _ (List.mem_append_left _ (List.mem_append_right _ h))) (by decide +kernel))
set_option maxRecDepth 20000 in
theorem gX6_leastBound_X6_cell : GoodIn wsX6_leastBound (va_wsS RX6 124 yX6_cell wsX6_cell) := goodIn_app (goodIn_of _ (by decide +kernel)) ggX6_leastBound_X6_cell
set_option maxRecDepth 20000 in
theorem ggX6_leastBound_X4_build : GoodIn wsX6_leastBound wsX4_build := goodIn_ca (goodIn_ca (goodIn_r _ [18, 19, 20, 21, 22, 23, 24, 25, 26, 27, 28, 29, 30, 31, 32, 33, 34, 35, 36, 37, 38, 39, 40, 11, 12, 13, 41, 42, 43, 44, 45, 46, 47, 48, 49, 50, 51, 52, 53, 54, 69, 70, 71, 72, 73, 74, 75, 76, 77, 78, 79, 80, 81, 82, 83] (by decide +kernel) (by decide +kernel)) (goodIn_sub (fun _ h => List.mem_cons_of_mem _ (List.mem_append_left _ (List.mem_append_right _ h))) (by decide +kernel))) (goodIn_sub (fun _ h => List.mem_cons_of_mem _ (List.mem_append_right _ h)) (by decide +kernel))
set_option maxRecDepth 20000 in
theorem gX6_leastBound_X4_build : GoodIn wsX6_leastBound (wsV RX6 140 RX4 yX4_build wsX4_build) := goodIn_app (goodIn_of _ (by decide +kernel)) ggX6_leastBound_X4_build
theorem dX6_leastBound_0 : decode cX6_leastBound 0 = .ok (.iload_n 1, 1) := by decide +kernel
theorem dX6_leastBound_1 : decode cX6_leastBound 1 = .ok (.ifCond .ge 13, 3) := by decide +kernel
theorem dX6_leastBound_4 : decode cX6_leastBound 4 = .ok (.new 128, 3) := by decide +kernel
theorem dX6_leastBound_7 : decode cX6_leastBound 7 = .ok (.dup, 1) := by decide +kernel
theorem dX6_leastBound_8 : decode cX6_leastBound 8 = .ok (.ldc 247, 2) := by decide +kernel
theorem dX6_leastBound_10 : decode cX6_leastBound 10 = .ok (.invokespecial 132, 3) := by decide +kernel
theorem dX6_leastBound_13 : decode cX6_leastBound 13 = .ok (.athrow, 1) := by decide +kernel
theorem dX6_leastBound_14 : decode cX6_leastBound 14 = .ok (.getstatic 249, 3) := by decide +kernel
theorem dX6_leastBound_17 : decode cX6_leastBound 17 = .ok (.iconst 0, 1) := by decide +kernel
theorem dX6_leastBound_18 : decode cX6_leastBound 18 = .ok (.invokestatic 124, 3) := by decide +kernel
theorem dX6_leastBound_21 : decode cX6_leastBound 21 = .ok (.istore_n 2, 1) := by decide +kernel
theorem dX6_leastBound_22 : decode cX6_leastBound 22 = .ok (.iload_n 2, 1) := by decide +kernel
theorem dX6_leastBound_23 : decode cX6_leastBound 23 = .ok (.getstatic 252, 3) := by decide +kernel
theorem dX6_leastBound_26 : decode cX6_leastBound 26 = .ok (.iconst 0, 1) := by decide +kernel
theorem dX6_leastBound_27 : decode cX6_leastBound 27 = .ok (.invokestatic 124, 3) := by decide +kernel
theorem dX6_leastBound_30 : decode cX6_leastBound 30 = .ok (.if_icmp .gt 41, 3) := by decide +kernel
theorem dX6_leastBound_33 : decode cX6_leastBound 33 = .ok (.aload_n 0, 1) := by decide +kernel
theorem dX6_leastBound_34 : decode cX6_leastBound 34 = .ok (.getfield 37, 3) := by decide +kernel
theorem dX6_leastBound_37 : decode cX6_leastBound 37 = .ok (.aload_n 0, 1) := by decide +kernel
theorem dX6_leastBound_38 : decode cX6_leastBound 38 = .ok (.getfield 10, 3) := by decide +kernel
theorem dX6_leastBound_41 : decode cX6_leastBound 41 = .ok (.getfield 113, 3) := by decide +kernel
theorem dX6_leastBound_44 : decode cX6_leastBound 44 = .ok (.iload_n 2, 1) := by decide +kernel
theorem dX6_leastBound_45 : decode cX6_leastBound 45 = .ok (.aload_n 0, 1) := by decide +kernel
theorem dX6_leastBound_46 : decode cX6_leastBound 46 = .ok (.getfield 43, 3) := by decide +kernel
theorem dX6_leastBound_49 : decode cX6_leastBound 49 = .ok (.invokevirtual 140, 3) := by decide +kernel
theorem dX6_leastBound_52 : decode cX6_leastBound 52 = .ok (.aload_n 0, 1) := by decide +kernel
theorem dX6_leastBound_53 : decode cX6_leastBound 53 = .ok (.getfield 37, 3) := by decide +kernel
theorem dX6_leastBound_56 : decode cX6_leastBound 56 = .ok (.getfield 120, 3) := by decide +kernel
theorem dX6_leastBound_59 : decode cX6_leastBound 59 = .ok (.iload_n 1, 1) := by decide +kernel
theorem dX6_leastBound_60 : decode cX6_leastBound 60 = .ok (.if_icmp .gt 5, 3) := by decide +kernel
theorem dX6_leastBound_63 : decode cX6_leastBound 63 = .ok (.iload_n 2, 1) := by decide +kernel
theorem dX6_leastBound_64 : decode cX6_leastBound 64 = .ok (.ireturn, 1) := by decide +kernel
theorem dX6_leastBound_65 : decode cX6_leastBound 65 = .ok (.iinc 2 1, 3) := by decide +kernel
theorem dX6_leastBound_68 : decode cX6_leastBound 68 = .ok (.goto (-46), 3) := by decide +kernel
theorem dX6_leastBound_71 : decode cX6_leastBound 71 = .ok (.new 98, 3) := by decide +kernel
theorem dX6_leastBound_74 : decode cX6_leastBound 74 = .ok (.dup, 1) := by decide +kernel
theorem dX6_leastBound_75 : decode cX6_leastBound 75 = .ok (.ldc 255, 2) := by decide +kernel
theorem dX6_leastBound_77 : decode cX6_leastBound 77 = .ok (.invokespecial 102, 3) := by decide +kernel
theorem dX6_leastBound_80 : decode cX6_leastBound 80 = .ok (.athrow, 1) := by decide +kernel
def rm_X6_leastBound : Room := { frames := 6, cells := 1, slots := 6, locals := 95 }
abbrev p_X6_leastBound (g : kG) (x0 : Nat) (yn : Nat) (ys : Nat) (iS : Int32) (xc : Nat) (xs : Nat) (xt : Nat) (xr : Nat) (xf : Nat) (xh : Nat) (xi : Nat) (am : Nat) (ac : Nat) (as_ : Nat) (atx : Nat) (mka : Nat) (mva : Nat) (mra : Nat) (nM : Nat) (fMk : Nat → Int32) (fMv : Nat → Int32) (fMr : Nat → Int32) (cka : Nat) (cva : Nat) (cra : Nat) (nC : Nat) (gk : Nat → Int32) (gv : Nat → Int32) (gr : Nat → Int32) (r1 : Int32) (r2 : Int32) (r3 : Int32) (r4 : Int32) (r5 : Int32) (t1 : Nat) (t2 : Nat) (t3 : Nat) (t4 : Nat) (t5 : Nat) (mT : Int32) (o1 : Nat → Int32) (o2 : Nat → Int32) (o3 : Nat → Int32) (o4 : Nat → Int32) (o5 : Nat → Int32) (M : List kE3) (C : List kE3) (y : Int32) : Int32 → va_W → Prop := fun r w1 => ∃ (mt2 : Int32), ∃ (b1 : Nat → Int32), ∃ (b2 : Nat → Int32), ∃ (b3 : Nat → Int32), ∃ (b4 : Nat → Int32), ∃ (b5 : Nat → Int32), ∃ (x1 : Int32), ∃ (x2 : Int32), ∃ (x3 : Int32), ∃ (x4 : Int32), ∃ (x5 : Int32), r = nI (lbS M y) ∧ (lbK M y = 0) ∧ w1 = [(x0, .inr (8, [.ref yn, .ref ys, .int iS, .ref xc, .ref xs, .ref xt, .ref xr, .ref xf, .ref xh, .ref xi])), (yn, .inr (7, [.ref am, .ref ac, .ref as_, .ref atx])), (am, .inr (2, [.ref mka, .ref mva, .ref mra, .int (nI nM)])), (mka, .inl (g.2.1.1, 160, .inl fMk)), (mva, .inl (g.2.1.1, 160, .inl fMv)), (mra, .inl (g.2.1.1, 160, .inl fMr)), (ac, .inr (2, [.ref cka, .ref cva, .ref cra, .int (nI nC)])), (cka, .inl (g.2.1.1, 160, .inl gk)), (cva, .inl (g.2.1.1, 160, .inl gv)), (cra, .inl (g.2.1.1, 160, .inl gr)), (xr, .inr (4, [.int x1, .int x2, .int x3, .int x4, .int x5])), (xt, .inr (6, [.ref t1, .ref t2, .ref t3, .ref t4, .ref t5, .int mt2])), (t1, .inl (g.2.1.1, 160, .inl b1)), (t2, .inl (g.2.1.1, 160, .inl b2)), (t3, .inl (g.2.1.1, 160, .inl b3)), (t4, .inl (g.2.1.1, 160, .inl b4)), (t5, .inl (g.2.1.1, 160, .inl b5))]
abbrev x_X6_leastBound (g : kG) (x0 : Nat) (yn : Nat) (ys : Nat) (iS : Int32) (xc : Nat) (xs : Nat) (xt : Nat) (xr : Nat) (xf : Nat) (xh : Nat) (xi : Nat) (am : Nat) (ac : Nat) (as_ : Nat) (atx : Nat) (mka : Nat) (mva : Nat) (mra : Nat) (nM : Nat) (fMk : Nat → Int32) (fMv : Nat → Int32) (fMr : Nat → Int32) (cka : Nat) (cva : Nat) (cra : Nat) (nC : Nat) (gk : Nat → Int32) (gv : Nat → Int32) (gr : Nat → Int32) (r1 : Int32) (r2 : Int32) (r3 : Int32) (r4 : Int32) (r5 : Int32) (t1 : Nat) (t2 : Nat) (t3 : Nat) (t4 : Nat) (t5 : Nat) (mT : Int32) (o1 : Nat → Int32) (o2 : Nat → Int32) (o3 : Nat → Int32) (o4 : Nat → Int32) (o5 : Nat → Int32) (M : List kE3) (C : List kE3) (y : Int32) : String → va_W → Prop := fun E w1 => (E = "java/lang/IllegalArgumentException" ∧ (lbK M y = 1) ∧ w1 = [(x0, .inr (8, [.ref yn, .ref ys, .int iS, .ref xc, .ref xs, .ref xt, .ref xr, .ref xf, .ref xh, .ref xi])), (yn, .inr (7, [.ref am, .ref ac, .ref as_, .ref atx])), (am, .inr (2, [.ref mka, .ref mva, .ref mra, .int (nI nM)])), (mka, .inl (g.2.1.1, 160, .inl fMk)), (mva, .inl (g.2.1.1, 160, .inl fMv)), (mra, .inl (g.2.1.1, 160, .inl fMr)), (ac, .inr (2, [.ref cka, .ref cva, .ref cra, .int (nI nC)])), (cka, .inl (g.2.1.1, 160, .inl gk)), (cva, .inl (g.2.1.1, 160, .inl gv)), (cra, .inl (g.2.1.1, 160, .inl gr)), (xr, .inr (4, [.int r1, .int r2, .int r3, .int r4, .int r5])), (xt, .inr (6, [.ref t1, .ref t2, .ref t3, .ref t4, .ref t5, .int mT])), (t1, .inl (g.2.1.1, 160, .inl o1)), (t2, .inl (g.2.1.1, 160, .inl o2)), (t3, .inl (g.2.1.1, 160, .inl o3)), (t4, .inl (g.2.1.1, 160, .inl o4)), (t5, .inl (g.2.1.1, 160, .inl o5))]) ∨ (∃ (mt2 : Int32), ∃ (b1 : Nat → Int32), ∃ (b2 : Nat → Int32), ∃ (b3 : Nat → Int32), ∃ (b4 : Nat → Int32), ∃ (b5 : Nat → Int32), ∃ (x1 : Int32), ∃ (x2 : Int32), ∃ (x3 : Int32), ∃ (x4 : Int32), ∃ (x5 : Int32), E = "java/util/NoSuchElementException" ∧ (lbK M y = 2) ∧ w1 = [(x0, .inr (8, [.ref yn, .ref ys, .int iS, .ref xc, .ref xs, .ref xt, .ref xr, .ref xf, .ref xh, .ref xi])), (yn, .inr (7, [.ref am, .ref ac, .ref as_, .ref atx])), (am, .inr (2, [.ref mka, .ref mva, .ref mra, .int (nI nM)])), (mka, .inl (g.2.1.1, 160, .inl fMk)), (mva, .inl (g.2.1.1, 160, .inl fMv)), (mra, .inl (g.2.1.1, 160, .inl fMr)), (ac, .inr (2, [.ref cka, .ref cva, .ref cra, .int (nI nC)])), (cka, .inl (g.2.1.1, 160, .inl gk)), (cva, .inl (g.2.1.1, 160, .inl gv)), (cra, .inl (g.2.1.1, 160, .inl gr)), (xr, .inr (4, [.int x1, .int x2, .int x3, .int x4, .int x5])), (xt, .inr (6, [.ref t1, .ref t2, .ref t3, .ref t4, .ref t5, .int mt2])), (t1, .inl (g.2.1.1, 160, .inl b1)), (t2, .inl (g.2.1.1, 160, .inl b2)), (t3, .inl (g.2.1.1, 160, .inl b3)), (t4, .inl (g.2.1.1, 160, .inl b4)), (t5, .inl (g.2.1.1, 160, .inl b5))])
set_option maxHeartbeats 4000000 in
set_option maxRecDepth 100000 in
theorem c_X6_leastBound (l : Launch) (g : kG) (htr : l.stackTraces = false) (x0 : Nat) (yn : Nat) (ys : Nat) (iS : Int32) (xc : Nat) (xs : Nat) (xt : Nat) (xr : Nat) (xf : Nat) (xh : Nat) (xi : Nat) (am : Nat) (ac : Nat) (as_ : Nat) (atx : Nat) (mka : Nat) (mva : Nat) (mra : Nat) (nM : Nat) (fMk : Nat → Int32) (fMv : Nat → Int32) (fMr : Nat → Int32) (cka : Nat) (cva : Nat) (cra : Nat) (nC : Nat) (gk : Nat → Int32) (gv : Nat → Int32) (gr : Nat → Int32) (r1 : Int32) (r2 : Int32) (r3 : Int32) (r4 : Int32) (r5 : Int32) (t1 : Nat) (t2 : Nat) (t3 : Nat) (t4 : Nat) (t5 : Nat) (mT : Int32) (o1 : Nat → Int32) (o2 : Nat → Int32) (o3 : Nat → Int32) (o4 : Nat → Int32) (o5 : Nat → Int32) (M : List kE3) (C : List kE3) (y : Int32) (hMC : kMC nM fMk fMv fMr nC gk gv gr M C) : XI l yX6_leastBound wsX6_leastBound rm_X6_leastBound g [.ref x0, .int y] [(x0, .inr (8, [.ref yn, .ref ys, .int iS, .ref xc, .ref xs, .ref xt, .ref xr, .ref xf, .ref xh, .ref xi])), (yn, .inr (7, [.ref am, .ref ac, .ref as_, .ref atx])), (am, .inr (2, [.ref mka, .ref mva, .ref mra, .int (nI nM)])), (mka, .inl (g.2.1.1, 160, .inl fMk)), (mva, .inl (g.2.1.1, 160, .inl fMv)), (mra, .inl (g.2.1.1, 160, .inl fMr)), (ac, .inr (2, [.ref cka, .ref cva, .ref cra, .int (nI nC)])), (cka, .inl (g.2.1.1, 160, .inl gk)), (cva, .inl (g.2.1.1, 160, .inl gv)), (cra, .inl (g.2.1.1, 160, .inl gr)), (xr, .inr (4, [.int r1, .int r2, .int r3, .int r4, .int r5])), (xt, .inr (6, [.ref t1, .ref t2, .ref t3, .ref t4, .ref t5, .int mT])), (t1, .inl (g.2.1.1, 160, .inl o1)), (t2, .inl (g.2.1.1, 160, .inl o2)), (t3, .inl (g.2.1.1, 160, .inl o3)), (t4, .inl (g.2.1.1, 160, .inl o4)), (t5, .inl (g.2.1.1, 160, .inl o5))] 1 6 (p_X6_leastBound g x0 yn ys iS xc xs xt xr xf xh xi am ac as_ atx mka mva mra nM fMk fMv fMr cka cva cra nC gk gv gr r1 r2 r3 r4 r5 t1 t2 t3 t4 t5 mT o1 o2 o3 o4 o5 M C y) (x_X6_leastBound g x0 yn ys iS xc xs xt xr xf xh xi am ac as_ atx mka mva mra nM fMk fMv fMr cka cva cra nC gk gv gr r1 r2 r3 r4 r5 t1 t2 t3 t4 t5 mT o1 o2 o3 o4 o5 M C y) := by
  refine kxbodyI (cc := cX6_leastBound) (n := 3) (k := 17) (own := RX6) (by decide) rfl rfl rfl rfl ?_
  intro p e s m below meth cd A ls hT0 hcx
  obtain ⟨hx, hb, hRt, hml, hts, hown, hlk, hA, hP, hK, hD, hE, hS, hl⟩ := hcx
  have hl : lv_has ls 3 [(0, .ref x0), (1, .int y)] := hl
  obtain ⟨⟨hM, hC⟩, ⟨hnM, hnC⟩, ⟨hIM, hIC⟩, hlen⟩ := id hMC
  have hcl : nC = C.length := by rw [← hC, EL_len]
  have hnl : nM = M.length := by rw [← hM, EL_len]
  refine lv_iload_n hx hb dX6_leastBound_0 rfl (lv_at hl 1 rfl) ?_
  refine lv_if_ge (tgt := 14) hx hb dX6_leastBound_1 (by decide) (fun c_1 => ?_) (fun c_1 => ?_)
  · skip
    refine va_gets hx hb hE.2.1.2.1.1 hS hown (hts (.fieldLink RX6 249 "LearnedIndex" "LEAST_SETTINGS" "[I") (by decide +kernel)) (fun _ h9 => h9) dX6_leastBound_14 ?_
    refine lv_iconst (v := 0) hx hb dX6_leastBound_17 (by decide) ?_
    refine kcalli (wc := []) [] (va_runS (As := [.ref g.2.2.2.1, .int 0]) (rest := []) ⟨hx, hb, hml, hown, hts⟩ ((c_X6_cellL l g 0) _) (va_cwS 2 hts gX6_leastBound_X6_cell rfl rfl rfl (by decide +kernel) ⟨Nat.le_of_ble_eq_true rfl, Nat.le_of_ble_eq_true rfl⟩) (kpreS (wc := []) hK hP hD hS hA hE [] rfl rfl) rfl rfl hl.1 rfl (lv_room (Nat.le_of_ble_eq_true rfl)) dX6_leastBound_18 ⟨Nat.zero_le _, Nat.zero_le _⟩) hP hD hS hA rfl (fun r_1 w_1 H locs hp hP hD hS => ?_)
    obtain ⟨rfl, rfl⟩ := hp
    have hP : va_P g.1 vwCl [(x0, .inr (8, [.ref yn, .ref ys, .int iS, .ref xc, .ref xs, .ref xt, .ref xr, .ref xf, .ref xh, .ref xi])), (yn, .inr (7, [.ref am, .ref ac, .ref as_, .ref atx])), (am, .inr (2, [.ref mka, .ref mva, .ref mra, .int (nI nM)])), (mka, .inl (g.2.1.1, 160, .inl fMk)), (mva, .inl (g.2.1.1, 160, .inl fMv)), (mra, .inl (g.2.1.1, 160, .inl fMr)), (ac, .inr (2, [.ref cka, .ref cva, .ref cra, .int (nI nC)])), (cka, .inl (g.2.1.1, 160, .inl gk)), (cva, .inl (g.2.1.1, 160, .inl gv)), (cra, .inl (g.2.1.1, 160, .inl gr)), (xr, .inr (4, [.int r1, .int r2, .int r3, .int r4, .int r5])), (xt, .inr (6, [.ref t1, .ref t2, .ref t3, .ref t4, .ref t5, .int mT])), (t1, .inl (g.2.1.1, 160, .inl o1)), (t2, .inl (g.2.1.1, 160, .inl o2)), (t3, .inl (g.2.1.1, 160, .inl o3)), (t4, .inl (g.2.1.1, 160, .inl o4)), (t5, .inl (g.2.1.1, 160, .inl o5))] H := hP
    have hD : va_D A [(x0, .inr (8, [.ref yn, .ref ys, .int iS, .ref xc, .ref xs, .ref xt, .ref xr, .ref xf, .ref xh, .ref xi])), (yn, .inr (7, [.ref am, .ref ac, .ref as_, .ref atx])), (am, .inr (2, [.ref mka, .ref mva, .ref mra, .int (nI nM)])), (mka, .inl (g.2.1.1, 160, .inl fMk)), (mva, .inl (g.2.1.1, 160, .inl fMv)), (mra, .inl (g.2.1.1, 160, .inl fMr)), (ac, .inr (2, [.ref cka, .ref cva, .ref cra, .int (nI nC)])), (cka, .inl (g.2.1.1, 160, .inl gk)), (cva, .inl (g.2.1.1, 160, .inl gv)), (cra, .inl (g.2.1.1, 160, .inl gr)), (xr, .inr (4, [.int r1, .int r2, .int r3, .int r4, .int r5])), (xt, .inr (6, [.ref t1, .ref t2, .ref t3, .ref t4, .ref t5, .int mT])), (t1, .inl (g.2.1.1, 160, .inl o1)), (t2, .inl (g.2.1.1, 160, .inl o2)), (t3, .inl (g.2.1.1, 160, .inl o3)), (t4, .inl (g.2.1.1, 160, .inl o4)), (t5, .inl (g.2.1.1, 160, .inl o5))] := hD
    rw [show (kcell 4 kLeast 0 : Int32) = nI 1 from by decide]
    refine lv_istore_n (lv' := [(2, .int (nI 1)), (0, .ref x0), (1, .int y)]) hx hb dX6_leastBound_21 rfl hl (by decide) rfl (fun ls hl => ?_)
    have L22 : ∀ (n9 : Nat) (b9 : Nat) (mz : Int32) (z1 : Nat → Int32) (z2 : Nat → Int32) (z3 : Nat → Int32) (z4 : Nat → Int32) (z5 : Nat → Int32) (d1 : Int32) (d2 : Int32) (d3 : Int32) (d4 : Int32) (d5 : Int32) (H : Heap) (locs : List Loc) (ls : Array Slot), (1 ≤ b9 ∧ b9 ≤ 9) → (lbf (kap M) nM y.toInt (9 - b9) b9 = lbS M y) → 9 - b9 < n9 → va_P g.1 vwCl [(x0, .inr (8, [.ref yn, .ref ys, .int iS, .ref xc, .ref xs, .ref xt, .ref xr, .ref xf, .ref xh, .ref xi])), (yn, .inr (7, [.ref am, .ref ac, .ref as_, .ref atx])), (am, .inr (2, [.ref mka, .ref mva, .ref mra, .int (nI nM)])), (mka, .inl (g.2.1.1, 160, .inl fMk)), (mva, .inl (g.2.1.1, 160, .inl fMv)), (mra, .inl (g.2.1.1, 160, .inl fMr)), (ac, .inr (2, [.ref cka, .ref cva, .ref cra, .int (nI nC)])), (cka, .inl (g.2.1.1, 160, .inl gk)), (cva, .inl (g.2.1.1, 160, .inl gv)), (cra, .inl (g.2.1.1, 160, .inl gr)), (xr, .inr (4, [.int d1, .int d2, .int d3, .int d4, .int d5])), (xt, .inr (6, [.ref t1, .ref t2, .ref t3, .ref t4, .ref t5, .int mz])), (t1, .inl (g.2.1.1, 160, .inl z1)), (t2, .inl (g.2.1.1, 160, .inl z2)), (t3, .inl (g.2.1.1, 160, .inl z3)), (t4, .inl (g.2.1.1, 160, .inl z4)), (t5, .inl (g.2.1.1, 160, .inl z5))] H → va_D A [(x0, .inr (8, [.ref yn, .ref ys, .int iS, .ref xc, .ref xs, .ref xt, .ref xr, .ref xf, .ref xh, .ref xi])), (yn, .inr (7, [.ref am, .ref ac, .ref as_, .ref atx])), (am, .inr (2, [.ref mka, .ref mva, .ref mra, .int (nI nM)])), (mka, .inl (g.2.1.1, 160, .inl fMk)), (mva, .inl (g.2.1.1, 160, .inl fMv)), (mra, .inl (g.2.1.1, 160, .inl fMr)), (ac, .inr (2, [.ref cka, .ref cva, .ref cra, .int (nI nC)])), (cka, .inl (g.2.1.1, 160, .inl gk)), (cva, .inl (g.2.1.1, 160, .inl gv)), (cra, .inl (g.2.1.1, 160, .inl gr)), (xr, .inr (4, [.int d1, .int d2, .int d3, .int d4, .int d5])), (xt, .inr (6, [.ref t1, .ref t2, .ref t3, .ref t4, .ref t5, .int mz])), (t1, .inl (g.2.1.1, 160, .inl z1)), (t2, .inl (g.2.1.1, 160, .inl z2)), (t3, .inl (g.2.1.1, 160, .inl z3)), (t4, .inl (g.2.1.1, 160, .inl z4)), (t5, .inl (g.2.1.1, 160, .inl z5))] → va_S A s.heap H locs → lv_has ls 3 [(2, .int (nI b9)), (0, .ref x0), (1, .int y)] → W p l e rm_X6_leastBound s m ([.ref x0, .int y] : List Value).toArray below meth cd H locs 0 0 (kQxi g 17 A (p_X6_leastBound g x0 yn ys iS xc xs xt xr xf xh xi am ac as_ atx mka mva mra nM fMk fMv fMr cka cva cra nC gk gv gr r1 r2 r3 r4 r5 t1 t2 t3 t4 t5 mT o1 o2 o3 o4 o5 M C y) (x_X6_leastBound g x0 yn ys iS xc xs xt xr xf xh xi am ac as_ atx mka mva mra nM fMk fMv fMr cka cva cra nC gk gv gr r1 r2 r3 r4 r5 t1 t2 t3 t4 t5 mT o1 o2 o3 o4 o5 M C y) 1 6 below ([.ref x0, .int y] : List Value).toArray s) (F0 m 22 ls []) := by
      intro n9
      induction n9 with
      | zero => intro b9 mz z1 z2 z3 z4 z5 d1 d2 d3 d4 d5 H locs ls hb9 hlb h9; exact absurd h9 (Nat.not_lt_zero _)
      | succ n9 ih22 =>
        intro b9 mz z1 z2 z3 z4 z5 d1 d2 d3 d4 d5 H locs ls hb9 hlb hn22 hP hD hS hl
        refine lv_iload_n hx hb dX6_leastBound_22 rfl (lv_at hl 0 rfl) ?_
        refine va_gets hx hb hE.2.1.2.2.1 hS hown (hts (.fieldLink RX6 252 "LearnedIndex" "GREATEST_SETTINGS" "[I") (by decide +kernel)) (fun _ h9 => h9) dX6_leastBound_23 ?_
        refine lv_iconst (v := 0) hx hb dX6_leastBound_26 (by decide) ?_
        refine kcalli (wc := []) [] (va_runS (As := [.ref g.2.2.2.2, .int 0]) (rest := [.int (nI b9)]) ⟨hx, hb, hml, hown, hts⟩ ((c_X6_cellG l g 0) _) (va_cwS 2 hts gX6_leastBound_X6_cell rfl rfl rfl (by decide +kernel) ⟨Nat.le_of_ble_eq_true rfl, Nat.le_of_ble_eq_true rfl⟩) (kpreS (wc := []) hK hP hD hS hA hE [] rfl rfl) rfl rfl hl.1 rfl (lv_room (Nat.le_of_ble_eq_true rfl)) dX6_leastBound_27 ⟨Nat.zero_le _, Nat.zero_le _⟩) hP hD hS hA rfl (fun r_2 w_2 H locs hp hP hD hS => ?_)
        obtain ⟨rfl, rfl⟩ := hp
        have hP : va_P g.1 vwCl [(x0, .inr (8, [.ref yn, .ref ys, .int iS, .ref xc, .ref xs, .ref xt, .ref xr, .ref xf, .ref xh, .ref xi])), (yn, .inr (7, [.ref am, .ref ac, .ref as_, .ref atx])), (am, .inr (2, [.ref mka, .ref mva, .ref mra, .int (nI nM)])), (mka, .inl (g.2.1.1, 160, .inl fMk)), (mva, .inl (g.2.1.1, 160, .inl fMv)), (mra, .inl (g.2.1.1, 160, .inl fMr)), (ac, .inr (2, [.ref cka, .ref cva, .ref cra, .int (nI nC)])), (cka, .inl (g.2.1.1, 160, .inl gk)), (cva, .inl (g.2.1.1, 160, .inl gv)), (cra, .inl (g.2.1.1, 160, .inl gr)), (xr, .inr (4, [.int d1, .int d2, .int d3, .int d4, .int d5])), (xt, .inr (6, [.ref t1, .ref t2, .ref t3, .ref t4, .ref t5, .int mz])), (t1, .inl (g.2.1.1, 160, .inl z1)), (t2, .inl (g.2.1.1, 160, .inl z2)), (t3, .inl (g.2.1.1, 160, .inl z3)), (t4, .inl (g.2.1.1, 160, .inl z4)), (t5, .inl (g.2.1.1, 160, .inl z5))] H := hP
        have hD : va_D A [(x0, .inr (8, [.ref yn, .ref ys, .int iS, .ref xc, .ref xs, .ref xt, .ref xr, .ref xf, .ref xh, .ref xi])), (yn, .inr (7, [.ref am, .ref ac, .ref as_, .ref atx])), (am, .inr (2, [.ref mka, .ref mva, .ref mra, .int (nI nM)])), (mka, .inl (g.2.1.1, 160, .inl fMk)), (mva, .inl (g.2.1.1, 160, .inl fMv)), (mra, .inl (g.2.1.1, 160, .inl fMr)), (ac, .inr (2, [.ref cka, .ref cva, .ref cra, .int (nI nC)])), (cka, .inl (g.2.1.1, 160, .inl gk)), (cva, .inl (g.2.1.1, 160, .inl gv)), (cra, .inl (g.2.1.1, 160, .inl gr)), (xr, .inr (4, [.int d1, .int d2, .int d3, .int d4, .int d5])), (xt, .inr (6, [.ref t1, .ref t2, .ref t3, .ref t4, .ref t5, .int mz])), (t1, .inl (g.2.1.1, 160, .inl z1)), (t2, .inl (g.2.1.1, 160, .inl z2)), (t3, .inl (g.2.1.1, 160, .inl z3)), (t4, .inl (g.2.1.1, 160, .inl z4)), (t5, .inl (g.2.1.1, 160, .inl z5))] := hD
        rw [show (kcell 4 kGreatest 0 : Int32) = nI 8 from by decide]
        refine lv_icmp_gt (tgt := 71) hx hb dX6_leastBound_30 (by decide) (fun c_30 => ?_) (fun c_30 => ?_)
        · skip
          have hb8 : 8 < b9 := by rw [nI_ltI (by decide) (by omega)] at c_30; exact c_30
          exact kthrS (own := RX6) (cls := "java/util/NoSuchElementException") (text := "there is no such bound") (names := ["java/lang/RuntimeException", "java/lang/Exception"]) hx hb htr hown (by decide +kernel) (hts (.classLink RX6 98 "java/util/NoSuchElementException") (by decide +kernel)) (hts (.initialized "java/util/NoSuchElementException") (by decide +kernel)) (hE.2.2.2.2.2.1 _ (List.mem_of_getElem? (i := 13) rfl)) (fun w9 h9 => hts w9 (List.mem_cons_of_mem _ (List.mem_append_left _ (List.mem_append_left _ (List.mem_append_right _ h9))))) (by decide +kernel) (by decide +kernel) hE hT0 hlk hK hP hD hS rfl (hl.1.trans hml.symm) dX6_leastBound_71 dX6_leastBound_74 dX6_leastBound_75 dX6_leastBound_77 dX6_leastBound_80 ⟨⟨Nat.le_of_ble_eq_true rfl, Nat.le_of_ble_eq_true rfl⟩, ⟨Nat.le_of_ble_eq_true rfl, Nat.le_of_ble_eq_true rfl⟩, ⟨Nat.le_of_ble_eq_true rfl, Nat.le_of_ble_eq_true rfl⟩⟩ (Or.inr ⟨_, _, _, _, _, _, _, _, _, _, _, rfl, by rw [lbK, if_neg (Int32.not_lt.mpr c_1), if_pos (by rw [← hlb, lbf_9 (by omega)])], rfl⟩)
        · skip
          have hb8 : b9 ≤ 8 := by rw [nI_ltI (by decide) (by omega)] at c_30; omega
          refine lv_aload_n hx hb dX6_leastBound_33 rfl (lv_at hl 1 rfl) ?_
          refine va_get (D := g.1) (ci := 8) (v := .ref xt) (C := RX6) (T := TX6) (N := 10) hx hb hts (by decide +kernel) hown hK hP 0 rfl rfl 5 (by decide) (hts (.fieldLink RX6 37 "LearnedIndex" "trial" "LLearnedIndex$Segments;") (by decide +kernel)) (fun _ h9 => h9) rfl dX6_leastBound_34 ?_
          refine lv_aload_n hx hb dX6_leastBound_37 rfl (lv_at hl 1 rfl) ?_
          refine va_get (D := g.1) (ci := 8) (v := .ref yn) (C := RX6) (T := TX6) (N := 10) hx hb hts (by decide +kernel) hown hK hP 0 rfl rfl 0 (by decide) (hts (.fieldLink RX6 10 "LearnedIndex" "now" "LLearnedIndex$State;") (by decide +kernel)) (fun _ h9 => h9) rfl dX6_leastBound_38 ?_
          refine va_getN (D := g.1) (ci := 7) (v := .ref am) (C := RX5) (T := TX5) (N := 4) hx hb hts (by decide +kernel) hown hK hP 1 rfl rfl 0 (by decide) (va_Nw.use rfl (hE.1 _ (List.mem_of_getElem? (i := 4) rfl))) (fun _ h9 => h9) rfl dX6_leastBound_41 ?_
          refine lv_iload_n hx hb dX6_leastBound_44 rfl (lv_at hl 0 rfl) ?_
          refine lv_aload_n hx hb dX6_leastBound_45 rfl (lv_at hl 1 rfl) ?_
          refine va_get (D := g.1) (ci := 8) (v := .ref xr) (C := RX6) (T := TX6) (N := 10) hx hb hts (by decide +kernel) hown hK hP 0 rfl rfl 6 (by decide) (hts (.fieldLink RX6 43 "LearnedIndex" "run" "LLearnedIndex$Run;") (by decide +kernel)) (fun _ h9 => h9) rfl dX6_leastBound_46 ?_
          rw [show (nI b9 : Int32) = kI (b9 : Int) from kI_nI b9]
          refine kcallv (wc := [(xt, .inr (6, [.ref t1, .ref t2, .ref t3, .ref t4, .ref t5, .int mz])), (t1, .inl (g.2.1.1, 160, .inl z1)), (t2, .inl (g.2.1.1, 160, .inl z2)), (t3, .inl (g.2.1.1, 160, .inl z3)), (t4, .inl (g.2.1.1, 160, .inl z4)), (t5, .inl (g.2.1.1, 160, .inl z5)), (am, .inr (2, [.ref mka, .ref mva, .ref mra, .int (nI nM)])), (mka, .inl (g.2.1.1, 160, .inl fMk)), (mva, .inl (g.2.1.1, 160, .inl fMv)), (mra, .inl (g.2.1.1, 160, .inl fMr)), (xr, .inr (4, [.int d1, .int d2, .int d3, .int d4, .int d5]))]) [11, 12, 13, 14, 15, 16, 2, 3, 4, 5, 10] (va_runV (C := RX4) (As := [.ref am, .int (kI (b9 : Int)), .ref xr]) (rest := []) ⟨hx, hb, hml, hown, hts⟩ ((c_X4_build l g xt t1 t2 t3 t4 t5 mz z1 z2 z3 z4 z5 am mka mva mra nM fMk fMv fMr xr d1 d2 d3 d4 d5 (b9 : Int) (kap M) (fun j hj => EL_kap hM hj) (kap_asc hM hIM) (by omega) (⟨by omega, by omega⟩)) _) (cwV 3 hts gX6_leastBound_X4_build rfl rfl rfl (by decide +kernel) ⟨Nat.le_of_ble_eq_true rfl, Nat.le_of_ble_eq_true rfl⟩) (kpreV (wc := [(xt, .inr (6, [.ref t1, .ref t2, .ref t3, .ref t4, .ref t5, .int mz])), (t1, .inl (g.2.1.1, 160, .inl z1)), (t2, .inl (g.2.1.1, 160, .inl z2)), (t3, .inl (g.2.1.1, 160, .inl z3)), (t4, .inl (g.2.1.1, 160, .inl z4)), (t5, .inl (g.2.1.1, 160, .inl z5)), (am, .inr (2, [.ref mka, .ref mva, .ref mra, .int (nI nM)])), (mka, .inl (g.2.1.1, 160, .inl fMk)), (mva, .inl (g.2.1.1, 160, .inl fMv)), (mra, .inl (g.2.1.1, 160, .inl fMr)), (xr, .inr (4, [.int d1, .int d2, .int d3, .int d4, .int d5]))]) (ci := 6) hK hP hD hS hA hE [11, 12, 13, 14, 15, 16, 2, 3, 4, 5, 10] rfl rfl rfl rfl) rfl rfl hl.1 rfl (lv_room (Nat.le_of_ble_eq_true rfl)) dX6_leastBound_49 ⟨Nat.zero_le _, Nat.zero_le _⟩) hP hD hS hA rfl (fun w_3 H locs hp hP hD hS => ?_)
          obtain ⟨m8, v1y, v2y, v3y, v4y, v5y, x1y, x2y, x3y, x4y, x5y, hSG2, rfl⟩ := hp
          have hP : va_P g.1 vwCl [(x0, .inr (8, [.ref yn, .ref ys, .int iS, .ref xc, .ref xs, .ref xt, .ref xr, .ref xf, .ref xh, .ref xi])), (yn, .inr (7, [.ref am, .ref ac, .ref as_, .ref atx])), (am, .inr (2, [.ref mka, .ref mva, .ref mra, .int (nI nM)])), (mka, .inl (g.2.1.1, 160, .inl fMk)), (mva, .inl (g.2.1.1, 160, .inl fMv)), (mra, .inl (g.2.1.1, 160, .inl fMr)), (ac, .inr (2, [.ref cka, .ref cva, .ref cra, .int (nI nC)])), (cka, .inl (g.2.1.1, 160, .inl gk)), (cva, .inl (g.2.1.1, 160, .inl gv)), (cra, .inl (g.2.1.1, 160, .inl gr)), (xr, .inr (4, [.int x1y, .int x2y, .int x3y, .int x4y, .int x5y])), (xt, .inr (6, [.ref t1, .ref t2, .ref t3, .ref t4, .ref t5, .int (nI m8)])), (t1, .inl (g.2.1.1, 160, .inl v1y)), (t2, .inl (g.2.1.1, 160, .inl v2y)), (t3, .inl (g.2.1.1, 160, .inl v3y)), (t4, .inl (g.2.1.1, 160, .inl v4y)), (t5, .inl (g.2.1.1, 160, .inl v5y))] H := hP
          have hD : va_D A [(x0, .inr (8, [.ref yn, .ref ys, .int iS, .ref xc, .ref xs, .ref xt, .ref xr, .ref xf, .ref xh, .ref xi])), (yn, .inr (7, [.ref am, .ref ac, .ref as_, .ref atx])), (am, .inr (2, [.ref mka, .ref mva, .ref mra, .int (nI nM)])), (mka, .inl (g.2.1.1, 160, .inl fMk)), (mva, .inl (g.2.1.1, 160, .inl fMv)), (mra, .inl (g.2.1.1, 160, .inl fMr)), (ac, .inr (2, [.ref cka, .ref cva, .ref cra, .int (nI nC)])), (cka, .inl (g.2.1.1, 160, .inl gk)), (cva, .inl (g.2.1.1, 160, .inl gv)), (cra, .inl (g.2.1.1, 160, .inl gr)), (xr, .inr (4, [.int x1y, .int x2y, .int x3y, .int x4y, .int x5y])), (xt, .inr (6, [.ref t1, .ref t2, .ref t3, .ref t4, .ref t5, .int (nI m8)])), (t1, .inl (g.2.1.1, 160, .inl v1y)), (t2, .inl (g.2.1.1, 160, .inl v2y)), (t3, .inl (g.2.1.1, 160, .inl v3y)), (t4, .inl (g.2.1.1, 160, .inl v4y)), (t5, .inl (g.2.1.1, 160, .inl v5y))] := hD
          have hm8 : m8 = (sgs (kap M) nM (b9 : Int)).length := by have := congrArg List.length hSG2; rwa [SG_len, List.length_map] at this
          have hm160 : m8 ≤ nM - 0 := by rw [hm8]; exact sg_len (kap_asc hM hIM) (by omega) ⟨by omega, by omega⟩ _ _
          have hyI : y = kI y.toInt := kI_of y
          have hy9 := Int32.toInt_lt y
          have hy8 := Int32.le_toInt y
          refine lv_aload_n hx hb dX6_leastBound_52 rfl (lv_at hl 1 rfl) ?_
          refine va_get (D := g.1) (ci := 8) (v := .ref xt) (C := RX6) (T := TX6) (N := 10) hx hb hts (by decide +kernel) hown hK hP 0 rfl rfl 5 (by decide) (hts (.fieldLink RX6 37 "LearnedIndex" "trial" "LLearnedIndex$Segments;") (by decide +kernel)) (fun _ h9 => h9) rfl dX6_leastBound_53 ?_
          refine va_getN (D := g.1) (ci := 6) (v := .int (nI m8)) (C := RX4) (T := TX4) (N := 6) hx hb hts (by decide +kernel) hown hK hP 11 rfl rfl 5 (by decide) (va_Nw.use rfl (hE.1 _ (List.mem_of_getElem? (i := 5) rfl))) (fun _ h9 => h9) rfl dX6_leastBound_56 ?_
          refine lv_iload_n hx hb dX6_leastBound_59 rfl (lv_at hl 2 rfl) ?_
          rw [show nI m8 = kI (m8 : Int) from kI_nI m8]
          have hcmp : (y < kI (m8 : Int)) ↔ y.toInt < (m8 : Int) := by rw [Int32.lt_iff_toInt_lt, kI_toInt (by omega) (by omega)]
          refine lv_icmp_gt (tgt := 65) hx hb dX6_leastBound_60 (by decide) (fun c_60 => ?_) (fun c_60 => ?_)
          · skip
            have hgt := hcmp.mp c_60
            have hl2 : lbf (kap M) nM y.toInt (9 - (b9 + 1)) (b9 + 1) = lbS M y := by rw [← hlb, lbf_s hb8, if_neg (by rw [← hm8]; omega)]
            refine lv_iinc (v := nI (b9 + 1)) (lv' := [(2, .int (nI (b9 + 1))), (0, .ref x0), (1, .int y)]) hx hb dX6_leastBound_65 hl (k := 0) rfl (nI_1 b9) (by decide) rfl (fun ls hl => ?_)
            refine lv_goto (tgt := 22) hx hb dX6_leastBound_68 (by decide) ?_
            exact ih22 (b9 + 1) (nI m8) v1y v2y v3y v4y v5y x1y x2y x3y x4y x5y _ _ ls (⟨by omega, by omega⟩) hl2 (by omega) hP hD hS (lv_sub hl [0, 1, 2] rfl)
          · skip
            have hle : ¬ y.toInt < (m8 : Int) := fun z => c_60 (hcmp.mpr z)
            have hl2 : lbS M y = b9 := by rw [← hlb, lbf_s hb8, if_pos (by rw [← hm8]; omega)]
            refine lv_iload_n hx hb dX6_leastBound_63 rfl (lv_at hl 0 rfl) ?_
            exact kretxi (Nat.le_of_ble_eq_true rfl) (Nat.le_of_ble_eq_true rfl) hx hb hRt hlk hK hP hD hS rfl dX6_leastBound_64 (⟨_, _, _, _, _, _, _, _, _, _, _, by rw [hl2], by rw [lbK, if_neg (Int32.not_lt.mpr c_1), hl2, if_neg (by omega)], rfl⟩)
    exact L22 _ 1 mT o1 o2 o3 o4 o5 r1 r2 r3 r4 r5 _ _ ls (⟨by decide, by decide⟩) (by rw [lbS, hnl]) (Nat.lt_succ_self _) hP hD hS (lv_sub hl [0, 1, 2] rfl)
  · skip
    exact kthrS (own := RX6) (cls := "java/lang/IllegalArgumentException") (text := "the number of segments is negative") (names := ["java/lang/RuntimeException", "java/lang/Exception"]) hx hb htr hown (by decide +kernel) (hts (.classLink RX6 128 "java/lang/IllegalArgumentException") (by decide +kernel)) (hts (.initialized "java/lang/IllegalArgumentException") (by decide +kernel)) (hE.2.2.2.2.2.1 _ (List.mem_of_getElem? (i := 12) rfl)) (fun w9 h9 => hts w9 (List.mem_cons_of_mem _ (List.mem_append_left _ (List.mem_append_left _ (List.mem_append_left _ (List.mem_append_right _ h9)))))) (by decide +kernel) (by decide +kernel) hE hT0 hlk hK hP hD hS rfl (hl.1.trans hml.symm) dX6_leastBound_4 dX6_leastBound_7 dX6_leastBound_8 dX6_leastBound_10 dX6_leastBound_13 ⟨⟨Nat.le_of_ble_eq_true rfl, Nat.le_of_ble_eq_true rfl⟩, ⟨Nat.le_of_ble_eq_true rfl, Nat.le_of_ble_eq_true rfl⟩, ⟨Nat.le_of_ble_eq_true rfl, Nat.le_of_ble_eq_true rfl⟩⟩ (Or.inl ⟨rfl, by rw [lbK, if_pos (Int32.not_le.mp c_1)], rfl⟩)
