/-! ===== Run, Segments, State ===== -/
theorem dX2_isSteeper_0 : decode cX2_isSteeper 0 = .ok (.iload_n 0, 1) := by decide +kernel
theorem dX2_isSteeper_1 : decode cX2_isSteeper 1 = .ok (.iload_n 3, 1) := by decide +kernel
theorem dX2_isSteeper_2 : decode cX2_isSteeper 2 = .ok (.imul, 1) := by decide +kernel
theorem dX2_isSteeper_3 : decode cX2_isSteeper 3 = .ok (.iload_n 2, 1) := by decide +kernel
theorem dX2_isSteeper_4 : decode cX2_isSteeper 4 = .ok (.iload_n 1, 1) := by decide +kernel
theorem dX2_isSteeper_5 : decode cX2_isSteeper 5 = .ok (.imul, 1) := by decide +kernel
theorem dX2_isSteeper_6 : decode cX2_isSteeper 6 = .ok (.if_icmp .le 7, 3) := by decide +kernel
theorem dX2_isSteeper_9 : decode cX2_isSteeper 9 = .ok (.iconst 1, 1) := by decide +kernel
theorem dX2_isSteeper_10 : decode cX2_isSteeper 10 = .ok (.goto 4, 3) := by decide +kernel
theorem dX2_isSteeper_13 : decode cX2_isSteeper 13 = .ok (.iconst 0, 1) := by decide +kernel
theorem dX2_isSteeper_14 : decode cX2_isSteeper 14 = .ok (.ireturn, 1) := by decide +kernel
def rm_X2_isSteeper : Room := { frames := 0, cells := 0, slots := 0, locals := 0 }
abbrev p_X2_isSteeper (g : kG) (x : Int) (y : Int) (z : Int) (w : Int) : Int32 → va_W → Prop := fun r w1 => r = kst x y z w ∧ w1 = []
set_option maxHeartbeats 4000000 in
set_option maxRecDepth 100000 in
theorem c_X2_isSteeper (l : Launch) (g : kG) (x : Int) (y : Int) (z : Int) (w : Int) (hb1 : -3000000 ≤ x * w ∧ x * w ≤ 3000000) (hb2 : -3000000 ≤ z * y ∧ z * y ≤ 3000000) : KI l yX2_isSteeper wsX2_isSteeper rm_X2_isSteeper g [.int (kI x), .int (kI y), .int (kI z), .int (kI w)] [] (p_X2_isSteeper g x y z w) := by
  refine kbodyI (cc := cX2_isSteeper) (n := 4) (k := 0) (own := RX2) (plainFor_of_name (by decide)) rfl rfl rfl rfl ?_
  intro p e s m below meth cd A ls hcx
  obtain ⟨hx, hb, hRt, hml, hts, hown, hlk, hA, hP, hK, hD, hE, hS, hl⟩ := hcx
  have hl : lv_has ls 4 [(0, .int (kI x)), (1, .int (kI y)), (2, .int (kI z)), (3, .int (kI w))] := hl
  refine lv_iload_n hx hb dX2_isSteeper_0 rfl (lv_at hl 0 rfl) ?_
  refine lv_iload_n hx hb dX2_isSteeper_1 rfl (lv_at hl 3 rfl) ?_
  refine lv_imul hx hb dX2_isSteeper_2 ?_
  rw [show ((kI x) * (kI w) : Int32) = kI (x * w) from kI_mul x w]
  refine lv_iload_n hx hb dX2_isSteeper_3 rfl (lv_at hl 2 rfl) ?_
  refine lv_iload_n hx hb dX2_isSteeper_4 rfl (lv_at hl 1 rfl) ?_
  refine lv_imul hx hb dX2_isSteeper_5 ?_
  rw [show ((kI z) * (kI y) : Int32) = kI (z * y) from kI_mul z y]
  refine lv_icmp_le (tgt := 13) hx hb dX2_isSteeper_6 (by decide) (fun c_6 => ?_) (fun c_6 => ?_)
  · skip
    rw [kI_le (by omega) (by omega) (by omega) (by omega)] at c_6
    refine lv_iconst (v := 0) hx hb dX2_isSteeper_13 (by decide) ?_
    exact kretz hx hb hRt hlk hK hP hD hS rfl dX2_isSteeper_14 (by decide) (⟨by rw [kst, if_pos c_6], rfl⟩)
  · skip
    rw [kI_le (by omega) (by omega) (by omega) (by omega)] at c_6
    refine lv_iconst (v := 1) hx hb dX2_isSteeper_9 (by decide) ?_
    refine lv_goto (tgt := 14) hx hb dX2_isSteeper_10 (by decide) ?_
    exact kretz hx hb hRt hlk hK hP hD hS rfl dX2_isSteeper_14 (by decide) (⟨by rw [kst, if_neg c_6], rfl⟩)
set_option maxRecDepth 20000 in
theorem ggX2_takeIn_X2_isSteeper : GoodIn wsX2_takeIn wsX2_isSteeper := goodIn_r _ [8] (by decide +kernel) (by decide +kernel)
set_option maxRecDepth 20000 in
theorem gX2_takeIn_X2_isSteeper : GoodIn wsX2_takeIn (va_wsS RX2 43 yX2_isSteeper wsX2_isSteeper) := goodIn_app (goodIn_of _ (by decide +kernel)) ggX2_takeIn_X2_isSteeper
theorem dX2_takeIn_0 : decode cX2_takeIn 0 = .ok (.iload_n 1, 1) := by decide +kernel
theorem dX2_takeIn_1 : decode cX2_takeIn 1 = .ok (.iload_n 3, 1) := by decide +kernel
theorem dX2_takeIn_2 : decode cX2_takeIn 2 = .ok (.isub, 1) := by decide +kernel
theorem dX2_takeIn_3 : decode cX2_takeIn 3 = .ok (.iload_n 2, 1) := by decide +kernel
theorem dX2_takeIn_4 : decode cX2_takeIn 4 = .ok (.aload_n 0, 1) := by decide +kernel
theorem dX2_takeIn_5 : decode cX2_takeIn 5 = .ok (.getfield 21, 3) := by decide +kernel
theorem dX2_takeIn_8 : decode cX2_takeIn 8 = .ok (.aload_n 0, 1) := by decide +kernel
theorem dX2_takeIn_9 : decode cX2_takeIn 9 = .ok (.getfield 24, 3) := by decide +kernel
theorem dX2_takeIn_12 : decode cX2_takeIn 12 = .ok (.invokestatic 43, 3) := by decide +kernel
theorem dX2_takeIn_15 : decode cX2_takeIn 15 = .ok (.ifCond .ne 21, 3) := by decide +kernel
theorem dX2_takeIn_18 : decode cX2_takeIn 18 = .ok (.aload_n 0, 1) := by decide +kernel
theorem dX2_takeIn_19 : decode cX2_takeIn 19 = .ok (.getfield 15, 3) := by decide +kernel
theorem dX2_takeIn_22 : decode cX2_takeIn 22 = .ok (.aload_n 0, 1) := by decide +kernel
theorem dX2_takeIn_23 : decode cX2_takeIn 23 = .ok (.getfield 18, 3) := by decide +kernel
theorem dX2_takeIn_26 : decode cX2_takeIn 26 = .ok (.iload_n 1, 1) := by decide +kernel
theorem dX2_takeIn_27 : decode cX2_takeIn 27 = .ok (.iload_n 3, 1) := by decide +kernel
theorem dX2_takeIn_28 : decode cX2_takeIn 28 = .ok (.iadd, 1) := by decide +kernel
theorem dX2_takeIn_29 : decode cX2_takeIn 29 = .ok (.iload_n 2, 1) := by decide +kernel
theorem dX2_takeIn_30 : decode cX2_takeIn 30 = .ok (.invokestatic 43, 3) := by decide +kernel
theorem dX2_takeIn_33 : decode cX2_takeIn 33 = .ok (.ifCond .eq 5, 3) := by decide +kernel
theorem dX2_takeIn_36 : decode cX2_takeIn 36 = .ok (.iconst 0, 1) := by decide +kernel
theorem dX2_takeIn_37 : decode cX2_takeIn 37 = .ok (.ireturn, 1) := by decide +kernel
theorem dX2_takeIn_38 : decode cX2_takeIn 38 = .ok (.iload_n 1, 1) := by decide +kernel
theorem dX2_takeIn_39 : decode cX2_takeIn 39 = .ok (.iload_n 3, 1) := by decide +kernel
theorem dX2_takeIn_40 : decode cX2_takeIn 40 = .ok (.isub, 1) := by decide +kernel
theorem dX2_takeIn_41 : decode cX2_takeIn 41 = .ok (.iload_n 2, 1) := by decide +kernel
theorem dX2_takeIn_42 : decode cX2_takeIn 42 = .ok (.aload_n 0, 1) := by decide +kernel
theorem dX2_takeIn_43 : decode cX2_takeIn 43 = .ok (.getfield 15, 3) := by decide +kernel
theorem dX2_takeIn_46 : decode cX2_takeIn 46 = .ok (.aload_n 0, 1) := by decide +kernel
theorem dX2_takeIn_47 : decode cX2_takeIn 47 = .ok (.getfield 18, 3) := by decide +kernel
theorem dX2_takeIn_50 : decode cX2_takeIn 50 = .ok (.invokestatic 43, 3) := by decide +kernel
theorem dX2_takeIn_53 : decode cX2_takeIn 53 = .ok (.ifCond .eq 15, 3) := by decide +kernel
theorem dX2_takeIn_56 : decode cX2_takeIn 56 = .ok (.aload_n 0, 1) := by decide +kernel
theorem dX2_takeIn_57 : decode cX2_takeIn 57 = .ok (.iload_n 1, 1) := by decide +kernel
theorem dX2_takeIn_58 : decode cX2_takeIn 58 = .ok (.iload_n 3, 1) := by decide +kernel
theorem dX2_takeIn_59 : decode cX2_takeIn 59 = .ok (.isub, 1) := by decide +kernel
theorem dX2_takeIn_60 : decode cX2_takeIn 60 = .ok (.putfield 15, 3) := by decide +kernel
theorem dX2_takeIn_63 : decode cX2_takeIn 63 = .ok (.aload_n 0, 1) := by decide +kernel
theorem dX2_takeIn_64 : decode cX2_takeIn 64 = .ok (.iload_n 2, 1) := by decide +kernel
theorem dX2_takeIn_65 : decode cX2_takeIn 65 = .ok (.putfield 18, 3) := by decide +kernel
theorem dX2_takeIn_68 : decode cX2_takeIn 68 = .ok (.aload_n 0, 1) := by decide +kernel
theorem dX2_takeIn_69 : decode cX2_takeIn 69 = .ok (.getfield 21, 3) := by decide +kernel
theorem dX2_takeIn_72 : decode cX2_takeIn 72 = .ok (.aload_n 0, 1) := by decide +kernel
theorem dX2_takeIn_73 : decode cX2_takeIn 73 = .ok (.getfield 24, 3) := by decide +kernel
theorem dX2_takeIn_76 : decode cX2_takeIn 76 = .ok (.iload_n 1, 1) := by decide +kernel
theorem dX2_takeIn_77 : decode cX2_takeIn 77 = .ok (.iload_n 3, 1) := by decide +kernel
theorem dX2_takeIn_78 : decode cX2_takeIn 78 = .ok (.iadd, 1) := by decide +kernel
theorem dX2_takeIn_79 : decode cX2_takeIn 79 = .ok (.iload_n 2, 1) := by decide +kernel
theorem dX2_takeIn_80 : decode cX2_takeIn 80 = .ok (.invokestatic 43, 3) := by decide +kernel
theorem dX2_takeIn_83 : decode cX2_takeIn 83 = .ok (.ifCond .eq 15, 3) := by decide +kernel
theorem dX2_takeIn_86 : decode cX2_takeIn 86 = .ok (.aload_n 0, 1) := by decide +kernel
theorem dX2_takeIn_87 : decode cX2_takeIn 87 = .ok (.iload_n 1, 1) := by decide +kernel
theorem dX2_takeIn_88 : decode cX2_takeIn 88 = .ok (.iload_n 3, 1) := by decide +kernel
theorem dX2_takeIn_89 : decode cX2_takeIn 89 = .ok (.iadd, 1) := by decide +kernel
theorem dX2_takeIn_90 : decode cX2_takeIn 90 = .ok (.putfield 21, 3) := by decide +kernel
theorem dX2_takeIn_93 : decode cX2_takeIn 93 = .ok (.aload_n 0, 1) := by decide +kernel
theorem dX2_takeIn_94 : decode cX2_takeIn 94 = .ok (.iload_n 2, 1) := by decide +kernel
theorem dX2_takeIn_95 : decode cX2_takeIn 95 = .ok (.putfield 24, 3) := by decide +kernel
theorem dX2_takeIn_98 : decode cX2_takeIn 98 = .ok (.iconst 1, 1) := by decide +kernel
theorem dX2_takeIn_99 : decode cX2_takeIn 99 = .ok (.ireturn, 1) := by decide +kernel
def rm_X2_takeIn : Room := { frames := 1, cells := 0, slots := 0, locals := 23 }
abbrev p_X2_takeIn (g : kG) (h : Nat) (ℓ : Int32) (a : Int) (b : Int) (c : Int) (d : Int) (ρ : Int) (δ : Int) (β : Int) : Int32 → va_W → Prop := fun r w1 => ∃ (a2 : Int), ∃ (b2 : Int), ∃ (c2 : Int), ∃ (d2 : Int), ((tk β ρ δ a b c d = none ∧ r = 0 ∧ a2 = a ∧ b2 = b ∧ c2 = c ∧ d2 = d) ∨ (tk β ρ δ a b c d = some (a2, b2, c2, d2) ∧ r = 1)) ∧ w1 = [(h, .inr (4, [.int ℓ, .int (kI a2), .int (kI b2), .int (kI c2), .int (kI d2)]))]
set_option maxHeartbeats 4000000 in
set_option maxRecDepth 100000 in
theorem c_X2_takeIn (l : Launch) (g : kG) (h : Nat) (ℓ : Int32) (a : Int) (b : Int) (c : Int) (d : Int) (ρ : Int) (δ : Int) (β : Int) (hbd : kbd a b c d) (hρ : 0 ≤ ρ ∧ ρ ≤ 180) (hδ : 1 ≤ δ ∧ δ ≤ 10000) (hβ : 0 ≤ β ∧ β ≤ 8) : KI l yX2_takeIn wsX2_takeIn rm_X2_takeIn g [.ref h, .int (kI ρ), .int (kI δ), .int (kI β)] [(h, .inr (4, [.int ℓ, .int (kI a), .int (kI b), .int (kI c), .int (kI d)]))] (p_X2_takeIn g h ℓ a b c d ρ δ β) := by
  refine kbodyI (cc := cX2_takeIn) (n := 4) (k := 1) (own := RX2) (plainFor_of_name (by decide)) rfl rfl rfl rfl ?_
  intro p e s m below meth cd A ls hcx
  obtain ⟨hx, hb, hRt, hml, hts, hown, hlk, hA, hP, hK, hD, hE, hS, hl⟩ := hcx
  have hl : lv_has ls 4 [(0, .ref h), (1, .int (kI ρ)), (2, .int (kI δ)), (3, .int (kI β))] := hl
  obtain ⟨⟨ha1, ha2, ha3⟩, ⟨hb1, hb2⟩, ⟨hc1, hc2⟩, ⟨hd1, hd2⟩⟩ := id hbd
  refine lv_iload_n hx hb dX2_takeIn_0 rfl (lv_at hl 1 rfl) ?_
  refine lv_iload_n hx hb dX2_takeIn_1 rfl (lv_at hl 3 rfl) ?_
  refine lv_isub hx hb dX2_takeIn_2 ?_
  rw [show ((kI ρ) - (kI β) : Int32) = kI (ρ - β) from kI_sub ρ β]
  refine lv_iload_n hx hb dX2_takeIn_3 rfl (lv_at hl 2 rfl) ?_
  refine lv_aload_n hx hb dX2_takeIn_4 rfl (lv_at hl 0 rfl) ?_
  refine va_get (D := g.1) (ci := 4) (v := .int (kI c)) (C := RX2) (T := TX2) (N := 5) hx hb hts (by decide +kernel) hown hK hP 0 rfl rfl 3 (by decide) (hts (.fieldLink RX2 21 "LearnedIndex$Run" "topNumerator" "I") (by decide +kernel)) (fun _ h9 => h9) rfl dX2_takeIn_5 ?_
  refine lv_aload_n hx hb dX2_takeIn_8 rfl (lv_at hl 0 rfl) ?_
  refine va_get (D := g.1) (ci := 4) (v := .int (kI d)) (C := RX2) (T := TX2) (N := 5) hx hb hts (by decide +kernel) hown hK hP 0 rfl rfl 4 (by decide) (hts (.fieldLink RX2 24 "LearnedIndex$Run" "topDenominator" "I") (by decide +kernel)) (fun _ h9 => h9) rfl dX2_takeIn_9 ?_
  refine kcalli (wc := []) [] (va_runS (As := [.int (kI (ρ - β)), .int (kI δ), .int (kI c), .int (kI d)]) (rest := []) ⟨hx, hb, hml, hown, hts⟩ ((c_X2_isSteeper l g (ρ - β) δ c d (kmulb (by omega) (by omega) (by omega) (by omega)) (kmulb (by omega) (by omega) (by omega) (by omega))) _) (va_cwS 4 hts gX2_takeIn_X2_isSteeper rfl rfl rfl (by decide +kernel) ⟨Nat.le_of_ble_eq_true rfl, Nat.le_of_ble_eq_true rfl⟩) (kpreS (wc := []) hK hP hD hS hA hE [] rfl rfl) rfl rfl hl.1 rfl (lv_room (Nat.le_of_ble_eq_true rfl)) dX2_takeIn_12 ⟨Nat.zero_le _, Nat.zero_le _⟩) hP hD hS hA rfl (fun r_1 w_1 H locs hp hP hD hS => ?_)
  obtain ⟨rfl, rfl⟩ := hp
  have hP : va_P g.1 vwCl [(h, .inr (4, [.int ℓ, .int (kI a), .int (kI b), .int (kI c), .int (kI d)]))] H := hP
  have hD : va_D A [(h, .inr (4, [.int ℓ, .int (kI a), .int (kI b), .int (kI c), .int (kI d)]))] := hD
  refine lv_if_ne (tgt := 36) hx hb dX2_takeIn_15 (by decide) (fun c_15 => ?_) (fun c_15 => ?_)
  · skip
    have f1 := kst_1.mp c_15
    refine lv_iconst (v := 0) hx hb dX2_takeIn_36 (by decide) ?_
    exact kretz hx hb hRt hlk hK hP hD hS rfl dX2_takeIn_37 (Or.inl rfl) (⟨a, b, c, d, Or.inl ⟨by rw [tk, if_pos (Or.inl f1)], rfl, rfl, rfl, rfl, rfl⟩, rfl⟩)
  · skip
    have f1 := kst_0.mp c_15
    refine lv_aload_n hx hb dX2_takeIn_18 rfl (lv_at hl 0 rfl) ?_
    refine va_get (D := g.1) (ci := 4) (v := .int (kI a)) (C := RX2) (T := TX2) (N := 5) hx hb hts (by decide +kernel) hown hK hP 0 rfl rfl 1 (by decide) (hts (.fieldLink RX2 15 "LearnedIndex$Run" "numerator" "I") (by decide +kernel)) (fun _ h9 => h9) rfl dX2_takeIn_19 ?_
    refine lv_aload_n hx hb dX2_takeIn_22 rfl (lv_at hl 0 rfl) ?_
    refine va_get (D := g.1) (ci := 4) (v := .int (kI b)) (C := RX2) (T := TX2) (N := 5) hx hb hts (by decide +kernel) hown hK hP 0 rfl rfl 2 (by decide) (hts (.fieldLink RX2 18 "LearnedIndex$Run" "denominator" "I") (by decide +kernel)) (fun _ h9 => h9) rfl dX2_takeIn_23 ?_
    refine lv_iload_n hx hb dX2_takeIn_26 rfl (lv_at hl 1 rfl) ?_
    refine lv_iload_n hx hb dX2_takeIn_27 rfl (lv_at hl 3 rfl) ?_
    refine lv_iadd hx hb dX2_takeIn_28 ?_
    rw [show ((kI ρ) + (kI β) : Int32) = kI (ρ + β) from kI_add ρ β]
    refine lv_iload_n hx hb dX2_takeIn_29 rfl (lv_at hl 2 rfl) ?_
    refine kcalli (wc := []) [] (va_runS (As := [.int (kI a), .int (kI b), .int (kI (ρ + β)), .int (kI δ)]) (rest := []) ⟨hx, hb, hml, hown, hts⟩ ((c_X2_isSteeper l g a b (ρ + β) δ (kmulb (by omega) (by omega) (by omega) (by omega)) (kmulb (by omega) (by omega) (by omega) (by omega))) _) (va_cwS 4 hts gX2_takeIn_X2_isSteeper rfl rfl rfl (by decide +kernel) ⟨Nat.le_of_ble_eq_true rfl, Nat.le_of_ble_eq_true rfl⟩) (kpreS (wc := []) hK hP hD hS hA hE [] rfl rfl) rfl rfl hl.1 rfl (lv_room (Nat.le_of_ble_eq_true rfl)) dX2_takeIn_30 ⟨Nat.zero_le _, Nat.zero_le _⟩) hP hD hS hA rfl (fun r_2 w_2 H locs hp hP hD hS => ?_)
    obtain ⟨rfl, rfl⟩ := hp
    have hP : va_P g.1 vwCl [(h, .inr (4, [.int ℓ, .int (kI a), .int (kI b), .int (kI c), .int (kI d)]))] H := hP
    have hD : va_D A [(h, .inr (4, [.int ℓ, .int (kI a), .int (kI b), .int (kI c), .int (kI d)]))] := hD
    refine lv_if_eq (tgt := 38) hx hb dX2_takeIn_33 (by decide) (fun c_33 => ?_) (fun c_33 => ?_)
    · skip
      have f2 := kst_0.mp c_33
      refine lv_iload_n hx hb dX2_takeIn_38 rfl (lv_at hl 1 rfl) ?_
      refine lv_iload_n hx hb dX2_takeIn_39 rfl (lv_at hl 3 rfl) ?_
      refine lv_isub hx hb dX2_takeIn_40 ?_
      rw [show ((kI ρ) - (kI β) : Int32) = kI (ρ - β) from kI_sub ρ β]
      refine lv_iload_n hx hb dX2_takeIn_41 rfl (lv_at hl 2 rfl) ?_
      refine lv_aload_n hx hb dX2_takeIn_42 rfl (lv_at hl 0 rfl) ?_
      refine va_get (D := g.1) (ci := 4) (v := .int (kI a)) (C := RX2) (T := TX2) (N := 5) hx hb hts (by decide +kernel) hown hK hP 0 rfl rfl 1 (by decide) (hts (.fieldLink RX2 15 "LearnedIndex$Run" "numerator" "I") (by decide +kernel)) (fun _ h9 => h9) rfl dX2_takeIn_43 ?_
      refine lv_aload_n hx hb dX2_takeIn_46 rfl (lv_at hl 0 rfl) ?_
      refine va_get (D := g.1) (ci := 4) (v := .int (kI b)) (C := RX2) (T := TX2) (N := 5) hx hb hts (by decide +kernel) hown hK hP 0 rfl rfl 2 (by decide) (hts (.fieldLink RX2 18 "LearnedIndex$Run" "denominator" "I") (by decide +kernel)) (fun _ h9 => h9) rfl dX2_takeIn_47 ?_
      refine kcalli (wc := []) [] (va_runS (As := [.int (kI (ρ - β)), .int (kI δ), .int (kI a), .int (kI b)]) (rest := []) ⟨hx, hb, hml, hown, hts⟩ ((c_X2_isSteeper l g (ρ - β) δ a b (kmulb (by omega) (by omega) (by omega) (by omega)) (kmulb (by omega) (by omega) (by omega) (by omega))) _) (va_cwS 4 hts gX2_takeIn_X2_isSteeper rfl rfl rfl (by decide +kernel) ⟨Nat.le_of_ble_eq_true rfl, Nat.le_of_ble_eq_true rfl⟩) (kpreS (wc := []) hK hP hD hS hA hE [] rfl rfl) rfl rfl hl.1 rfl (lv_room (Nat.le_of_ble_eq_true rfl)) dX2_takeIn_50 ⟨Nat.zero_le _, Nat.zero_le _⟩) hP hD hS hA rfl (fun r_3 w_3 H locs hp hP hD hS => ?_)
      obtain ⟨rfl, rfl⟩ := hp
      have hP : va_P g.1 vwCl [(h, .inr (4, [.int ℓ, .int (kI a), .int (kI b), .int (kI c), .int (kI d)]))] H := hP
      have hD : va_D A [(h, .inr (4, [.int ℓ, .int (kI a), .int (kI b), .int (kI c), .int (kI d)]))] := hD
      refine lv_if_eq (tgt := 68) hx hb dX2_takeIn_53 (by decide) (fun c_53 => ?_) (fun c_53 => ?_)
      · skip
        have f3 := kst_0.mp c_53
        refine lv_aload_n hx hb dX2_takeIn_68 rfl (lv_at hl 0 rfl) ?_
        refine va_get (D := g.1) (ci := 4) (v := .int (kI c)) (C := RX2) (T := TX2) (N := 5) hx hb hts (by decide +kernel) hown hK hP 0 rfl rfl 3 (by decide) (hts (.fieldLink RX2 21 "LearnedIndex$Run" "topNumerator" "I") (by decide +kernel)) (fun _ h9 => h9) rfl dX2_takeIn_69 ?_
        refine lv_aload_n hx hb dX2_takeIn_72 rfl (lv_at hl 0 rfl) ?_
        refine va_get (D := g.1) (ci := 4) (v := .int (kI d)) (C := RX2) (T := TX2) (N := 5) hx hb hts (by decide +kernel) hown hK hP 0 rfl rfl 4 (by decide) (hts (.fieldLink RX2 24 "LearnedIndex$Run" "topDenominator" "I") (by decide +kernel)) (fun _ h9 => h9) rfl dX2_takeIn_73 ?_
        refine lv_iload_n hx hb dX2_takeIn_76 rfl (lv_at hl 1 rfl) ?_
        refine lv_iload_n hx hb dX2_takeIn_77 rfl (lv_at hl 3 rfl) ?_
        refine lv_iadd hx hb dX2_takeIn_78 ?_
        rw [show ((kI ρ) + (kI β) : Int32) = kI (ρ + β) from kI_add ρ β]
        refine lv_iload_n hx hb dX2_takeIn_79 rfl (lv_at hl 2 rfl) ?_
        refine kcalli (wc := []) [] (va_runS (As := [.int (kI c), .int (kI d), .int (kI (ρ + β)), .int (kI δ)]) (rest := []) ⟨hx, hb, hml, hown, hts⟩ ((c_X2_isSteeper l g c d (ρ + β) δ (kmulb (by omega) (by omega) (by omega) (by omega)) (kmulb (by omega) (by omega) (by omega) (by omega))) _) (va_cwS 4 hts gX2_takeIn_X2_isSteeper rfl rfl rfl (by decide +kernel) ⟨Nat.le_of_ble_eq_true rfl, Nat.le_of_ble_eq_true rfl⟩) (kpreS (wc := []) hK hP hD hS hA hE [] rfl rfl) rfl rfl hl.1 rfl (lv_room (Nat.le_of_ble_eq_true rfl)) dX2_takeIn_80 ⟨Nat.zero_le _, Nat.zero_le _⟩) hP hD hS hA rfl (fun r_4 w_4 H locs hp hP hD hS => ?_)
        obtain ⟨rfl, rfl⟩ := hp
        have hP : va_P g.1 vwCl [(h, .inr (4, [.int ℓ, .int (kI a), .int (kI b), .int (kI c), .int (kI d)]))] H := hP
        have hD : va_D A [(h, .inr (4, [.int ℓ, .int (kI a), .int (kI b), .int (kI c), .int (kI d)]))] := hD
        refine lv_if_eq (tgt := 98) hx hb dX2_takeIn_83 (by decide) (fun c_83 => ?_) (fun c_83 => ?_)
        · skip
          have f4 := kst_0.mp c_83
          refine lv_iconst (v := 1) hx hb dX2_takeIn_98 (by decide) ?_
          exact kretz hx hb hRt hlk hK hP hD hS rfl dX2_takeIn_99 (Or.inr rfl) (⟨_, _, _, _, Or.inr ⟨by rw [tk, if_neg (fun z => z.elim f1 f2)]; simp only [f3, f4, if_true, if_false, ↓reduceIte], rfl⟩, rfl⟩)
        · skip
          have f4 := kst_1.mp c_83
          refine lv_aload_n hx hb dX2_takeIn_86 rfl (lv_at hl 0 rfl) ?_
          refine lv_iload_n hx hb dX2_takeIn_87 rfl (lv_at hl 1 rfl) ?_
          refine lv_iload_n hx hb dX2_takeIn_88 rfl (lv_at hl 3 rfl) ?_
          refine lv_iadd hx hb dX2_takeIn_89 ?_
          rw [show ((kI ρ) + (kI β) : Int32) = kI (ρ + β) from kI_add ρ β]
          refine va_put (D := g.1) (ci := 4) (v := .int (kI (ρ + β))) (ty := .int) (C := RX2) (T := TX2) (N := 5) hx hb hts (by decide +kernel) tyX2 tyX2_ok nmX2 hown hK hP hD hS 0 rfl rfl 3 (by decide) (hts (.fieldLink RX2 21 "LearnedIndex$Run" "topNumerator" "I") (by decide +kernel)) (fun _ h9 => h9) rfl (by decide +kernel) rfl rfl (Nat.le_of_ble_eq_true rfl) dX2_takeIn_90 (fun H locs hP hD hS => ?_)
          have hP : va_P g.1 vwCl [(h, .inr (4, [.int ℓ, .int (kI a), .int (kI b), .int (kI (ρ + β)), .int (kI d)]))] H := hP
          have hD : va_D A [(h, .inr (4, [.int ℓ, .int (kI a), .int (kI b), .int (kI (ρ + β)), .int (kI d)]))] := hD
          refine lv_aload_n hx hb dX2_takeIn_93 rfl (lv_at hl 0 rfl) ?_
          refine lv_iload_n hx hb dX2_takeIn_94 rfl (lv_at hl 2 rfl) ?_
          refine va_put (D := g.1) (ci := 4) (v := .int (kI δ)) (ty := .int) (C := RX2) (T := TX2) (N := 5) hx hb hts (by decide +kernel) tyX2 tyX2_ok nmX2 hown hK hP hD hS 0 rfl rfl 4 (by decide) (hts (.fieldLink RX2 24 "LearnedIndex$Run" "topDenominator" "I") (by decide +kernel)) (fun _ h9 => h9) rfl (by decide +kernel) rfl rfl (Nat.le_of_ble_eq_true rfl) dX2_takeIn_95 (fun H locs hP hD hS => ?_)
          have hP : va_P g.1 vwCl [(h, .inr (4, [.int ℓ, .int (kI a), .int (kI b), .int (kI (ρ + β)), .int (kI δ)]))] H := hP
          have hD : va_D A [(h, .inr (4, [.int ℓ, .int (kI a), .int (kI b), .int (kI (ρ + β)), .int (kI δ)]))] := hD
          refine lv_iconst (v := 1) hx hb dX2_takeIn_98 (by decide) ?_
          exact kretz hx hb hRt hlk hK hP hD hS rfl dX2_takeIn_99 (Or.inr rfl) (⟨_, _, _, _, Or.inr ⟨by rw [tk, if_neg (fun z => z.elim f1 f2)]; simp only [f3, f4, if_true, if_false, ↓reduceIte], rfl⟩, rfl⟩)
      · skip
        have f3 := kst_1.mp c_53
        refine lv_aload_n hx hb dX2_takeIn_56 rfl (lv_at hl 0 rfl) ?_
        refine lv_iload_n hx hb dX2_takeIn_57 rfl (lv_at hl 1 rfl) ?_
        refine lv_iload_n hx hb dX2_takeIn_58 rfl (lv_at hl 3 rfl) ?_
        refine lv_isub hx hb dX2_takeIn_59 ?_
        rw [show ((kI ρ) - (kI β) : Int32) = kI (ρ - β) from kI_sub ρ β]
        refine va_put (D := g.1) (ci := 4) (v := .int (kI (ρ - β))) (ty := .int) (C := RX2) (T := TX2) (N := 5) hx hb hts (by decide +kernel) tyX2 tyX2_ok nmX2 hown hK hP hD hS 0 rfl rfl 1 (by decide) (hts (.fieldLink RX2 15 "LearnedIndex$Run" "numerator" "I") (by decide +kernel)) (fun _ h9 => h9) rfl (by decide +kernel) rfl rfl (Nat.le_of_ble_eq_true rfl) dX2_takeIn_60 (fun H locs hP hD hS => ?_)
        have hP : va_P g.1 vwCl [(h, .inr (4, [.int ℓ, .int (kI (ρ - β)), .int (kI b), .int (kI c), .int (kI d)]))] H := hP
        have hD : va_D A [(h, .inr (4, [.int ℓ, .int (kI (ρ - β)), .int (kI b), .int (kI c), .int (kI d)]))] := hD
        refine lv_aload_n hx hb dX2_takeIn_63 rfl (lv_at hl 0 rfl) ?_
        refine lv_iload_n hx hb dX2_takeIn_64 rfl (lv_at hl 2 rfl) ?_
        refine va_put (D := g.1) (ci := 4) (v := .int (kI δ)) (ty := .int) (C := RX2) (T := TX2) (N := 5) hx hb hts (by decide +kernel) tyX2 tyX2_ok nmX2 hown hK hP hD hS 0 rfl rfl 2 (by decide) (hts (.fieldLink RX2 18 "LearnedIndex$Run" "denominator" "I") (by decide +kernel)) (fun _ h9 => h9) rfl (by decide +kernel) rfl rfl (Nat.le_of_ble_eq_true rfl) dX2_takeIn_65 (fun H locs hP hD hS => ?_)
        have hP : va_P g.1 vwCl [(h, .inr (4, [.int ℓ, .int (kI (ρ - β)), .int (kI δ), .int (kI c), .int (kI d)]))] H := hP
        have hD : va_D A [(h, .inr (4, [.int ℓ, .int (kI (ρ - β)), .int (kI δ), .int (kI c), .int (kI d)]))] := hD
        refine lv_aload_n hx hb dX2_takeIn_68 rfl (lv_at hl 0 rfl) ?_
        refine va_get (D := g.1) (ci := 4) (v := .int (kI c)) (C := RX2) (T := TX2) (N := 5) hx hb hts (by decide +kernel) hown hK hP 0 rfl rfl 3 (by decide) (hts (.fieldLink RX2 21 "LearnedIndex$Run" "topNumerator" "I") (by decide +kernel)) (fun _ h9 => h9) rfl dX2_takeIn_69 ?_
        refine lv_aload_n hx hb dX2_takeIn_72 rfl (lv_at hl 0 rfl) ?_
        refine va_get (D := g.1) (ci := 4) (v := .int (kI d)) (C := RX2) (T := TX2) (N := 5) hx hb hts (by decide +kernel) hown hK hP 0 rfl rfl 4 (by decide) (hts (.fieldLink RX2 24 "LearnedIndex$Run" "topDenominator" "I") (by decide +kernel)) (fun _ h9 => h9) rfl dX2_takeIn_73 ?_
        refine lv_iload_n hx hb dX2_takeIn_76 rfl (lv_at hl 1 rfl) ?_
        refine lv_iload_n hx hb dX2_takeIn_77 rfl (lv_at hl 3 rfl) ?_
        refine lv_iadd hx hb dX2_takeIn_78 ?_
        rw [show ((kI ρ) + (kI β) : Int32) = kI (ρ + β) from kI_add ρ β]
        refine lv_iload_n hx hb dX2_takeIn_79 rfl (lv_at hl 2 rfl) ?_
        refine kcalli (wc := []) [] (va_runS (As := [.int (kI c), .int (kI d), .int (kI (ρ + β)), .int (kI δ)]) (rest := []) ⟨hx, hb, hml, hown, hts⟩ ((c_X2_isSteeper l g c d (ρ + β) δ (kmulb (by omega) (by omega) (by omega) (by omega)) (kmulb (by omega) (by omega) (by omega) (by omega))) _) (va_cwS 4 hts gX2_takeIn_X2_isSteeper rfl rfl rfl (by decide +kernel) ⟨Nat.le_of_ble_eq_true rfl, Nat.le_of_ble_eq_true rfl⟩) (kpreS (wc := []) hK hP hD hS hA hE [] rfl rfl) rfl rfl hl.1 rfl (lv_room (Nat.le_of_ble_eq_true rfl)) dX2_takeIn_80 ⟨Nat.zero_le _, Nat.zero_le _⟩) hP hD hS hA rfl (fun r_5 w_5 H locs hp hP hD hS => ?_)
        obtain ⟨rfl, rfl⟩ := hp
        have hP : va_P g.1 vwCl [(h, .inr (4, [.int ℓ, .int (kI (ρ - β)), .int (kI δ), .int (kI c), .int (kI d)]))] H := hP
        have hD : va_D A [(h, .inr (4, [.int ℓ, .int (kI (ρ - β)), .int (kI δ), .int (kI c), .int (kI d)]))] := hD
        refine lv_if_eq (tgt := 98) hx hb dX2_takeIn_83 (by decide) (fun c_83 => ?_) (fun c_83 => ?_)
        · skip
          have f4 := kst_0.mp c_83
          refine lv_iconst (v := 1) hx hb dX2_takeIn_98 (by decide) ?_
          exact kretz hx hb hRt hlk hK hP hD hS rfl dX2_takeIn_99 (Or.inr rfl) (⟨_, _, _, _, Or.inr ⟨by rw [tk, if_neg (fun z => z.elim f1 f2)]; simp only [f3, f4, if_true, if_false, ↓reduceIte], rfl⟩, rfl⟩)
        · skip
          have f4 := kst_1.mp c_83
          refine lv_aload_n hx hb dX2_takeIn_86 rfl (lv_at hl 0 rfl) ?_
          refine lv_iload_n hx hb dX2_takeIn_87 rfl (lv_at hl 1 rfl) ?_
          refine lv_iload_n hx hb dX2_takeIn_88 rfl (lv_at hl 3 rfl) ?_
          refine lv_iadd hx hb dX2_takeIn_89 ?_
          rw [show ((kI ρ) + (kI β) : Int32) = kI (ρ + β) from kI_add ρ β]
          refine va_put (D := g.1) (ci := 4) (v := .int (kI (ρ + β))) (ty := .int) (C := RX2) (T := TX2) (N := 5) hx hb hts (by decide +kernel) tyX2 tyX2_ok nmX2 hown hK hP hD hS 0 rfl rfl 3 (by decide) (hts (.fieldLink RX2 21 "LearnedIndex$Run" "topNumerator" "I") (by decide +kernel)) (fun _ h9 => h9) rfl (by decide +kernel) rfl rfl (Nat.le_of_ble_eq_true rfl) dX2_takeIn_90 (fun H locs hP hD hS => ?_)
          have hP : va_P g.1 vwCl [(h, .inr (4, [.int ℓ, .int (kI (ρ - β)), .int (kI δ), .int (kI (ρ + β)), .int (kI d)]))] H := hP
          have hD : va_D A [(h, .inr (4, [.int ℓ, .int (kI (ρ - β)), .int (kI δ), .int (kI (ρ + β)), .int (kI d)]))] := hD
          refine lv_aload_n hx hb dX2_takeIn_93 rfl (lv_at hl 0 rfl) ?_
          refine lv_iload_n hx hb dX2_takeIn_94 rfl (lv_at hl 2 rfl) ?_
          refine va_put (D := g.1) (ci := 4) (v := .int (kI δ)) (ty := .int) (C := RX2) (T := TX2) (N := 5) hx hb hts (by decide +kernel) tyX2 tyX2_ok nmX2 hown hK hP hD hS 0 rfl rfl 4 (by decide) (hts (.fieldLink RX2 24 "LearnedIndex$Run" "topDenominator" "I") (by decide +kernel)) (fun _ h9 => h9) rfl (by decide +kernel) rfl rfl (Nat.le_of_ble_eq_true rfl) dX2_takeIn_95 (fun H locs hP hD hS => ?_)
          have hP : va_P g.1 vwCl [(h, .inr (4, [.int ℓ, .int (kI (ρ - β)), .int (kI δ), .int (kI (ρ + β)), .int (kI δ)]))] H := hP
          have hD : va_D A [(h, .inr (4, [.int ℓ, .int (kI (ρ - β)), .int (kI δ), .int (kI (ρ + β)), .int (kI δ)]))] := hD
          refine lv_iconst (v := 1) hx hb dX2_takeIn_98 (by decide) ?_
          exact kretz hx hb hRt hlk hK hP hD hS rfl dX2_takeIn_99 (Or.inr rfl) (⟨_, _, _, _, Or.inr ⟨by rw [tk, if_neg (fun z => z.elim f1 f2)]; simp only [f3, f4, if_true, if_false, ↓reduceIte], rfl⟩, rfl⟩)
    · skip
      have f2 := kst_1.mp c_33
      refine lv_iconst (v := 0) hx hb dX2_takeIn_36 (by decide) ?_
      exact kretz hx hb hRt hlk hK hP hD hS rfl dX2_takeIn_37 (Or.inl rfl) (⟨a, b, c, d, Or.inl ⟨by rw [tk, if_pos (Or.inr f2)], rfl, rfl, rfl, rfl, rfl⟩, rfl⟩)
theorem dX2_reduce_0 : decode cX2_reduce 0 = .ok (.aload_n 0, 1) := by decide +kernel
theorem dX2_reduce_1 : decode cX2_reduce 1 = .ok (.getfield 18, 3) := by decide +kernel
theorem dX2_reduce_4 : decode cX2_reduce 4 = .ok (.istore_n 1, 1) := by decide +kernel
theorem dX2_reduce_5 : decode cX2_reduce 5 = .ok (.aload_n 0, 1) := by decide +kernel
theorem dX2_reduce_6 : decode cX2_reduce 6 = .ok (.getfield 15, 3) := by decide +kernel
theorem dX2_reduce_9 : decode cX2_reduce 9 = .ok (.istore_n 2, 1) := by decide +kernel
theorem dX2_reduce_10 : decode cX2_reduce 10 = .ok (.iconst 0, 1) := by decide +kernel
theorem dX2_reduce_11 : decode cX2_reduce 11 = .ok (.istore_n 3, 1) := by decide +kernel
theorem dX2_reduce_12 : decode cX2_reduce 12 = .ok (.iload_n 3, 1) := by decide +kernel
theorem dX2_reduce_13 : decode cX2_reduce 13 = .ok (.bipush 64, 2) := by decide +kernel
theorem dX2_reduce_15 : decode cX2_reduce 15 = .ok (.if_icmp .ge 23, 3) := by decide +kernel
theorem dX2_reduce_18 : decode cX2_reduce 18 = .ok (.iload_n 2, 1) := by decide +kernel
theorem dX2_reduce_19 : decode cX2_reduce 19 = .ok (.ifCond .eq 19, 3) := by decide +kernel
theorem dX2_reduce_22 : decode cX2_reduce 22 = .ok (.iload_n 1, 1) := by decide +kernel
theorem dX2_reduce_23 : decode cX2_reduce 23 = .ok (.iload_n 2, 1) := by decide +kernel
theorem dX2_reduce_24 : decode cX2_reduce 24 = .ok (.irem, 1) := by decide +kernel
theorem dX2_reduce_25 : decode cX2_reduce 25 = .ok (.istore 4, 2) := by decide +kernel
theorem dX2_reduce_27 : decode cX2_reduce 27 = .ok (.iload_n 2, 1) := by decide +kernel
theorem dX2_reduce_28 : decode cX2_reduce 28 = .ok (.istore_n 1, 1) := by decide +kernel
theorem dX2_reduce_29 : decode cX2_reduce 29 = .ok (.iload 4, 2) := by decide +kernel
theorem dX2_reduce_31 : decode cX2_reduce 31 = .ok (.istore_n 2, 1) := by decide +kernel
theorem dX2_reduce_32 : decode cX2_reduce 32 = .ok (.iinc 3 1, 3) := by decide +kernel
theorem dX2_reduce_35 : decode cX2_reduce 35 = .ok (.goto (-23), 3) := by decide +kernel
theorem dX2_reduce_38 : decode cX2_reduce 38 = .ok (.iload_n 1, 1) := by decide +kernel
theorem dX2_reduce_39 : decode cX2_reduce 39 = .ok (.iconst 1, 1) := by decide +kernel
theorem dX2_reduce_40 : decode cX2_reduce 40 = .ok (.if_icmp .le 23, 3) := by decide +kernel
theorem dX2_reduce_43 : decode cX2_reduce 43 = .ok (.aload_n 0, 1) := by decide +kernel
theorem dX2_reduce_44 : decode cX2_reduce 44 = .ok (.dup, 1) := by decide +kernel
theorem dX2_reduce_45 : decode cX2_reduce 45 = .ok (.getfield 15, 3) := by decide +kernel
theorem dX2_reduce_48 : decode cX2_reduce 48 = .ok (.iload_n 1, 1) := by decide +kernel
theorem dX2_reduce_49 : decode cX2_reduce 49 = .ok (.idiv, 1) := by decide +kernel
theorem dX2_reduce_50 : decode cX2_reduce 50 = .ok (.putfield 15, 3) := by decide +kernel
theorem dX2_reduce_53 : decode cX2_reduce 53 = .ok (.aload_n 0, 1) := by decide +kernel
theorem dX2_reduce_54 : decode cX2_reduce 54 = .ok (.dup, 1) := by decide +kernel
theorem dX2_reduce_55 : decode cX2_reduce 55 = .ok (.getfield 18, 3) := by decide +kernel
theorem dX2_reduce_58 : decode cX2_reduce 58 = .ok (.iload_n 1, 1) := by decide +kernel
theorem dX2_reduce_59 : decode cX2_reduce 59 = .ok (.idiv, 1) := by decide +kernel
theorem dX2_reduce_60 : decode cX2_reduce 60 = .ok (.putfield 18, 3) := by decide +kernel
theorem dX2_reduce_63 : decode cX2_reduce 63 = .ok (.return_, 1) := by decide +kernel
def rm_X2_reduce : Room := { frames := 0, cells := 0, slots := 0, locals := 0 }
abbrev p_X2_reduce (g : kG) (h : Nat) (ℓ : Int32) (α : Nat) (γ : Nat) (t1 : Int32) (t2 : Int32) : va_W → Prop := fun w1 => w1 = [(h, .inr (4, [.int ℓ, .int (nI (α / Nat.gcd γ α)), .int (nI (γ / Nat.gcd γ α)), .int t1, .int t2]))]
set_option maxHeartbeats 4000000 in
set_option maxRecDepth 100000 in
theorem c_X2_reduce (l : Launch) (g : kG) (h : Nat) (ℓ : Int32) (α : Nat) (γ : Nat) (t1 : Int32) (t2 : Int32) (hαγ : α ≤ γ) (hγ : 1 ≤ γ ∧ γ ≤ 10000) : KV l yX2_reduce wsX2_reduce rm_X2_reduce g [.ref h] [(h, .inr (4, [.int ℓ, .int (nI α), .int (nI γ), .int t1, .int t2]))] (p_X2_reduce g h ℓ α γ t1 t2) := by
  refine kbodyV (cc := cX2_reduce) (n := 5) (k := 1) (own := RX2) (plainFor_of_name (by decide)) rfl rfl rfl rfl ?_
  intro p e s m below meth cd A ls hcx
  obtain ⟨hx, hb, hRt, hml, hts, hown, hlk, hA, hP, hK, hD, hE, hS, hl⟩ := hcx
  have hl : lv_has ls 5 [(0, .ref h)] := hl
  refine lv_aload_n hx hb dX2_reduce_0 rfl (lv_at hl 0 rfl) ?_
  refine va_get (D := g.1) (ci := 4) (v := .int (nI γ)) (C := RX2) (T := TX2) (N := 5) hx hb hts (by decide +kernel) hown hK hP 0 rfl rfl 2 (by decide) (hts (.fieldLink RX2 18 "LearnedIndex$Run" "denominator" "I") (by decide +kernel)) (fun _ h9 => h9) rfl dX2_reduce_1 ?_
  refine lv_istore_n (lv' := [(1, .int (nI γ)), (0, .ref h)]) hx hb dX2_reduce_4 rfl hl (by decide) rfl (fun ls hl => ?_)
  refine lv_aload_n hx hb dX2_reduce_5 rfl (lv_at hl 1 rfl) ?_
  refine va_get (D := g.1) (ci := 4) (v := .int (nI α)) (C := RX2) (T := TX2) (N := 5) hx hb hts (by decide +kernel) hown hK hP 0 rfl rfl 1 (by decide) (hts (.fieldLink RX2 15 "LearnedIndex$Run" "numerator" "I") (by decide +kernel)) (fun _ h9 => h9) rfl dX2_reduce_6 ?_
  refine lv_istore_n (lv' := [(2, .int (nI α)), (1, .int (nI γ)), (0, .ref h)]) hx hb dX2_reduce_9 rfl hl (by decide) rfl (fun ls hl => ?_)
  refine lv_iconst (v := 0) hx hb dX2_reduce_10 (by decide) ?_
  refine lv_istore_n (lv' := [(3, .int 0), (2, .int (nI α)), (1, .int (nI γ)), (0, .ref h)]) hx hb dX2_reduce_11 rfl hl (by decide) rfl (fun ls hl => ?_)
  have L12 : ∀ (n9 : Nat) (k : Nat) (D : Nat) (R : Nat) (H : Heap) (locs : List Loc) (ls : Array Slot), (k ≤ 64) → (kev k D R) → (Nat.gcd D R = Nat.gcd γ α) → (0 < D) → 64 - k < n9 → va_P g.1 vwCl [(h, .inr (4, [.int ℓ, .int (nI α), .int (nI γ), .int t1, .int t2]))] H → va_D A [(h, .inr (4, [.int ℓ, .int (nI α), .int (nI γ), .int t1, .int t2]))] → va_S A s.heap H locs → lv_has ls 5 [(3, .int (nI k)), (2, .int (nI R)), (1, .int (nI D)), (0, .ref h)] → W p l e rm_X2_reduce s m ([.ref h] : List Value).toArray below meth cd H locs 0 0 (kQv g 1 A (p_X2_reduce g h ℓ α γ t1 t2) below ([.ref h] : List Value).toArray s) (F0 m 12 ls []) := by
    intro n9
    induction n9 with
    | zero => intro k D R H locs ls hk hev hg hDp h9; exact absurd h9 (Nat.not_lt_zero _)
    | succ n9 ih12 =>
      intro k D R H locs ls hk hev hg hDp hn12 hP hD hS hl
      refine lv_iload_n hx hb dX2_reduce_12 rfl (lv_at hl 0 rfl) ?_
      refine lv_bipush (v := 64) hx hb dX2_reduce_13 (by decide) ?_
      have hk64 : k < 64 := Nat.lt_of_le_of_ne hk (fun z => kev_end hDp (z ▸ hev))
      have hle := kev_le hev
      refine lv_icmp_ge (tgt := 38) hx hb dX2_reduce_15 (by decide) (fun c_15 => absurd c_15 (by rw [show (64 : Int32) = nI 64 from rfl, nI_leI (by decide) (by omega)]; omega)) (fun c_15 => ?_)
      refine lv_iload_n hx hb dX2_reduce_18 rfl (lv_at hl 1 rfl) ?_
      refine lv_if_eq (tgt := 38) hx hb dX2_reduce_19 (by decide) (fun c_19 => ?_) (fun c_19 => ?_)
      · skip
        have hR : R = 0 := Decidable.byContradiction (fun z => nI_ne0 (Nat.pos_of_ne_zero z) (by omega) c_19)
        refine lv_iload_n hx hb dX2_reduce_38 rfl (lv_at hl 2 rfl) ?_
        refine lv_iconst (v := 1) hx hb dX2_reduce_39 (by decide) ?_
        have hG : Nat.gcd γ α = D := by rw [← hg, hR, Nat.gcd_zero_right]
        refine lv_icmp_le (tgt := 63) hx hb dX2_reduce_40 (by decide) (fun c_40 => ?_) (fun c_40 => ?_)
        · skip
          have hD1 : D = 1 := by rw [show (1 : Int32) = nI 1 from rfl, nI_leI (by omega) (by decide)] at c_40; omega
          exact kretv hx hb hRt hlk hK hP hD hS rfl dX2_reduce_63 (by show _ = _; rw [hG, hD1, Nat.div_one, Nat.div_one])
        · skip
          have hD0 : ¬ nI D = 0 := nI_ne0 hDp (by omega)
          refine lv_aload_n hx hb dX2_reduce_43 rfl (lv_at hl 3 rfl) ?_
          refine lv_dup hx hb dX2_reduce_44 rfl ?_
          refine va_get (D := g.1) (ci := 4) (v := .int (nI α)) (C := RX2) (T := TX2) (N := 5) hx hb hts (by decide +kernel) hown hK hP 0 rfl rfl 1 (by decide) (hts (.fieldLink RX2 15 "LearnedIndex$Run" "numerator" "I") (by decide +kernel)) (fun _ h9 => h9) rfl dX2_reduce_45 ?_
          refine lv_iload_n hx hb dX2_reduce_48 rfl (lv_at hl 2 rfl) ?_
          refine lv_idiv hx hb dX2_reduce_49 hD0 ?_
          rw [show ((nI α) / (nI D) : Int32) = nI (α / D) from pk_div (by omega) hDp (by omega)]
          refine va_put (D := g.1) (ci := 4) (v := .int (nI (α / D))) (ty := .int) (C := RX2) (T := TX2) (N := 5) hx hb hts (by decide +kernel) tyX2 tyX2_ok nmX2 hown hK hP hD hS 0 rfl rfl 1 (by decide) (hts (.fieldLink RX2 15 "LearnedIndex$Run" "numerator" "I") (by decide +kernel)) (fun _ h9 => h9) rfl (by decide +kernel) rfl rfl (Nat.le_of_ble_eq_true rfl) dX2_reduce_50 (fun H locs hP hD hS => ?_)
          have hP : va_P g.1 vwCl [(h, .inr (4, [.int ℓ, .int (nI (α / D)), .int (nI γ), .int t1, .int t2]))] H := hP
          have hD : va_D A [(h, .inr (4, [.int ℓ, .int (nI (α / D)), .int (nI γ), .int t1, .int t2]))] := hD
          refine lv_aload_n hx hb dX2_reduce_53 rfl (lv_at hl 3 rfl) ?_
          refine lv_dup hx hb dX2_reduce_54 rfl ?_
          refine va_get (D := g.1) (ci := 4) (v := .int (nI γ)) (C := RX2) (T := TX2) (N := 5) hx hb hts (by decide +kernel) hown hK hP 0 rfl rfl 2 (by decide) (hts (.fieldLink RX2 18 "LearnedIndex$Run" "denominator" "I") (by decide +kernel)) (fun _ h9 => h9) rfl dX2_reduce_55 ?_
          refine lv_iload_n hx hb dX2_reduce_58 rfl (lv_at hl 2 rfl) ?_
          refine lv_idiv hx hb dX2_reduce_59 hD0 ?_
          rw [show ((nI γ) / (nI D) : Int32) = nI (γ / D) from pk_div (by omega) hDp (by omega)]
          refine va_put (D := g.1) (ci := 4) (v := .int (nI (γ / D))) (ty := .int) (C := RX2) (T := TX2) (N := 5) hx hb hts (by decide +kernel) tyX2 tyX2_ok nmX2 hown hK hP hD hS 0 rfl rfl 2 (by decide) (hts (.fieldLink RX2 18 "LearnedIndex$Run" "denominator" "I") (by decide +kernel)) (fun _ h9 => h9) rfl (by decide +kernel) rfl rfl (Nat.le_of_ble_eq_true rfl) dX2_reduce_60 (fun H locs hP hD hS => ?_)
          have hP : va_P g.1 vwCl [(h, .inr (4, [.int ℓ, .int (nI (α / D)), .int (nI (γ / D)), .int t1, .int t2]))] H := hP
          have hD : va_D A [(h, .inr (4, [.int ℓ, .int (nI (α / D)), .int (nI (γ / D)), .int t1, .int t2]))] := hD
          exact kretv hx hb hRt hlk hK hP hD hS rfl dX2_reduce_63 (by show _ = _; rw [hG])
      · skip
        have hR : 0 < R := Nat.pos_of_ne_zero (fun z => c_19 (by rw [z]; rfl))
        refine lv_iload_n hx hb dX2_reduce_22 rfl (lv_at hl 2 rfl) ?_
        refine lv_iload_n hx hb dX2_reduce_23 rfl (lv_at hl 1 rfl) ?_
        refine lv_irem hx hb dX2_reduce_24 c_19 ?_
        rw [show ((nI D) - (nI D) / (nI R) * (nI R) : Int32) = nI (D % R) from pk_rem (by omega) hR (by omega)]
        refine lv_istore (lv' := [(4, .int (nI (D % R))), (3, .int (nI k)), (2, .int (nI R)), (1, .int (nI D)), (0, .ref h)]) hx hb dX2_reduce_25 hl (by decide) rfl (fun ls hl => ?_)
        refine lv_iload_n hx hb dX2_reduce_27 rfl (lv_at hl 2 rfl) ?_
        refine lv_istore_n (lv' := [(1, .int (nI R)), (4, .int (nI (D % R))), (3, .int (nI k)), (2, .int (nI R)), (0, .ref h)]) hx hb dX2_reduce_28 rfl hl (by decide) rfl (fun ls hl => ?_)
        refine lv_iload hx hb dX2_reduce_29 (lv_at hl 1 rfl) ?_
        refine lv_istore_n (lv' := [(2, .int (nI (D % R))), (1, .int (nI R)), (4, .int (nI (D % R))), (3, .int (nI k)), (0, .ref h)]) hx hb dX2_reduce_31 rfl hl (by decide) rfl (fun ls hl => ?_)
        refine lv_iinc (v := nI (k + 1)) (lv' := [(3, .int (nI (k + 1))), (2, .int (nI (D % R))), (1, .int (nI R)), (4, .int (nI (D % R))), (0, .ref h)]) hx hb dX2_reduce_32 hl (k := 3) rfl (nI_1 k) (by decide) rfl (fun ls hl => ?_)
        refine lv_goto (tgt := 12) hx hb dX2_reduce_35 (by decide) ?_
        exact ih12 (k + 1) R (D % R) _ _ ls (by omega) (kev_s hev hR) (by rw [← hg, Nat.gcd_comm, ← Nat.gcd_rec, Nat.gcd_comm]) hR (by omega) hP hD hS (lv_sub hl [0, 1, 2, 4] rfl)
  exact L12 _ 0 γ α _ _ ls (by omega) (kev_0 hαγ hγ.2) rfl hγ.1 (Nat.lt_succ_self _) hP hD hS (lv_sub hl [0, 1, 2, 3] rfl)
set_option maxRecDepth 20000 in
theorem ggX2_grow_X0_key : GoodIn wsX2_grow wsX0_key := goodIn_ca (goodIn_r _ [10, 11, 12, 13, 14, 32, 33, 34, 35] (by decide +kernel) (by decide +kernel)) (goodIn_sub (fun _ h => List.mem_cons_of_mem _ (List.mem_append_left _ (List.mem_append_right _ h))) (by decide +kernel))
set_option maxRecDepth 20000 in
theorem gX2_grow_X0_key : GoodIn wsX2_grow (wsV RX2 32 RX0 yX0_key wsX0_key) := goodIn_app (goodIn_of _ (by decide +kernel)) ggX2_grow_X0_key
set_option maxRecDepth 20000 in
theorem ggX2_grow_X2_takeIn : GoodIn wsX2_grow wsX2_takeIn := goodIn_r _ [19, 4, 5, 2, 3, 20, 21, 18, 22, 27, 28, 29, 30, 31] (by decide +kernel) (by decide +kernel)
set_option maxRecDepth 20000 in
theorem gX2_grow_X2_takeIn : GoodIn wsX2_grow (wsV RX2 36 RX2 yX2_takeIn wsX2_takeIn) := goodIn_app (goodIn_of _ (by decide +kernel)) ggX2_grow_X2_takeIn
set_option maxRecDepth 20000 in
theorem ggX2_grow_X2_reduce : GoodIn wsX2_grow wsX2_reduce := goodIn_ca (goodIn_r _ [26, 3, 2, 27, 28, 29, 30, 31] (by decide +kernel) (by decide +kernel)) (goodIn_sub (fun _ h => List.mem_cons_of_mem _ (List.mem_append_right _ h)) (by decide +kernel))
set_option maxRecDepth 20000 in
theorem gX2_grow_X2_reduce : GoodIn wsX2_grow (wsV RX2 40 RX2 yX2_reduce wsX2_reduce) := goodIn_app (goodIn_of _ (by decide +kernel)) ggX2_grow_X2_reduce
theorem dX2_grow_0 : decode cX2_grow 0 = .ok (.aload_n 0, 1) := by decide +kernel
theorem dX2_grow_1 : decode cX2_grow 1 = .ok (.iload_n 2, 1) := by decide +kernel
theorem dX2_grow_2 : decode cX2_grow 2 = .ok (.putfield 9, 3) := by decide +kernel
theorem dX2_grow_5 : decode cX2_grow 5 = .ok (.aload_n 0, 1) := by decide +kernel
theorem dX2_grow_6 : decode cX2_grow 6 = .ok (.iconst 0, 1) := by decide +kernel
theorem dX2_grow_7 : decode cX2_grow 7 = .ok (.putfield 15, 3) := by decide +kernel
theorem dX2_grow_10 : decode cX2_grow 10 = .ok (.aload_n 0, 1) := by decide +kernel
theorem dX2_grow_11 : decode cX2_grow 11 = .ok (.iconst 1, 1) := by decide +kernel
theorem dX2_grow_12 : decode cX2_grow 12 = .ok (.putfield 18, 3) := by decide +kernel
theorem dX2_grow_15 : decode cX2_grow 15 = .ok (.aload_n 0, 1) := by decide +kernel
theorem dX2_grow_16 : decode cX2_grow 16 = .ok (.iconst 1, 1) := by decide +kernel
theorem dX2_grow_17 : decode cX2_grow 17 = .ok (.putfield 21, 3) := by decide +kernel
theorem dX2_grow_20 : decode cX2_grow 20 = .ok (.aload_n 0, 1) := by decide +kernel
theorem dX2_grow_21 : decode cX2_grow 21 = .ok (.iconst 1, 1) := by decide +kernel
theorem dX2_grow_22 : decode cX2_grow 22 = .ok (.putfield 24, 3) := by decide +kernel
theorem dX2_grow_25 : decode cX2_grow 25 = .ok (.iconst 1, 1) := by decide +kernel
theorem dX2_grow_26 : decode cX2_grow 26 = .ok (.istore 4, 2) := by decide +kernel
theorem dX2_grow_28 : decode cX2_grow 28 = .ok (.iload_n 2, 1) := by decide +kernel
theorem dX2_grow_29 : decode cX2_grow 29 = .ok (.iconst 1, 1) := by decide +kernel
theorem dX2_grow_30 : decode cX2_grow 30 = .ok (.iadd, 1) := by decide +kernel
theorem dX2_grow_31 : decode cX2_grow 31 = .ok (.istore 5, 2) := by decide +kernel
theorem dX2_grow_33 : decode cX2_grow 33 = .ok (.iload 5, 2) := by decide +kernel
theorem dX2_grow_35 : decode cX2_grow 35 = .ok (.aload_n 1, 1) := by decide +kernel
theorem dX2_grow_36 : decode cX2_grow 36 = .ok (.getfield 27, 3) := by decide +kernel
theorem dX2_grow_39 : decode cX2_grow 39 = .ok (.if_icmp .ge 48, 3) := by decide +kernel
theorem dX2_grow_42 : decode cX2_grow 42 = .ok (.iload 4, 2) := by decide +kernel
theorem dX2_grow_44 : decode cX2_grow 44 = .ok (.ifCond .eq 43, 3) := by decide +kernel
theorem dX2_grow_47 : decode cX2_grow 47 = .ok (.aload_n 0, 1) := by decide +kernel
theorem dX2_grow_48 : decode cX2_grow 48 = .ok (.iload 5, 2) := by decide +kernel
theorem dX2_grow_50 : decode cX2_grow 50 = .ok (.iload_n 2, 1) := by decide +kernel
theorem dX2_grow_51 : decode cX2_grow 51 = .ok (.isub, 1) := by decide +kernel
theorem dX2_grow_52 : decode cX2_grow 52 = .ok (.aload_n 1, 1) := by decide +kernel
theorem dX2_grow_53 : decode cX2_grow 53 = .ok (.iload 5, 2) := by decide +kernel
theorem dX2_grow_55 : decode cX2_grow 55 = .ok (.invokevirtual 32, 3) := by decide +kernel
theorem dX2_grow_58 : decode cX2_grow 58 = .ok (.aload_n 1, 1) := by decide +kernel
theorem dX2_grow_59 : decode cX2_grow 59 = .ok (.iload_n 2, 1) := by decide +kernel
theorem dX2_grow_60 : decode cX2_grow 60 = .ok (.invokevirtual 32, 3) := by decide +kernel
theorem dX2_grow_63 : decode cX2_grow 63 = .ok (.isub, 1) := by decide +kernel
theorem dX2_grow_64 : decode cX2_grow 64 = .ok (.iload_n 3, 1) := by decide +kernel
theorem dX2_grow_65 : decode cX2_grow 65 = .ok (.invokevirtual 36, 3) := by decide +kernel
theorem dX2_grow_68 : decode cX2_grow 68 = .ok (.istore 4, 2) := by decide +kernel
theorem dX2_grow_70 : decode cX2_grow 70 = .ok (.iload 4, 2) := by decide +kernel
theorem dX2_grow_72 : decode cX2_grow 72 = .ok (.ifCond .eq 9, 3) := by decide +kernel
theorem dX2_grow_75 : decode cX2_grow 75 = .ok (.aload_n 0, 1) := by decide +kernel
theorem dX2_grow_76 : decode cX2_grow 76 = .ok (.iload 5, 2) := by decide +kernel
theorem dX2_grow_78 : decode cX2_grow 78 = .ok (.putfield 9, 3) := by decide +kernel
theorem dX2_grow_81 : decode cX2_grow 81 = .ok (.iinc 5 1, 3) := by decide +kernel
theorem dX2_grow_84 : decode cX2_grow 84 = .ok (.goto (-51), 3) := by decide +kernel
theorem dX2_grow_87 : decode cX2_grow 87 = .ok (.aload_n 0, 1) := by decide +kernel
theorem dX2_grow_88 : decode cX2_grow 88 = .ok (.invokevirtual 40, 3) := by decide +kernel
theorem dX2_grow_91 : decode cX2_grow 91 = .ok (.return_, 1) := by decide +kernel
def rm_X2_grow : Room := { frames := 2, cells := 0, slots := 0, locals := 46 }
abbrev p_X2_grow (g : kG) (h : Nat) (r1 : Int32) (r2 : Int32) (r3 : Int32) (r4 : Int32) (r5 : Int32) (o : Nat) (ok : Nat) (ov : Nat) (or : Nat) (n : Nat) (fk : Nat → Int32) (fv : Nat → Int32) (fr : Nat → Int32) (f : Nat) (β : Int) (κ : Nat → Int) : va_W → Prop := fun w1 => ∃ (x4 : Int32), ∃ (x5 : Int32), w1 = [(h, .inr (4, [.int (nI (gw0 κ n f β).1), .int (nI ((gw0 κ n f β).2.1.toNat / Nat.gcd (gw0 κ n f β).2.2.toNat (gw0 κ n f β).2.1.toNat)), .int (nI ((gw0 κ n f β).2.2.toNat / Nat.gcd (gw0 κ n f β).2.2.toNat (gw0 κ n f β).2.1.toNat)), .int x4, .int x5])), (o, .inr (2, [.ref ok, .ref ov, .ref or, .int (nI n)])), (ok, .inl (g.2.1.1, 160, .inl fk)), (ov, .inl (g.2.1.1, 160, .inl fv)), (or, .inl (g.2.1.1, 160, .inl fr))]
set_option maxHeartbeats 4000000 in
set_option maxRecDepth 100000 in
theorem c_X2_grow (l : Launch) (g : kG) (h : Nat) (r1 : Int32) (r2 : Int32) (r3 : Int32) (r4 : Int32) (r5 : Int32) (o : Nat) (ok : Nat) (ov : Nat) (or : Nat) (n : Nat) (fk : Nat → Int32) (fv : Nat → Int32) (fr : Nat → Int32) (f : Nat) (β : Int) (κ : Nat → Int) (hκ : ∀ j, j < n → fk j = kI (κ j)) (hasc : kasc κ n) (hn : n ≤ 160) (hβ : 0 ≤ β ∧ β ≤ 8) (hf : f < n) : KV l yX2_grow wsX2_grow rm_X2_grow g [.ref h, .ref o, .int (nI f), .int (kI β)] [(h, .inr (4, [.int r1, .int r2, .int r3, .int r4, .int r5])), (o, .inr (2, [.ref ok, .ref ov, .ref or, .int (nI n)])), (ok, .inl (g.2.1.1, 160, .inl fk)), (ov, .inl (g.2.1.1, 160, .inl fv)), (or, .inl (g.2.1.1, 160, .inl fr))] (p_X2_grow g h r1 r2 r3 r4 r5 o ok ov or n fk fv fr f β κ) := by
  refine kbodyV (cc := cX2_grow) (n := 6) (k := 5) (own := RX2) (plainFor_of_name (by decide)) rfl rfl rfl rfl ?_
  intro p e s m below meth cd A ls hcx
  obtain ⟨hx, hb, hRt, hml, hts, hown, hlk, hA, hP, hK, hD, hE, hS, hl⟩ := hcx
  have hl : lv_has ls 6 [(0, .ref h), (1, .ref o), (2, .int (nI f)), (3, .int (kI β))] := hl
  refine lv_aload_n hx hb dX2_grow_0 rfl (lv_at hl 0 rfl) ?_
  refine lv_iload_n hx hb dX2_grow_1 rfl (lv_at hl 2 rfl) ?_
  refine va_put (D := g.1) (ci := 4) (v := .int (nI f)) (ty := .int) (C := RX2) (T := TX2) (N := 5) hx hb hts (by decide +kernel) tyX2 tyX2_ok nmX2 hown hK hP hD hS 0 rfl rfl 0 (by decide) (hts (.fieldLink RX2 9 "LearnedIndex$Run" "last" "I") (by decide +kernel)) (fun _ h9 => h9) rfl (by decide +kernel) rfl rfl (Nat.le_of_ble_eq_true rfl) dX2_grow_2 (fun H locs hP hD hS => ?_)
  have hP : va_P g.1 vwCl [(h, .inr (4, [.int (nI f), .int r2, .int r3, .int r4, .int r5])), (o, .inr (2, [.ref ok, .ref ov, .ref or, .int (nI n)])), (ok, .inl (g.2.1.1, 160, .inl fk)), (ov, .inl (g.2.1.1, 160, .inl fv)), (or, .inl (g.2.1.1, 160, .inl fr))] H := hP
  have hD : va_D A [(h, .inr (4, [.int (nI f), .int r2, .int r3, .int r4, .int r5])), (o, .inr (2, [.ref ok, .ref ov, .ref or, .int (nI n)])), (ok, .inl (g.2.1.1, 160, .inl fk)), (ov, .inl (g.2.1.1, 160, .inl fv)), (or, .inl (g.2.1.1, 160, .inl fr))] := hD
  refine lv_aload_n hx hb dX2_grow_5 rfl (lv_at hl 0 rfl) ?_
  refine lv_iconst (v := 0) hx hb dX2_grow_6 (by decide) ?_
  refine va_put (D := g.1) (ci := 4) (v := .int 0) (ty := .int) (C := RX2) (T := TX2) (N := 5) hx hb hts (by decide +kernel) tyX2 tyX2_ok nmX2 hown hK hP hD hS 0 rfl rfl 1 (by decide) (hts (.fieldLink RX2 15 "LearnedIndex$Run" "numerator" "I") (by decide +kernel)) (fun _ h9 => h9) rfl (by decide +kernel) rfl rfl (Nat.le_of_ble_eq_true rfl) dX2_grow_7 (fun H locs hP hD hS => ?_)
  have hP : va_P g.1 vwCl [(h, .inr (4, [.int (nI f), .int 0, .int r3, .int r4, .int r5])), (o, .inr (2, [.ref ok, .ref ov, .ref or, .int (nI n)])), (ok, .inl (g.2.1.1, 160, .inl fk)), (ov, .inl (g.2.1.1, 160, .inl fv)), (or, .inl (g.2.1.1, 160, .inl fr))] H := hP
  have hD : va_D A [(h, .inr (4, [.int (nI f), .int 0, .int r3, .int r4, .int r5])), (o, .inr (2, [.ref ok, .ref ov, .ref or, .int (nI n)])), (ok, .inl (g.2.1.1, 160, .inl fk)), (ov, .inl (g.2.1.1, 160, .inl fv)), (or, .inl (g.2.1.1, 160, .inl fr))] := hD
  refine lv_aload_n hx hb dX2_grow_10 rfl (lv_at hl 0 rfl) ?_
  refine lv_iconst (v := 1) hx hb dX2_grow_11 (by decide) ?_
  refine va_put (D := g.1) (ci := 4) (v := .int 1) (ty := .int) (C := RX2) (T := TX2) (N := 5) hx hb hts (by decide +kernel) tyX2 tyX2_ok nmX2 hown hK hP hD hS 0 rfl rfl 2 (by decide) (hts (.fieldLink RX2 18 "LearnedIndex$Run" "denominator" "I") (by decide +kernel)) (fun _ h9 => h9) rfl (by decide +kernel) rfl rfl (Nat.le_of_ble_eq_true rfl) dX2_grow_12 (fun H locs hP hD hS => ?_)
  have hP : va_P g.1 vwCl [(h, .inr (4, [.int (nI f), .int 0, .int 1, .int r4, .int r5])), (o, .inr (2, [.ref ok, .ref ov, .ref or, .int (nI n)])), (ok, .inl (g.2.1.1, 160, .inl fk)), (ov, .inl (g.2.1.1, 160, .inl fv)), (or, .inl (g.2.1.1, 160, .inl fr))] H := hP
  have hD : va_D A [(h, .inr (4, [.int (nI f), .int 0, .int 1, .int r4, .int r5])), (o, .inr (2, [.ref ok, .ref ov, .ref or, .int (nI n)])), (ok, .inl (g.2.1.1, 160, .inl fk)), (ov, .inl (g.2.1.1, 160, .inl fv)), (or, .inl (g.2.1.1, 160, .inl fr))] := hD
  refine lv_aload_n hx hb dX2_grow_15 rfl (lv_at hl 0 rfl) ?_
  refine lv_iconst (v := 1) hx hb dX2_grow_16 (by decide) ?_
  refine va_put (D := g.1) (ci := 4) (v := .int 1) (ty := .int) (C := RX2) (T := TX2) (N := 5) hx hb hts (by decide +kernel) tyX2 tyX2_ok nmX2 hown hK hP hD hS 0 rfl rfl 3 (by decide) (hts (.fieldLink RX2 21 "LearnedIndex$Run" "topNumerator" "I") (by decide +kernel)) (fun _ h9 => h9) rfl (by decide +kernel) rfl rfl (Nat.le_of_ble_eq_true rfl) dX2_grow_17 (fun H locs hP hD hS => ?_)
  have hP : va_P g.1 vwCl [(h, .inr (4, [.int (nI f), .int 0, .int 1, .int 1, .int r5])), (o, .inr (2, [.ref ok, .ref ov, .ref or, .int (nI n)])), (ok, .inl (g.2.1.1, 160, .inl fk)), (ov, .inl (g.2.1.1, 160, .inl fv)), (or, .inl (g.2.1.1, 160, .inl fr))] H := hP
  have hD : va_D A [(h, .inr (4, [.int (nI f), .int 0, .int 1, .int 1, .int r5])), (o, .inr (2, [.ref ok, .ref ov, .ref or, .int (nI n)])), (ok, .inl (g.2.1.1, 160, .inl fk)), (ov, .inl (g.2.1.1, 160, .inl fv)), (or, .inl (g.2.1.1, 160, .inl fr))] := hD
  refine lv_aload_n hx hb dX2_grow_20 rfl (lv_at hl 0 rfl) ?_
  refine lv_iconst (v := 1) hx hb dX2_grow_21 (by decide) ?_
  refine va_put (D := g.1) (ci := 4) (v := .int 1) (ty := .int) (C := RX2) (T := TX2) (N := 5) hx hb hts (by decide +kernel) tyX2 tyX2_ok nmX2 hown hK hP hD hS 0 rfl rfl 4 (by decide) (hts (.fieldLink RX2 24 "LearnedIndex$Run" "topDenominator" "I") (by decide +kernel)) (fun _ h9 => h9) rfl (by decide +kernel) rfl rfl (Nat.le_of_ble_eq_true rfl) dX2_grow_22 (fun H locs hP hD hS => ?_)
  have hP : va_P g.1 vwCl [(h, .inr (4, [.int (nI f), .int 0, .int 1, .int 1, .int 1])), (o, .inr (2, [.ref ok, .ref ov, .ref or, .int (nI n)])), (ok, .inl (g.2.1.1, 160, .inl fk)), (ov, .inl (g.2.1.1, 160, .inl fv)), (or, .inl (g.2.1.1, 160, .inl fr))] H := hP
  have hD : va_D A [(h, .inr (4, [.int (nI f), .int 0, .int 1, .int 1, .int 1])), (o, .inr (2, [.ref ok, .ref ov, .ref or, .int (nI n)])), (ok, .inl (g.2.1.1, 160, .inl fk)), (ov, .inl (g.2.1.1, 160, .inl fv)), (or, .inl (g.2.1.1, 160, .inl fr))] := hD
  refine lv_iconst (v := 1) hx hb dX2_grow_25 (by decide) ?_
  refine lv_istore (lv' := [(4, .int 1), (0, .ref h), (1, .ref o), (2, .int (nI f)), (3, .int (kI β))]) hx hb dX2_grow_26 hl (by decide) rfl (fun ls hl => ?_)
  refine lv_iload_n hx hb dX2_grow_28 rfl (lv_at hl 3 rfl) ?_
  refine lv_iconst (v := 1) hx hb dX2_grow_29 (by decide) ?_
  refine lv_iadd hx hb dX2_grow_30 ?_
  rw [show ((nI f) + 1 : Int32) = nI (f + 1) from nI_1 f]
  refine lv_istore (lv' := [(5, .int (nI (f + 1))), (4, .int 1), (0, .ref h), (1, .ref o), (2, .int (nI f)), (3, .int (kI β))]) hx hb dX2_grow_31 hl (by decide) rfl (fun ls hl => ?_)
  have L33 : ∀ (n9 : Nat) (q : Nat) (ℓ : Nat) (fl : Int32) (a : Int) (b : Int) (c : Int) (d : Int) (H : Heap) (locs : List Loc) (ls : Array Slot), (f < q ∧ q ≤ n) → (kbd a b c d) → ((fl = 1 ∧ q = ℓ + 1 ∧ gw κ f β (n - q) q a b c d = gw0 κ n f β) ∨ (fl = 0 ∧ gw0 κ n f β = (ℓ, a, b))) → n - q < n9 → va_P g.1 vwCl [(h, .inr (4, [.int (nI ℓ), .int (kI a), .int (kI b), .int (kI c), .int (kI d)])), (o, .inr (2, [.ref ok, .ref ov, .ref or, .int (nI n)])), (ok, .inl (g.2.1.1, 160, .inl fk)), (ov, .inl (g.2.1.1, 160, .inl fv)), (or, .inl (g.2.1.1, 160, .inl fr))] H → va_D A [(h, .inr (4, [.int (nI ℓ), .int (kI a), .int (kI b), .int (kI c), .int (kI d)])), (o, .inr (2, [.ref ok, .ref ov, .ref or, .int (nI n)])), (ok, .inl (g.2.1.1, 160, .inl fk)), (ov, .inl (g.2.1.1, 160, .inl fv)), (or, .inl (g.2.1.1, 160, .inl fr))] → va_S A s.heap H locs → lv_has ls 6 [(5, .int (nI q)), (4, .int fl), (0, .ref h), (1, .ref o), (2, .int (nI f)), (3, .int (kI β))] → W p l e rm_X2_grow s m ([.ref h, .ref o, .int (nI f), .int (kI β)] : List Value).toArray below meth cd H locs 0 0 (kQv g 5 A (p_X2_grow g h r1 r2 r3 r4 r5 o ok ov or n fk fv fr f β κ) below ([.ref h, .ref o, .int (nI f), .int (kI β)] : List Value).toArray s) (F0 m 33 ls []) := by
    intro n9
    induction n9 with
    | zero => intro q ℓ fl a b c d H locs ls hq hbd hst h9; exact absurd h9 (Nat.not_lt_zero _)
    | succ n9 ih33 =>
      intro q ℓ fl a b c d H locs ls hq hbd hst hn33 hP hD hS hl
      refine lv_iload hx hb dX2_grow_33 (lv_at hl 0 rfl) ?_
      refine lv_aload_n hx hb dX2_grow_35 rfl (lv_at hl 3 rfl) ?_
      refine va_getN (D := g.1) (ci := 2) (v := .int (nI n)) (C := RX0) (T := TX0) (N := 4) hx hb hts (by decide +kernel) hown hK hP 1 rfl rfl 3 (by decide) (va_Nw.use rfl (hE.1 _ (List.mem_of_getElem? (i := 29) rfl))) (fun _ h9 => h9) rfl dX2_grow_36 ?_
      refine lv_icmp_ge (tgt := 87) hx hb dX2_grow_39 (by decide) (fun c_39 => ?_) (fun c_39 => ?_)
      · skip
        have hpn : n ≤ q := kg (by omega) (by omega) c_39
        have hres : gw0 κ n f β = (ℓ, a, b) := hst.elim (fun h9 => by rw [← h9.2.2, gw_end hpn, h9.2.1]; rfl) (fun h9 => h9.2)
        obtain ⟨⟨ha1, ha2, ha3⟩, ⟨hb1, hb2⟩, -⟩ := id hbd
        have ea : kI a = nI a.toNat := by rw [kI_nI, Int.toNat_of_nonneg ha1]
        have eb : kI b = nI b.toNat := by rw [kI_nI, Int.toNat_of_nonneg (by omega)]
        rw [ea, eb] at hP hD
        have hP : va_P g.1 vwCl [(h, .inr (4, [.int (nI ℓ), .int (nI a.toNat), .int (nI b.toNat), .int (kI c), .int (kI d)])), (o, .inr (2, [.ref ok, .ref ov, .ref or, .int (nI n)])), (ok, .inl (g.2.1.1, 160, .inl fk)), (ov, .inl (g.2.1.1, 160, .inl fv)), (or, .inl (g.2.1.1, 160, .inl fr))] H := hP
        have hD : va_D A [(h, .inr (4, [.int (nI ℓ), .int (nI a.toNat), .int (nI b.toNat), .int (kI c), .int (kI d)])), (o, .inr (2, [.ref ok, .ref ov, .ref or, .int (nI n)])), (ok, .inl (g.2.1.1, 160, .inl fk)), (ov, .inl (g.2.1.1, 160, .inl fv)), (or, .inl (g.2.1.1, 160, .inl fr))] := hD
        refine lv_aload_n hx hb dX2_grow_87 rfl (lv_at hl 2 rfl) ?_
        refine kcallv (wc := [(h, .inr (4, [.int (nI ℓ), .int (nI a.toNat), .int (nI b.toNat), .int (kI c), .int (kI d)]))]) [0] (va_runV (C := RX2) (As := []) (rest := []) ⟨hx, hb, hml, hown, hts⟩ ((c_X2_reduce l g h (nI ℓ) a.toNat b.toNat (kI c) (kI d) (by omega) (⟨by omega, by omega⟩)) _) (cwV 0 hts gX2_grow_X2_reduce rfl rfl rfl (by decide +kernel) ⟨Nat.le_of_ble_eq_true rfl, Nat.le_of_ble_eq_true rfl⟩) (kpreV (wc := [(h, .inr (4, [.int (nI ℓ), .int (nI a.toNat), .int (nI b.toNat), .int (kI c), .int (kI d)]))]) (ci := 4) hK hP hD hS hA hE [0] rfl rfl rfl rfl) rfl rfl hl.1 rfl (lv_room (Nat.le_of_ble_eq_true rfl)) dX2_grow_88 ⟨Nat.zero_le _, Nat.zero_le _⟩) hP hD hS hA rfl (fun w_1 H locs hp hP hD hS => ?_)
        obtain rfl := hp
        have hP : va_P g.1 vwCl [(h, .inr (4, [.int (nI ℓ), .int (nI (a.toNat / Nat.gcd b.toNat a.toNat)), .int (nI (b.toNat / Nat.gcd b.toNat a.toNat)), .int (kI c), .int (kI d)])), (o, .inr (2, [.ref ok, .ref ov, .ref or, .int (nI n)])), (ok, .inl (g.2.1.1, 160, .inl fk)), (ov, .inl (g.2.1.1, 160, .inl fv)), (or, .inl (g.2.1.1, 160, .inl fr))] H := hP
        have hD : va_D A [(h, .inr (4, [.int (nI ℓ), .int (nI (a.toNat / Nat.gcd b.toNat a.toNat)), .int (nI (b.toNat / Nat.gcd b.toNat a.toNat)), .int (kI c), .int (kI d)])), (o, .inr (2, [.ref ok, .ref ov, .ref or, .int (nI n)])), (ok, .inl (g.2.1.1, 160, .inl fk)), (ov, .inl (g.2.1.1, 160, .inl fv)), (or, .inl (g.2.1.1, 160, .inl fr))] := hD
        exact kretv hx hb hRt hlk hK hP hD hS rfl dX2_grow_91 (⟨_, _, by rw [hres]⟩)
      · skip
        have hpn : q < n := kl (by omega) (by omega) c_39
        refine lv_iload hx hb dX2_grow_42 (lv_at hl 1 rfl) ?_
        refine lv_if_eq (tgt := 87) hx hb dX2_grow_44 (by decide) (fun c_44 => ?_) (fun c_44 => ?_)
        · skip
          have hres : gw0 κ n f β = (ℓ, a, b) := hst.elim (fun h9 => absurd (h9.1.symm.trans c_44) (by decide)) (fun h9 => h9.2)
          obtain ⟨⟨ha1, ha2, ha3⟩, ⟨hb1, hb2⟩, -⟩ := id hbd
          have ea : kI a = nI a.toNat := by rw [kI_nI, Int.toNat_of_nonneg ha1]
          have eb : kI b = nI b.toNat := by rw [kI_nI, Int.toNat_of_nonneg (by omega)]
          rw [ea, eb] at hP hD
          have hP : va_P g.1 vwCl [(h, .inr (4, [.int (nI ℓ), .int (nI a.toNat), .int (nI b.toNat), .int (kI c), .int (kI d)])), (o, .inr (2, [.ref ok, .ref ov, .ref or, .int (nI n)])), (ok, .inl (g.2.1.1, 160, .inl fk)), (ov, .inl (g.2.1.1, 160, .inl fv)), (or, .inl (g.2.1.1, 160, .inl fr))] H := hP
          have hD : va_D A [(h, .inr (4, [.int (nI ℓ), .int (nI a.toNat), .int (nI b.toNat), .int (kI c), .int (kI d)])), (o, .inr (2, [.ref ok, .ref ov, .ref or, .int (nI n)])), (ok, .inl (g.2.1.1, 160, .inl fk)), (ov, .inl (g.2.1.1, 160, .inl fv)), (or, .inl (g.2.1.1, 160, .inl fr))] := hD
          refine lv_aload_n hx hb dX2_grow_87 rfl (lv_at hl 2 rfl) ?_
          refine kcallv (wc := [(h, .inr (4, [.int (nI ℓ), .int (nI a.toNat), .int (nI b.toNat), .int (kI c), .int (kI d)]))]) [0] (va_runV (C := RX2) (As := []) (rest := []) ⟨hx, hb, hml, hown, hts⟩ ((c_X2_reduce l g h (nI ℓ) a.toNat b.toNat (kI c) (kI d) (by omega) (⟨by omega, by omega⟩)) _) (cwV 0 hts gX2_grow_X2_reduce rfl rfl rfl (by decide +kernel) ⟨Nat.le_of_ble_eq_true rfl, Nat.le_of_ble_eq_true rfl⟩) (kpreV (wc := [(h, .inr (4, [.int (nI ℓ), .int (nI a.toNat), .int (nI b.toNat), .int (kI c), .int (kI d)]))]) (ci := 4) hK hP hD hS hA hE [0] rfl rfl rfl rfl) rfl rfl hl.1 rfl (lv_room (Nat.le_of_ble_eq_true rfl)) dX2_grow_88 ⟨Nat.zero_le _, Nat.zero_le _⟩) hP hD hS hA rfl (fun w_2 H locs hp hP hD hS => ?_)
          obtain rfl := hp
          have hP : va_P g.1 vwCl [(h, .inr (4, [.int (nI ℓ), .int (nI (a.toNat / Nat.gcd b.toNat a.toNat)), .int (nI (b.toNat / Nat.gcd b.toNat a.toNat)), .int (kI c), .int (kI d)])), (o, .inr (2, [.ref ok, .ref ov, .ref or, .int (nI n)])), (ok, .inl (g.2.1.1, 160, .inl fk)), (ov, .inl (g.2.1.1, 160, .inl fv)), (or, .inl (g.2.1.1, 160, .inl fr))] H := hP
          have hD : va_D A [(h, .inr (4, [.int (nI ℓ), .int (nI (a.toNat / Nat.gcd b.toNat a.toNat)), .int (nI (b.toNat / Nat.gcd b.toNat a.toNat)), .int (kI c), .int (kI d)])), (o, .inr (2, [.ref ok, .ref ov, .ref or, .int (nI n)])), (ok, .inl (g.2.1.1, 160, .inl fk)), (ov, .inl (g.2.1.1, 160, .inl fv)), (or, .inl (g.2.1.1, 160, .inl fr))] := hD
          exact kretv hx hb hRt hlk hK hP hD hS rfl dX2_grow_91 (⟨_, _, by rw [hres]⟩)
        · skip
          obtain ⟨hf1, hqℓ, hgw⟩ : fl = 1 ∧ q = ℓ + 1 ∧ gw κ f β (n - q) q a b c d = gw0 κ n f β := hst.elim (fun h9 => h9) (fun h9 => absurd h9.1 c_44)
          have hkd := kasc_d hasc hq.1 hpn
          refine lv_aload_n hx hb dX2_grow_47 rfl (lv_at hl 2 rfl) ?_
          refine lv_iload hx hb dX2_grow_48 (lv_at hl 0 rfl) ?_
          refine lv_iload_n hx hb dX2_grow_50 rfl (lv_at hl 4 rfl) ?_
          refine lv_isub hx hb dX2_grow_51 ?_
          rw [show ((nI q) - (nI f) : Int32) = kI ((q : Int) - (f : Int)) from by rw [kI_nI, kI_nI, kI_sub]]
          refine lv_aload_n hx hb dX2_grow_52 rfl (lv_at hl 3 rfl) ?_
          refine lv_iload hx hb dX2_grow_53 (lv_at hl 0 rfl) ?_
          refine kcalli (wc := [(o, .inr (2, [.ref ok, .ref ov, .ref or, .int (nI n)])), (ok, .inl (g.2.1.1, 160, .inl fk)), (ov, .inl (g.2.1.1, 160, .inl fv)), (or, .inl (g.2.1.1, 160, .inl fr))]) [1, 2, 3, 4] (va_runV (C := RX0) (As := [.int (nI q)]) (rest := [.int (kI ((q : Int) - (f : Int))), .ref h]) ⟨hx, hb, hml, hown, hts⟩ ((c_X0_key l g o ok ov or n fk fv fr (nI q)) _) (cwV 1 hts gX2_grow_X0_key rfl rfl rfl (by decide +kernel) ⟨Nat.le_of_ble_eq_true rfl, Nat.le_of_ble_eq_true rfl⟩) (kpreV (wc := [(o, .inr (2, [.ref ok, .ref ov, .ref or, .int (nI n)])), (ok, .inl (g.2.1.1, 160, .inl fk)), (ov, .inl (g.2.1.1, 160, .inl fv)), (or, .inl (g.2.1.1, 160, .inl fr))]) (ci := 2) hK hP hD hS hA hE [1, 2, 3, 4] rfl rfl rfl rfl) rfl rfl hl.1 rfl (lv_room (Nat.le_of_ble_eq_true rfl)) dX2_grow_55 ⟨Nat.zero_le _, Nat.zero_le _⟩) hP hD hS hA rfl (fun r_3 w_3 H locs hp hP hD hS => ?_)
          obtain ⟨rfl, rfl⟩ := hp
          have hP : va_P g.1 vwCl [(h, .inr (4, [.int (nI ℓ), .int (kI a), .int (kI b), .int (kI c), .int (kI d)])), (o, .inr (2, [.ref ok, .ref ov, .ref or, .int (nI n)])), (ok, .inl (g.2.1.1, 160, .inl fk)), (ov, .inl (g.2.1.1, 160, .inl fv)), (or, .inl (g.2.1.1, 160, .inl fr))] H := hP
          have hD : va_D A [(h, .inr (4, [.int (nI ℓ), .int (kI a), .int (kI b), .int (kI c), .int (kI d)])), (o, .inr (2, [.ref ok, .ref ov, .ref or, .int (nI n)])), (ok, .inl (g.2.1.1, 160, .inl fk)), (ov, .inl (g.2.1.1, 160, .inl fv)), (or, .inl (g.2.1.1, 160, .inl fr))] := hD
          refine lv_aload_n hx hb dX2_grow_58 rfl (lv_at hl 3 rfl) ?_
          refine lv_iload_n hx hb dX2_grow_59 rfl (lv_at hl 4 rfl) ?_
          refine kcalli (wc := [(o, .inr (2, [.ref ok, .ref ov, .ref or, .int (nI n)])), (ok, .inl (g.2.1.1, 160, .inl fk)), (ov, .inl (g.2.1.1, 160, .inl fv)), (or, .inl (g.2.1.1, 160, .inl fr))]) [1, 2, 3, 4] (va_runV (C := RX0) (As := [.int (nI f)]) (rest := [.int (kcell 160 fk (nI q)), .int (kI ((q : Int) - (f : Int))), .ref h]) ⟨hx, hb, hml, hown, hts⟩ ((c_X0_key l g o ok ov or n fk fv fr (nI f)) _) (cwV 1 hts gX2_grow_X0_key rfl rfl rfl (by decide +kernel) ⟨Nat.le_of_ble_eq_true rfl, Nat.le_of_ble_eq_true rfl⟩) (kpreV (wc := [(o, .inr (2, [.ref ok, .ref ov, .ref or, .int (nI n)])), (ok, .inl (g.2.1.1, 160, .inl fk)), (ov, .inl (g.2.1.1, 160, .inl fv)), (or, .inl (g.2.1.1, 160, .inl fr))]) (ci := 2) hK hP hD hS hA hE [1, 2, 3, 4] rfl rfl rfl rfl) rfl rfl hl.1 rfl (lv_room (Nat.le_of_ble_eq_true rfl)) dX2_grow_60 ⟨Nat.zero_le _, Nat.zero_le _⟩) hP hD hS hA rfl (fun r_4 w_4 H locs hp hP hD hS => ?_)
          obtain ⟨rfl, rfl⟩ := hp
          have hP : va_P g.1 vwCl [(h, .inr (4, [.int (nI ℓ), .int (kI a), .int (kI b), .int (kI c), .int (kI d)])), (o, .inr (2, [.ref ok, .ref ov, .ref or, .int (nI n)])), (ok, .inl (g.2.1.1, 160, .inl fk)), (ov, .inl (g.2.1.1, 160, .inl fv)), (or, .inl (g.2.1.1, 160, .inl fr))] H := hP
          have hD : va_D A [(h, .inr (4, [.int (nI ℓ), .int (kI a), .int (kI b), .int (kI c), .int (kI d)])), (o, .inr (2, [.ref ok, .ref ov, .ref or, .int (nI n)])), (ok, .inl (g.2.1.1, 160, .inl fk)), (ov, .inl (g.2.1.1, 160, .inl fv)), (or, .inl (g.2.1.1, 160, .inl fr))] := hD
          refine lv_isub hx hb dX2_grow_63 ?_
          rw [show ((kcell 160 fk (nI q)) - (kcell 160 fk (nI f)) : Int32) = kI (κ q - κ f) from by rw [kcell_nI fk (show 160 < 2 ^ 31 by decide) (show q < 160 by omega), kcell_nI fk (show 160 < 2 ^ 31 by decide) (show f < 160 by omega), hκ q hpn, hκ f hf, kI_sub]]
          refine lv_iload_n hx hb dX2_grow_64 rfl (lv_at hl 5 rfl) ?_
          refine kcalli (wc := [(h, .inr (4, [.int (nI ℓ), .int (kI a), .int (kI b), .int (kI c), .int (kI d)]))]) [0] (va_runV (C := RX2) (As := [.int (kI ((q : Int) - (f : Int))), .int (kI (κ q - κ f)), .int (kI β)]) (rest := []) ⟨hx, hb, hml, hown, hts⟩ ((c_X2_takeIn l g h (nI ℓ) a b c d ((q : Int) - (f : Int)) (κ q - κ f) β hbd (⟨by omega, by omega⟩) (⟨by omega, by omega⟩) hβ) _) (cwV 3 hts gX2_grow_X2_takeIn rfl rfl rfl (by decide +kernel) ⟨Nat.le_of_ble_eq_true rfl, Nat.le_of_ble_eq_true rfl⟩) (kpreV (wc := [(h, .inr (4, [.int (nI ℓ), .int (kI a), .int (kI b), .int (kI c), .int (kI d)]))]) (ci := 4) hK hP hD hS hA hE [0] rfl rfl rfl rfl) rfl rfl hl.1 rfl (lv_room (Nat.le_of_ble_eq_true rfl)) dX2_grow_65 ⟨Nat.zero_le _, Nat.zero_le _⟩) hP hD hS hA rfl (fun rt w_5 H locs hp hP hD hS => ?_)
          obtain ⟨a2, b2, c2, d2, hT, rfl⟩ := hp
          have hP : va_P g.1 vwCl [(h, .inr (4, [.int (nI ℓ), .int (kI a2), .int (kI b2), .int (kI c2), .int (kI d2)])), (o, .inr (2, [.ref ok, .ref ov, .ref or, .int (nI n)])), (ok, .inl (g.2.1.1, 160, .inl fk)), (ov, .inl (g.2.1.1, 160, .inl fv)), (or, .inl (g.2.1.1, 160, .inl fr))] H := hP
          have hD : va_D A [(h, .inr (4, [.int (nI ℓ), .int (kI a2), .int (kI b2), .int (kI c2), .int (kI d2)])), (o, .inr (2, [.ref ok, .ref ov, .ref or, .int (nI n)])), (ok, .inl (g.2.1.1, 160, .inl fk)), (ov, .inl (g.2.1.1, 160, .inl fv)), (or, .inl (g.2.1.1, 160, .inl fr))] := hD
          refine lv_istore (lv' := [(4, .int rt), (5, .int (nI q)), (0, .ref h), (1, .ref o), (2, .int (nI f)), (3, .int (kI β))]) hx hb dX2_grow_68 hl (by decide) rfl (fun ls hl => ?_)
          refine lv_iload hx hb dX2_grow_70 (lv_at hl 0 rfl) ?_
          refine lv_if_eq (tgt := 81) hx hb dX2_grow_72 (by decide) (fun c_72 => ?_) (fun c_72 => ?_)
          · skip
            have hst2 : (rt = 1 ∧ q + 1 = ℓ + 1 ∧ gw κ f β (n - (q + 1)) (q + 1) a2 b2 c2 d2 = gw0 κ n f β) ∨ (rt = 0 ∧ gw0 κ n f β = (ℓ, a2, b2)) := hT.elim (fun h9 => by obtain ⟨t1, t2, rfl, rfl, rfl, rfl⟩ := h9; exact Or.inr ⟨t2, by rw [← hgw, gw_none hpn t1, hqℓ]; rfl⟩) (fun h9 => absurd (h9.2.symm.trans c_72) (by decide))
            have hbd2 : kbd a2 b2 c2 d2 := hT.elim (fun h9 => by obtain ⟨t1, t2, rfl, rfl, rfl, rfl⟩ := h9; exact hbd) (fun h9 => absurd (h9.2.symm.trans c_72) (by decide))
            refine lv_iinc (v := nI (q + 1)) (lv' := [(5, .int (nI (q + 1))), (4, .int rt), (0, .ref h), (1, .ref o), (2, .int (nI f)), (3, .int (kI β))]) hx hb dX2_grow_81 hl (k := 1) rfl (nI_1 q) (by decide) rfl (fun ls hl => ?_)
            refine lv_goto (tgt := 33) hx hb dX2_grow_84 (by decide) ?_
            exact ih33 (q + 1) ℓ rt a2 b2 c2 d2 _ _ ls (⟨by omega, by omega⟩) hbd2 hst2 (by omega) hP hD hS (lv_sub hl [0, 1, 2, 3, 4, 5] rfl)
          · skip
            have hst2 : (rt = 1 ∧ q + 1 = q + 1 ∧ gw κ f β (n - (q + 1)) (q + 1) a2 b2 c2 d2 = gw0 κ n f β) ∨ (rt = 0 ∧ gw0 κ n f β = (q, a2, b2)) := hT.elim (fun h9 => absurd h9.2.1 c_72) (fun h9 => Or.inl ⟨h9.2, rfl, by rw [← hgw, gw_some hpn h9.1]⟩)
            have hbd2 : kbd a2 b2 c2 d2 := hT.elim (fun h9 => absurd h9.2.1 c_72) (fun h9 => tk_bd hbd hβ ⟨by omega, by omega⟩ ⟨by omega, by omega⟩ hkd.1 h9.1)
            refine lv_aload_n hx hb dX2_grow_75 rfl (lv_at hl 2 rfl) ?_
            refine lv_iload hx hb dX2_grow_76 (lv_at hl 1 rfl) ?_
            refine va_put (D := g.1) (ci := 4) (v := .int (nI q)) (ty := .int) (C := RX2) (T := TX2) (N := 5) hx hb hts (by decide +kernel) tyX2 tyX2_ok nmX2 hown hK hP hD hS 0 rfl rfl 0 (by decide) (hts (.fieldLink RX2 9 "LearnedIndex$Run" "last" "I") (by decide +kernel)) (fun _ h9 => h9) rfl (by decide +kernel) rfl rfl (Nat.le_of_ble_eq_true rfl) dX2_grow_78 (fun H locs hP hD hS => ?_)
            have hP : va_P g.1 vwCl [(h, .inr (4, [.int (nI q), .int (kI a2), .int (kI b2), .int (kI c2), .int (kI d2)])), (o, .inr (2, [.ref ok, .ref ov, .ref or, .int (nI n)])), (ok, .inl (g.2.1.1, 160, .inl fk)), (ov, .inl (g.2.1.1, 160, .inl fv)), (or, .inl (g.2.1.1, 160, .inl fr))] H := hP
            have hD : va_D A [(h, .inr (4, [.int (nI q), .int (kI a2), .int (kI b2), .int (kI c2), .int (kI d2)])), (o, .inr (2, [.ref ok, .ref ov, .ref or, .int (nI n)])), (ok, .inl (g.2.1.1, 160, .inl fk)), (ov, .inl (g.2.1.1, 160, .inl fv)), (or, .inl (g.2.1.1, 160, .inl fr))] := hD
            refine lv_iinc (v := nI (q + 1)) (lv' := [(5, .int (nI (q + 1))), (4, .int rt), (0, .ref h), (1, .ref o), (2, .int (nI f)), (3, .int (kI β))]) hx hb dX2_grow_81 hl (k := 1) rfl (nI_1 q) (by decide) rfl (fun ls hl => ?_)
            refine lv_goto (tgt := 33) hx hb dX2_grow_84 (by decide) ?_
            exact ih33 (q + 1) q rt a2 b2 c2 d2 _ _ ls (⟨by omega, by omega⟩) hbd2 hst2 (by omega) hP hD hS (lv_sub hl [0, 1, 2, 3, 4, 5] rfl)
  exact L33 _ (f + 1) f 1 0 1 1 1 _ _ ls (⟨by omega, by omega⟩) kbd_0 (Or.inl ⟨rfl, rfl, rfl⟩) (Nat.lt_succ_self _) hP hD hS (lv_sub hl [0, 1, 2, 3, 4, 5] rfl)
set_option maxRecDepth 20000 in
theorem ggX4_build_X2_grow : GoodIn wsX4_build wsX2_grow := goodIn_ca (goodIn_ca (goodIn_r _ [11, 12, 13, 14, 15, 16, 17, 18, 19, 20, 21, 22, 23, 24, 25, 26, 27, 28, 10, 29, 30, 31, 32, 33, 34, 35, 36, 50, 51, 52, 53, 54, 46, 47, 48, 49] (by decide +kernel) (by decide +kernel)) (goodIn_sub (fun _ h => List.mem_cons_of_mem _ (List.mem_append_left _ (List.mem_append_right _ h))) (by decide +kernel))) (goodIn_sub (fun _ h => List.mem_cons_of_mem _ (List.mem_append_right _ h)) (by decide +kernel))
set_option maxRecDepth 20000 in
theorem gX4_build_X2_grow : GoodIn wsX4_build (wsV RX4 34 RX2 yX2_grow wsX2_grow) := goodIn_app (goodIn_of _ (by decide +kernel)) ggX4_build_X2_grow
set_option maxRecDepth 20000 in
theorem ggX4_build_X6_store : GoodIn wsX4_build wsX6_store := goodIn_ca (goodIn_r _ [38] (by decide +kernel) (by decide +kernel)) (goodIn_sub (fun _ h => List.mem_cons_of_mem _ (List.mem_append_left _ (List.mem_append_right _ h))) (by decide +kernel))
set_option maxRecDepth 20000 in
theorem gX4_build_X6_store_n40 : GoodIn wsX4_build (wsX6_store) := ggX4_build_X6_store
set_option maxRecDepth 20000 in
theorem ggX4_build_X0_key : GoodIn wsX4_build wsX0_key := goodIn_ca (goodIn_r _ [21, 22, 23, 24, 25, 46, 47, 48, 49] (by decide +kernel) (by decide +kernel)) (goodIn_sub (fun _ h => List.mem_cons_of_mem _ (List.mem_append_left _ (List.mem_append_right _ h))) (by decide +kernel))
set_option maxRecDepth 20000 in
theorem gX4_build_X0_key : GoodIn wsX4_build (wsV RX4 47 RX0 yX0_key wsX0_key) := goodIn_app (goodIn_of _ (by decide +kernel)) ggX4_build_X0_key
theorem dX4_build_0 : decode cX4_build 0 = .ok (.aload_n 0, 1) := by decide +kernel
theorem dX4_build_1 : decode cX4_build 1 = .ok (.iconst 0, 1) := by decide +kernel
theorem dX4_build_2 : decode cX4_build 2 = .ok (.putfield 27, 3) := by decide +kernel
theorem dX4_build_5 : decode cX4_build 5 = .ok (.iconst 0, 1) := by decide +kernel
theorem dX4_build_6 : decode cX4_build 6 = .ok (.istore 4, 2) := by decide +kernel
theorem dX4_build_8 : decode cX4_build 8 = .ok (.iload 4, 2) := by decide +kernel
theorem dX4_build_10 : decode cX4_build 10 = .ok (.aload_n 1, 1) := by decide +kernel
theorem dX4_build_11 : decode cX4_build 11 = .ok (.getfield 31, 3) := by decide +kernel
theorem dX4_build_14 : decode cX4_build 14 = .ok (.if_icmp .ge 117, 3) := by decide +kernel
theorem dX4_build_17 : decode cX4_build 17 = .ok (.aload_n 0, 1) := by decide +kernel
theorem dX4_build_18 : decode cX4_build 18 = .ok (.getfield 27, 3) := by decide +kernel
theorem dX4_build_21 : decode cX4_build 21 = .ok (.sipush 160, 3) := by decide +kernel
theorem dX4_build_24 : decode cX4_build 24 = .ok (.if_icmp .ge 107, 3) := by decide +kernel
theorem dX4_build_27 : decode cX4_build 27 = .ok (.aload_n 3, 1) := by decide +kernel
theorem dX4_build_28 : decode cX4_build 28 = .ok (.aload_n 1, 1) := by decide +kernel
theorem dX4_build_29 : decode cX4_build 29 = .ok (.iload 4, 2) := by decide +kernel
theorem dX4_build_31 : decode cX4_build 31 = .ok (.iload_n 2, 1) := by decide +kernel
theorem dX4_build_32 : decode cX4_build 32 = .ok (.invokevirtual 34, 3) := by decide +kernel
theorem dX4_build_35 : decode cX4_build 35 = .ok (.aload_n 0, 1) := by decide +kernel
theorem dX4_build_36 : decode cX4_build 36 = .ok (.getfield 9, 3) := by decide +kernel
theorem dX4_build_39 : decode cX4_build 39 = .ok (.aload_n 0, 1) := by decide +kernel
theorem dX4_build_40 : decode cX4_build 40 = .ok (.getfield 27, 3) := by decide +kernel
theorem dX4_build_43 : decode cX4_build 43 = .ok (.iload 4, 2) := by decide +kernel
theorem dX4_build_45 : decode cX4_build 45 = .ok (.invokestatic 40, 3) := by decide +kernel
theorem dX4_build_48 : decode cX4_build 48 = .ok (.aload_n 0, 1) := by decide +kernel
theorem dX4_build_49 : decode cX4_build 49 = .ok (.getfield 15, 3) := by decide +kernel
theorem dX4_build_52 : decode cX4_build 52 = .ok (.aload_n 0, 1) := by decide +kernel
theorem dX4_build_53 : decode cX4_build 53 = .ok (.getfield 27, 3) := by decide +kernel
theorem dX4_build_56 : decode cX4_build 56 = .ok (.aload_n 3, 1) := by decide +kernel
theorem dX4_build_57 : decode cX4_build 57 = .ok (.getfield 44, 3) := by decide +kernel
theorem dX4_build_60 : decode cX4_build 60 = .ok (.invokestatic 40, 3) := by decide +kernel
theorem dX4_build_63 : decode cX4_build 63 = .ok (.aload_n 0, 1) := by decide +kernel
theorem dX4_build_64 : decode cX4_build 64 = .ok (.getfield 18, 3) := by decide +kernel
theorem dX4_build_67 : decode cX4_build 67 = .ok (.aload_n 0, 1) := by decide +kernel
theorem dX4_build_68 : decode cX4_build 68 = .ok (.getfield 27, 3) := by decide +kernel
theorem dX4_build_71 : decode cX4_build 71 = .ok (.aload_n 1, 1) := by decide +kernel
theorem dX4_build_72 : decode cX4_build 72 = .ok (.iload 4, 2) := by decide +kernel
theorem dX4_build_74 : decode cX4_build 74 = .ok (.invokevirtual 47, 3) := by decide +kernel
theorem dX4_build_77 : decode cX4_build 77 = .ok (.invokestatic 40, 3) := by decide +kernel
theorem dX4_build_80 : decode cX4_build 80 = .ok (.aload_n 0, 1) := by decide +kernel
theorem dX4_build_81 : decode cX4_build 81 = .ok (.getfield 21, 3) := by decide +kernel
theorem dX4_build_84 : decode cX4_build 84 = .ok (.aload_n 0, 1) := by decide +kernel
theorem dX4_build_85 : decode cX4_build 85 = .ok (.getfield 27, 3) := by decide +kernel
theorem dX4_build_88 : decode cX4_build 88 = .ok (.aload_n 3, 1) := by decide +kernel
theorem dX4_build_89 : decode cX4_build 89 = .ok (.getfield 51, 3) := by decide +kernel
theorem dX4_build_92 : decode cX4_build 92 = .ok (.invokestatic 40, 3) := by decide +kernel
theorem dX4_build_95 : decode cX4_build 95 = .ok (.aload_n 0, 1) := by decide +kernel
theorem dX4_build_96 : decode cX4_build 96 = .ok (.getfield 24, 3) := by decide +kernel
theorem dX4_build_99 : decode cX4_build 99 = .ok (.aload_n 0, 1) := by decide +kernel
theorem dX4_build_100 : decode cX4_build 100 = .ok (.getfield 27, 3) := by decide +kernel
theorem dX4_build_103 : decode cX4_build 103 = .ok (.aload_n 3, 1) := by decide +kernel
theorem dX4_build_104 : decode cX4_build 104 = .ok (.getfield 54, 3) := by decide +kernel
theorem dX4_build_107 : decode cX4_build 107 = .ok (.invokestatic 40, 3) := by decide +kernel
theorem dX4_build_110 : decode cX4_build 110 = .ok (.aload_n 0, 1) := by decide +kernel
theorem dX4_build_111 : decode cX4_build 111 = .ok (.dup, 1) := by decide +kernel
theorem dX4_build_112 : decode cX4_build 112 = .ok (.getfield 27, 3) := by decide +kernel
theorem dX4_build_115 : decode cX4_build 115 = .ok (.iconst 1, 1) := by decide +kernel
theorem dX4_build_116 : decode cX4_build 116 = .ok (.iadd, 1) := by decide +kernel
theorem dX4_build_117 : decode cX4_build 117 = .ok (.putfield 27, 3) := by decide +kernel
theorem dX4_build_120 : decode cX4_build 120 = .ok (.aload_n 3, 1) := by decide +kernel
theorem dX4_build_121 : decode cX4_build 121 = .ok (.getfield 44, 3) := by decide +kernel
theorem dX4_build_124 : decode cX4_build 124 = .ok (.iconst 1, 1) := by decide +kernel
theorem dX4_build_125 : decode cX4_build 125 = .ok (.iadd, 1) := by decide +kernel
theorem dX4_build_126 : decode cX4_build 126 = .ok (.istore 4, 2) := by decide +kernel
theorem dX4_build_128 : decode cX4_build 128 = .ok (.goto (-120), 3) := by decide +kernel
theorem dX4_build_131 : decode cX4_build 131 = .ok (.return_, 1) := by decide +kernel
def rm_X4_build : Room := { frames := 3, cells := 0, slots := 0, locals := 71 }
abbrev p_X4_build (g : kG) (h : Nat) (s1 : Nat) (s2 : Nat) (s3 : Nat) (s4 : Nat) (s5 : Nat) (z : Int32) (u1 : Nat → Int32) (u2 : Nat → Int32) (u3 : Nat → Int32) (u4 : Nat → Int32) (u5 : Nat → Int32) (o : Nat) (ok : Nat) (ov : Nat) (or : Nat) (n : Nat) (fk : Nat → Int32) (fv : Nat → Int32) (fr : Nat → Int32) (q : Nat) (r1 : Int32) (r2 : Int32) (r3 : Int32) (r4 : Int32) (r5 : Int32) (β : Int) (κ : Nat → Int) : va_W → Prop := fun w1 => ∃ (mm : Nat), ∃ (v1 : Nat → Int32), ∃ (v2 : Nat → Int32), ∃ (v3 : Nat → Int32), ∃ (v4 : Nat → Int32), ∃ (v5 : Nat → Int32), ∃ (x1 : Int32), ∃ (x2 : Int32), ∃ (x3 : Int32), ∃ (x4 : Int32), ∃ (x5 : Int32), (SG mm v1 v2 v3 v4 v5 = (sgs κ n β).map (sgc κ)) ∧ w1 = [(h, .inr (6, [.ref s1, .ref s2, .ref s3, .ref s4, .ref s5, .int (nI mm)])), (s1, .inl (g.2.1.1, 160, .inl v1)), (s2, .inl (g.2.1.1, 160, .inl v2)), (s3, .inl (g.2.1.1, 160, .inl v3)), (s4, .inl (g.2.1.1, 160, .inl v4)), (s5, .inl (g.2.1.1, 160, .inl v5)), (o, .inr (2, [.ref ok, .ref ov, .ref or, .int (nI n)])), (ok, .inl (g.2.1.1, 160, .inl fk)), (ov, .inl (g.2.1.1, 160, .inl fv)), (or, .inl (g.2.1.1, 160, .inl fr)), (q, .inr (4, [.int x1, .int x2, .int x3, .int x4, .int x5]))]
set_option maxHeartbeats 4000000 in
set_option maxRecDepth 100000 in
theorem c_X4_build (l : Launch) (g : kG) (h : Nat) (s1 : Nat) (s2 : Nat) (s3 : Nat) (s4 : Nat) (s5 : Nat) (z : Int32) (u1 : Nat → Int32) (u2 : Nat → Int32) (u3 : Nat → Int32) (u4 : Nat → Int32) (u5 : Nat → Int32) (o : Nat) (ok : Nat) (ov : Nat) (or : Nat) (n : Nat) (fk : Nat → Int32) (fv : Nat → Int32) (fr : Nat → Int32) (q : Nat) (r1 : Int32) (r2 : Int32) (r3 : Int32) (r4 : Int32) (r5 : Int32) (β : Int) (κ : Nat → Int) (hκ : ∀ j, j < n → fk j = kI (κ j)) (hasc : kasc κ n) (hn : n ≤ 160) (hβ : 0 ≤ β ∧ β ≤ 8) : KV l yX4_build wsX4_build rm_X4_build g [.ref h, .ref o, .int (kI β), .ref q] [(h, .inr (6, [.ref s1, .ref s2, .ref s3, .ref s4, .ref s5, .int z])), (s1, .inl (g.2.1.1, 160, .inl u1)), (s2, .inl (g.2.1.1, 160, .inl u2)), (s3, .inl (g.2.1.1, 160, .inl u3)), (s4, .inl (g.2.1.1, 160, .inl u4)), (s5, .inl (g.2.1.1, 160, .inl u5)), (o, .inr (2, [.ref ok, .ref ov, .ref or, .int (nI n)])), (ok, .inl (g.2.1.1, 160, .inl fk)), (ov, .inl (g.2.1.1, 160, .inl fv)), (or, .inl (g.2.1.1, 160, .inl fr)), (q, .inr (4, [.int r1, .int r2, .int r3, .int r4, .int r5]))] (p_X4_build g h s1 s2 s3 s4 s5 z u1 u2 u3 u4 u5 o ok ov or n fk fv fr q r1 r2 r3 r4 r5 β κ) := by
  refine kbodyV (cc := cX4_build) (n := 5) (k := 11) (own := RX4) (plainFor_of_name (by decide)) rfl rfl rfl rfl ?_
  intro p e s m below meth cd A ls hcx
  obtain ⟨hx, hb, hRt, hml, hts, hown, hlk, hA, hP, hK, hD, hE, hS, hl⟩ := hcx
  have hl : lv_has ls 5 [(0, .ref h), (1, .ref o), (2, .int (kI β)), (3, .ref q)] := hl
  refine lv_aload_n hx hb dX4_build_0 rfl (lv_at hl 0 rfl) ?_
  refine lv_iconst (v := 0) hx hb dX4_build_1 (by decide) ?_
  refine va_put (D := g.1) (ci := 6) (v := .int 0) (ty := .int) (C := RX4) (T := TX4) (N := 6) hx hb hts (by decide +kernel) tyX4 tyX4_ok nmX4 hown hK hP hD hS 0 rfl rfl 5 (by decide) (hts (.fieldLink RX4 27 "LearnedIndex$Segments" "size" "I") (by decide +kernel)) (fun _ h9 => h9) rfl (by decide +kernel) rfl rfl (Nat.le_of_ble_eq_true rfl) dX4_build_2 (fun H locs hP hD hS => ?_)
  have hP : va_P g.1 vwCl [(h, .inr (6, [.ref s1, .ref s2, .ref s3, .ref s4, .ref s5, .int 0])), (s1, .inl (g.2.1.1, 160, .inl u1)), (s2, .inl (g.2.1.1, 160, .inl u2)), (s3, .inl (g.2.1.1, 160, .inl u3)), (s4, .inl (g.2.1.1, 160, .inl u4)), (s5, .inl (g.2.1.1, 160, .inl u5)), (o, .inr (2, [.ref ok, .ref ov, .ref or, .int (nI n)])), (ok, .inl (g.2.1.1, 160, .inl fk)), (ov, .inl (g.2.1.1, 160, .inl fv)), (or, .inl (g.2.1.1, 160, .inl fr)), (q, .inr (4, [.int r1, .int r2, .int r3, .int r4, .int r5]))] H := hP
  have hD : va_D A [(h, .inr (6, [.ref s1, .ref s2, .ref s3, .ref s4, .ref s5, .int 0])), (s1, .inl (g.2.1.1, 160, .inl u1)), (s2, .inl (g.2.1.1, 160, .inl u2)), (s3, .inl (g.2.1.1, 160, .inl u3)), (s4, .inl (g.2.1.1, 160, .inl u4)), (s5, .inl (g.2.1.1, 160, .inl u5)), (o, .inr (2, [.ref ok, .ref ov, .ref or, .int (nI n)])), (ok, .inl (g.2.1.1, 160, .inl fk)), (ov, .inl (g.2.1.1, 160, .inl fv)), (or, .inl (g.2.1.1, 160, .inl fr)), (q, .inr (4, [.int r1, .int r2, .int r3, .int r4, .int r5]))] := hD
  refine lv_iconst (v := 0) hx hb dX4_build_5 (by decide) ?_
  refine lv_istore (lv' := [(4, .int 0), (0, .ref h), (1, .ref o), (2, .int (kI β)), (3, .ref q)]) hx hb dX4_build_6 hl (by decide) rfl (fun ls hl => ?_)
  have L8 : ∀ (n9 : Nat) (fi : Nat) (mm : Nat) (u1 : Nat → Int32) (u2 : Nat → Int32) (u3 : Nat → Int32) (u4 : Nat → Int32) (u5 : Nat → Int32) (r1 : Int32) (r2 : Int32) (r3 : Int32) (r4 : Int32) (r5 : Int32) (H : Heap) (locs : List Loc) (ls : Array Slot), (fi ≤ n ∧ mm ≤ fi) → (SG mm u1 u2 u3 u4 u5 ++ (sg κ n β (n - fi) fi).map (sgc κ) = (sgs κ n β).map (sgc κ)) → n - fi < n9 → va_P g.1 vwCl [(h, .inr (6, [.ref s1, .ref s2, .ref s3, .ref s4, .ref s5, .int (nI mm)])), (s1, .inl (g.2.1.1, 160, .inl u1)), (s2, .inl (g.2.1.1, 160, .inl u2)), (s3, .inl (g.2.1.1, 160, .inl u3)), (s4, .inl (g.2.1.1, 160, .inl u4)), (s5, .inl (g.2.1.1, 160, .inl u5)), (o, .inr (2, [.ref ok, .ref ov, .ref or, .int (nI n)])), (ok, .inl (g.2.1.1, 160, .inl fk)), (ov, .inl (g.2.1.1, 160, .inl fv)), (or, .inl (g.2.1.1, 160, .inl fr)), (q, .inr (4, [.int r1, .int r2, .int r3, .int r4, .int r5]))] H → va_D A [(h, .inr (6, [.ref s1, .ref s2, .ref s3, .ref s4, .ref s5, .int (nI mm)])), (s1, .inl (g.2.1.1, 160, .inl u1)), (s2, .inl (g.2.1.1, 160, .inl u2)), (s3, .inl (g.2.1.1, 160, .inl u3)), (s4, .inl (g.2.1.1, 160, .inl u4)), (s5, .inl (g.2.1.1, 160, .inl u5)), (o, .inr (2, [.ref ok, .ref ov, .ref or, .int (nI n)])), (ok, .inl (g.2.1.1, 160, .inl fk)), (ov, .inl (g.2.1.1, 160, .inl fv)), (or, .inl (g.2.1.1, 160, .inl fr)), (q, .inr (4, [.int r1, .int r2, .int r3, .int r4, .int r5]))] → va_S A s.heap H locs → lv_has ls 5 [(4, .int (nI fi)), (0, .ref h), (1, .ref o), (2, .int (kI β)), (3, .ref q)] → W p l e rm_X4_build s m ([.ref h, .ref o, .int (kI β), .ref q] : List Value).toArray below meth cd H locs 0 0 (kQv g 11 A (p_X4_build g h s1 s2 s3 s4 s5 z u1 u2 u3 u4 u5 o ok ov or n fk fv fr q r1 r2 r3 r4 r5 β κ) below ([.ref h, .ref o, .int (kI β), .ref q] : List Value).toArray s) (F0 m 8 ls []) := by
    intro n9
    induction n9 with
    | zero => intro fi mm u1 u2 u3 u4 u5 r1 r2 r3 r4 r5 H locs ls hfi hg h9; exact absurd h9 (Nat.not_lt_zero _)
    | succ n9 ih8 =>
      intro fi mm u1 u2 u3 u4 u5 r1 r2 r3 r4 r5 H locs ls hfi hg hn8 hP hD hS hl
      refine lv_iload hx hb dX4_build_8 (lv_at hl 0 rfl) ?_
      refine lv_aload_n hx hb dX4_build_10 rfl (lv_at hl 2 rfl) ?_
      refine va_getN (D := g.1) (ci := 2) (v := .int (nI n)) (C := RX0) (T := TX0) (N := 4) hx hb hts (by decide +kernel) hown hK hP 6 rfl rfl 3 (by decide) (va_Nw.use rfl (hE.1 _ (List.mem_of_getElem? (i := 37) rfl))) (fun _ h9 => h9) rfl dX4_build_11 ?_
      refine lv_icmp_ge (tgt := 131) hx hb dX4_build_14 (by decide) (fun c_14 => ?_) (fun c_14 => ?_)
      · skip
        have hfn : n ≤ fi := kg (by omega) (by omega) c_14
        exact kretv hx hb hRt hlk hK hP hD hS rfl dX4_build_131 (⟨mm, u1, u2, u3, u4, u5, _, _, _, _, _, by rw [← hg, show n - fi = 0 by omega]; simp [sg], rfl⟩)
      · skip
        have hfn : fi < n := kl (by omega) (by omega) c_14
        have hgb := (gw0_bd hasc hn hβ hfn).1
        refine lv_aload_n hx hb dX4_build_17 rfl (lv_at hl 1 rfl) ?_
        refine va_get (D := g.1) (ci := 6) (v := .int (nI mm)) (C := RX4) (T := TX4) (N := 6) hx hb hts (by decide +kernel) hown hK hP 0 rfl rfl 5 (by decide) (hts (.fieldLink RX4 27 "LearnedIndex$Segments" "size" "I") (by decide +kernel)) (fun _ h9 => h9) rfl dX4_build_18 ?_
        refine lv_sipush (v := 160) hx hb dX4_build_21 (by decide) ?_
        refine lv_icmp_ge (tgt := 131) hx hb dX4_build_24 (by decide) (fun c_24 => absurd c_24 (by rw [show (160 : Int32) = nI 160 from rfl, nI_leI (by decide) (by omega)]; omega)) (fun c_24 => ?_)
        refine lv_aload_n hx hb dX4_build_27 rfl (lv_at hl 4 rfl) ?_
        refine lv_aload_n hx hb dX4_build_28 rfl (lv_at hl 2 rfl) ?_
        refine lv_iload hx hb dX4_build_29 (lv_at hl 0 rfl) ?_
        refine lv_iload_n hx hb dX4_build_31 rfl (lv_at hl 3 rfl) ?_
        refine kcallv (wc := [(q, .inr (4, [.int r1, .int r2, .int r3, .int r4, .int r5])), (o, .inr (2, [.ref ok, .ref ov, .ref or, .int (nI n)])), (ok, .inl (g.2.1.1, 160, .inl fk)), (ov, .inl (g.2.1.1, 160, .inl fv)), (or, .inl (g.2.1.1, 160, .inl fr))]) [10, 6, 7, 8, 9] (va_runV (C := RX2) (As := [.ref o, .int (nI fi), .int (kI β)]) (rest := []) ⟨hx, hb, hml, hown, hts⟩ ((c_X2_grow l g q r1 r2 r3 r4 r5 o ok ov or n fk fv fr fi β κ hκ hasc hn hβ hfn) _) (cwV 3 hts gX4_build_X2_grow rfl rfl rfl (by decide +kernel) ⟨Nat.le_of_ble_eq_true rfl, Nat.le_of_ble_eq_true rfl⟩) (kpreV (wc := [(q, .inr (4, [.int r1, .int r2, .int r3, .int r4, .int r5])), (o, .inr (2, [.ref ok, .ref ov, .ref or, .int (nI n)])), (ok, .inl (g.2.1.1, 160, .inl fk)), (ov, .inl (g.2.1.1, 160, .inl fv)), (or, .inl (g.2.1.1, 160, .inl fr))]) (ci := 4) hK hP hD hS hA hE [10, 6, 7, 8, 9] rfl rfl rfl rfl) rfl rfl hl.1 rfl (lv_room (Nat.le_of_ble_eq_true rfl)) dX4_build_32 ⟨Nat.zero_le _, Nat.zero_le _⟩) hP hD hS hA rfl (fun w_1 H locs hp hP hD hS => ?_)
        obtain ⟨x4_1, x5_1, rfl⟩ := hp
        have hP : va_P g.1 vwCl [(h, .inr (6, [.ref s1, .ref s2, .ref s3, .ref s4, .ref s5, .int (nI mm)])), (s1, .inl (g.2.1.1, 160, .inl u1)), (s2, .inl (g.2.1.1, 160, .inl u2)), (s3, .inl (g.2.1.1, 160, .inl u3)), (s4, .inl (g.2.1.1, 160, .inl u4)), (s5, .inl (g.2.1.1, 160, .inl u5)), (o, .inr (2, [.ref ok, .ref ov, .ref or, .int (nI n)])), (ok, .inl (g.2.1.1, 160, .inl fk)), (ov, .inl (g.2.1.1, 160, .inl fv)), (or, .inl (g.2.1.1, 160, .inl fr)), (q, .inr (4, [.int (nI (gw0 κ n fi β).1), .int (nI ((gw0 κ n fi β).2.1.toNat / Nat.gcd (gw0 κ n fi β).2.2.toNat (gw0 κ n fi β).2.1.toNat)), .int (nI ((gw0 κ n fi β).2.2.toNat / Nat.gcd (gw0 κ n fi β).2.2.toNat (gw0 κ n fi β).2.1.toNat)), .int x4_1, .int x5_1]))] H := hP
        have hD : va_D A [(h, .inr (6, [.ref s1, .ref s2, .ref s3, .ref s4, .ref s5, .int (nI mm)])), (s1, .inl (g.2.1.1, 160, .inl u1)), (s2, .inl (g.2.1.1, 160, .inl u2)), (s3, .inl (g.2.1.1, 160, .inl u3)), (s4, .inl (g.2.1.1, 160, .inl u4)), (s5, .inl (g.2.1.1, 160, .inl u5)), (o, .inr (2, [.ref ok, .ref ov, .ref or, .int (nI n)])), (ok, .inl (g.2.1.1, 160, .inl fk)), (ov, .inl (g.2.1.1, 160, .inl fv)), (or, .inl (g.2.1.1, 160, .inl fr)), (q, .inr (4, [.int (nI (gw0 κ n fi β).1), .int (nI ((gw0 κ n fi β).2.1.toNat / Nat.gcd (gw0 κ n fi β).2.2.toNat (gw0 κ n fi β).2.1.toNat)), .int (nI ((gw0 κ n fi β).2.2.toNat / Nat.gcd (gw0 κ n fi β).2.2.toNat (gw0 κ n fi β).2.1.toNat)), .int x4_1, .int x5_1]))] := hD
        refine lv_aload_n hx hb dX4_build_35 rfl (lv_at hl 1 rfl) ?_
        refine va_get (D := g.1) (ci := 6) (v := .ref s1) (C := RX4) (T := TX4) (N := 6) hx hb hts (by decide +kernel) hown hK hP 0 rfl rfl 0 (by decide) (hts (.fieldLink RX4 9 "LearnedIndex$Segments" "firsts" "[I") (by decide +kernel)) (fun _ h9 => h9) rfl dX4_build_36 ?_
        refine lv_aload_n hx hb dX4_build_39 rfl (lv_at hl 1 rfl) ?_
        refine va_get (D := g.1) (ci := 6) (v := .int (nI mm)) (C := RX4) (T := TX4) (N := 6) hx hb hts (by decide +kernel) hown hK hP 0 rfl rfl 5 (by decide) (hts (.fieldLink RX4 27 "LearnedIndex$Segments" "size" "I") (by decide +kernel)) (fun _ h9 => h9) rfl dX4_build_40 ?_
        refine lv_iload hx hb dX4_build_43 (lv_at hl 0 rfl) ?_
        refine kcallv (wc := [(s1, .inl (g.2.1.1, 160, .inl u1))]) [1] (va_runSN (As := [.ref s1, .int (nI mm), .int (nI fi)]) (rest := []) ⟨hx, hb, hml, hown, hts⟩ ((c_X6_store l g s1 160 u1 (nI mm) (nI fi) (by decide)) _) ⟨va_cnB 3 hts gX4_build_X6_store_n40 rfl rfl rfl (hE.1 _ (List.mem_of_getElem? (i := 38) rfl)) (hts (.initialized RX6) (by decide +kernel)) (by decide +kernel) ⟨Nat.le_of_ble_eq_true rfl, Nat.le_of_ble_eq_true rfl⟩, hts (.static yX6_store) (by decide +kernel), trivial⟩ (kpreS (wc := [(s1, .inl (g.2.1.1, 160, .inl u1))]) hK hP hD hS hA hE [1] rfl rfl) rfl rfl hl.1 rfl (lv_room (Nat.le_of_ble_eq_true rfl)) dX4_build_45 ⟨Nat.zero_le _, Nat.zero_le _⟩) hP hD hS hA rfl (fun w_2 H locs hp hP hD hS => ?_)
        obtain rfl := hp
        have hP : va_P g.1 vwCl [(h, .inr (6, [.ref s1, .ref s2, .ref s3, .ref s4, .ref s5, .int (nI mm)])), (s1, .inl (g.2.1.1, 160, .inl (kstore 160 u1 (nI mm) (nI fi)))), (s2, .inl (g.2.1.1, 160, .inl u2)), (s3, .inl (g.2.1.1, 160, .inl u3)), (s4, .inl (g.2.1.1, 160, .inl u4)), (s5, .inl (g.2.1.1, 160, .inl u5)), (o, .inr (2, [.ref ok, .ref ov, .ref or, .int (nI n)])), (ok, .inl (g.2.1.1, 160, .inl fk)), (ov, .inl (g.2.1.1, 160, .inl fv)), (or, .inl (g.2.1.1, 160, .inl fr)), (q, .inr (4, [.int (nI (gw0 κ n fi β).1), .int (nI ((gw0 κ n fi β).2.1.toNat / Nat.gcd (gw0 κ n fi β).2.2.toNat (gw0 κ n fi β).2.1.toNat)), .int (nI ((gw0 κ n fi β).2.2.toNat / Nat.gcd (gw0 κ n fi β).2.2.toNat (gw0 κ n fi β).2.1.toNat)), .int x4_1, .int x5_1]))] H := hP
        have hD : va_D A [(h, .inr (6, [.ref s1, .ref s2, .ref s3, .ref s4, .ref s5, .int (nI mm)])), (s1, .inl (g.2.1.1, 160, .inl (kstore 160 u1 (nI mm) (nI fi)))), (s2, .inl (g.2.1.1, 160, .inl u2)), (s3, .inl (g.2.1.1, 160, .inl u3)), (s4, .inl (g.2.1.1, 160, .inl u4)), (s5, .inl (g.2.1.1, 160, .inl u5)), (o, .inr (2, [.ref ok, .ref ov, .ref or, .int (nI n)])), (ok, .inl (g.2.1.1, 160, .inl fk)), (ov, .inl (g.2.1.1, 160, .inl fv)), (or, .inl (g.2.1.1, 160, .inl fr)), (q, .inr (4, [.int (nI (gw0 κ n fi β).1), .int (nI ((gw0 κ n fi β).2.1.toNat / Nat.gcd (gw0 κ n fi β).2.2.toNat (gw0 κ n fi β).2.1.toNat)), .int (nI ((gw0 κ n fi β).2.2.toNat / Nat.gcd (gw0 κ n fi β).2.2.toNat (gw0 κ n fi β).2.1.toNat)), .int x4_1, .int x5_1]))] := hD
        refine lv_aload_n hx hb dX4_build_48 rfl (lv_at hl 1 rfl) ?_
        refine va_get (D := g.1) (ci := 6) (v := .ref s2) (C := RX4) (T := TX4) (N := 6) hx hb hts (by decide +kernel) hown hK hP 0 rfl rfl 1 (by decide) (hts (.fieldLink RX4 15 "LearnedIndex$Segments" "lasts" "[I") (by decide +kernel)) (fun _ h9 => h9) rfl dX4_build_49 ?_
        refine lv_aload_n hx hb dX4_build_52 rfl (lv_at hl 1 rfl) ?_
        refine va_get (D := g.1) (ci := 6) (v := .int (nI mm)) (C := RX4) (T := TX4) (N := 6) hx hb hts (by decide +kernel) hown hK hP 0 rfl rfl 5 (by decide) (hts (.fieldLink RX4 27 "LearnedIndex$Segments" "size" "I") (by decide +kernel)) (fun _ h9 => h9) rfl dX4_build_53 ?_
        refine lv_aload_n hx hb dX4_build_56 rfl (lv_at hl 4 rfl) ?_
        refine va_getN (D := g.1) (ci := 4) (v := .int (nI (gw0 κ n fi β).1)) (C := RX2) (T := TX2) (N := 5) hx hb hts (by decide +kernel) hown hK hP 10 rfl rfl 0 (by decide) (va_Nw.use rfl (hE.1 _ (List.mem_of_getElem? (i := 39) rfl))) (fun _ h9 => h9) rfl dX4_build_57 ?_
        refine kcallv (wc := [(s2, .inl (g.2.1.1, 160, .inl u2))]) [2] (va_runSN (As := [.ref s2, .int (nI mm), .int (nI (gw0 κ n fi β).1)]) (rest := []) ⟨hx, hb, hml, hown, hts⟩ ((c_X6_store l g s2 160 u2 (nI mm) (nI (gw0 κ n fi β).1) (by decide)) _) ⟨va_cnB 3 hts gX4_build_X6_store_n40 rfl rfl rfl (hE.1 _ (List.mem_of_getElem? (i := 38) rfl)) (hts (.initialized RX6) (by decide +kernel)) (by decide +kernel) ⟨Nat.le_of_ble_eq_true rfl, Nat.le_of_ble_eq_true rfl⟩, hts (.static yX6_store) (by decide +kernel), trivial⟩ (kpreS (wc := [(s2, .inl (g.2.1.1, 160, .inl u2))]) hK hP hD hS hA hE [2] rfl rfl) rfl rfl hl.1 rfl (lv_room (Nat.le_of_ble_eq_true rfl)) dX4_build_60 ⟨Nat.zero_le _, Nat.zero_le _⟩) hP hD hS hA rfl (fun w_3 H locs hp hP hD hS => ?_)
        obtain rfl := hp
        have hP : va_P g.1 vwCl [(h, .inr (6, [.ref s1, .ref s2, .ref s3, .ref s4, .ref s5, .int (nI mm)])), (s1, .inl (g.2.1.1, 160, .inl (kstore 160 u1 (nI mm) (nI fi)))), (s2, .inl (g.2.1.1, 160, .inl (kstore 160 u2 (nI mm) (nI (gw0 κ n fi β).1)))), (s3, .inl (g.2.1.1, 160, .inl u3)), (s4, .inl (g.2.1.1, 160, .inl u4)), (s5, .inl (g.2.1.1, 160, .inl u5)), (o, .inr (2, [.ref ok, .ref ov, .ref or, .int (nI n)])), (ok, .inl (g.2.1.1, 160, .inl fk)), (ov, .inl (g.2.1.1, 160, .inl fv)), (or, .inl (g.2.1.1, 160, .inl fr)), (q, .inr (4, [.int (nI (gw0 κ n fi β).1), .int (nI ((gw0 κ n fi β).2.1.toNat / Nat.gcd (gw0 κ n fi β).2.2.toNat (gw0 κ n fi β).2.1.toNat)), .int (nI ((gw0 κ n fi β).2.2.toNat / Nat.gcd (gw0 κ n fi β).2.2.toNat (gw0 κ n fi β).2.1.toNat)), .int x4_1, .int x5_1]))] H := hP
        have hD : va_D A [(h, .inr (6, [.ref s1, .ref s2, .ref s3, .ref s4, .ref s5, .int (nI mm)])), (s1, .inl (g.2.1.1, 160, .inl (kstore 160 u1 (nI mm) (nI fi)))), (s2, .inl (g.2.1.1, 160, .inl (kstore 160 u2 (nI mm) (nI (gw0 κ n fi β).1)))), (s3, .inl (g.2.1.1, 160, .inl u3)), (s4, .inl (g.2.1.1, 160, .inl u4)), (s5, .inl (g.2.1.1, 160, .inl u5)), (o, .inr (2, [.ref ok, .ref ov, .ref or, .int (nI n)])), (ok, .inl (g.2.1.1, 160, .inl fk)), (ov, .inl (g.2.1.1, 160, .inl fv)), (or, .inl (g.2.1.1, 160, .inl fr)), (q, .inr (4, [.int (nI (gw0 κ n fi β).1), .int (nI ((gw0 κ n fi β).2.1.toNat / Nat.gcd (gw0 κ n fi β).2.2.toNat (gw0 κ n fi β).2.1.toNat)), .int (nI ((gw0 κ n fi β).2.2.toNat / Nat.gcd (gw0 κ n fi β).2.2.toNat (gw0 κ n fi β).2.1.toNat)), .int x4_1, .int x5_1]))] := hD
        refine lv_aload_n hx hb dX4_build_63 rfl (lv_at hl 1 rfl) ?_
        refine va_get (D := g.1) (ci := 6) (v := .ref s3) (C := RX4) (T := TX4) (N := 6) hx hb hts (by decide +kernel) hown hK hP 0 rfl rfl 2 (by decide) (hts (.fieldLink RX4 18 "LearnedIndex$Segments" "firstKeys" "[I") (by decide +kernel)) (fun _ h9 => h9) rfl dX4_build_64 ?_
        refine lv_aload_n hx hb dX4_build_67 rfl (lv_at hl 1 rfl) ?_
        refine va_get (D := g.1) (ci := 6) (v := .int (nI mm)) (C := RX4) (T := TX4) (N := 6) hx hb hts (by decide +kernel) hown hK hP 0 rfl rfl 5 (by decide) (hts (.fieldLink RX4 27 "LearnedIndex$Segments" "size" "I") (by decide +kernel)) (fun _ h9 => h9) rfl dX4_build_68 ?_
        refine lv_aload_n hx hb dX4_build_71 rfl (lv_at hl 2 rfl) ?_
        refine lv_iload hx hb dX4_build_72 (lv_at hl 0 rfl) ?_
        refine kcalli (wc := [(o, .inr (2, [.ref ok, .ref ov, .ref or, .int (nI n)])), (ok, .inl (g.2.1.1, 160, .inl fk)), (ov, .inl (g.2.1.1, 160, .inl fv)), (or, .inl (g.2.1.1, 160, .inl fr))]) [6, 7, 8, 9] (va_runV (C := RX0) (As := [.int (nI fi)]) (rest := [.int (nI mm), .ref s3]) ⟨hx, hb, hml, hown, hts⟩ ((c_X0_key l g o ok ov or n fk fv fr (nI fi)) _) (cwV 1 hts gX4_build_X0_key rfl rfl rfl (by decide +kernel) ⟨Nat.le_of_ble_eq_true rfl, Nat.le_of_ble_eq_true rfl⟩) (kpreV (wc := [(o, .inr (2, [.ref ok, .ref ov, .ref or, .int (nI n)])), (ok, .inl (g.2.1.1, 160, .inl fk)), (ov, .inl (g.2.1.1, 160, .inl fv)), (or, .inl (g.2.1.1, 160, .inl fr))]) (ci := 2) hK hP hD hS hA hE [6, 7, 8, 9] rfl rfl rfl rfl) rfl rfl hl.1 rfl (lv_room (Nat.le_of_ble_eq_true rfl)) dX4_build_74 ⟨Nat.zero_le _, Nat.zero_le _⟩) hP hD hS hA rfl (fun r_4 w_4 H locs hp hP hD hS => ?_)
        obtain ⟨rfl, rfl⟩ := hp
        have hP : va_P g.1 vwCl [(h, .inr (6, [.ref s1, .ref s2, .ref s3, .ref s4, .ref s5, .int (nI mm)])), (s1, .inl (g.2.1.1, 160, .inl (kstore 160 u1 (nI mm) (nI fi)))), (s2, .inl (g.2.1.1, 160, .inl (kstore 160 u2 (nI mm) (nI (gw0 κ n fi β).1)))), (s3, .inl (g.2.1.1, 160, .inl u3)), (s4, .inl (g.2.1.1, 160, .inl u4)), (s5, .inl (g.2.1.1, 160, .inl u5)), (o, .inr (2, [.ref ok, .ref ov, .ref or, .int (nI n)])), (ok, .inl (g.2.1.1, 160, .inl fk)), (ov, .inl (g.2.1.1, 160, .inl fv)), (or, .inl (g.2.1.1, 160, .inl fr)), (q, .inr (4, [.int (nI (gw0 κ n fi β).1), .int (nI ((gw0 κ n fi β).2.1.toNat / Nat.gcd (gw0 κ n fi β).2.2.toNat (gw0 κ n fi β).2.1.toNat)), .int (nI ((gw0 κ n fi β).2.2.toNat / Nat.gcd (gw0 κ n fi β).2.2.toNat (gw0 κ n fi β).2.1.toNat)), .int x4_1, .int x5_1]))] H := hP
        have hD : va_D A [(h, .inr (6, [.ref s1, .ref s2, .ref s3, .ref s4, .ref s5, .int (nI mm)])), (s1, .inl (g.2.1.1, 160, .inl (kstore 160 u1 (nI mm) (nI fi)))), (s2, .inl (g.2.1.1, 160, .inl (kstore 160 u2 (nI mm) (nI (gw0 κ n fi β).1)))), (s3, .inl (g.2.1.1, 160, .inl u3)), (s4, .inl (g.2.1.1, 160, .inl u4)), (s5, .inl (g.2.1.1, 160, .inl u5)), (o, .inr (2, [.ref ok, .ref ov, .ref or, .int (nI n)])), (ok, .inl (g.2.1.1, 160, .inl fk)), (ov, .inl (g.2.1.1, 160, .inl fv)), (or, .inl (g.2.1.1, 160, .inl fr)), (q, .inr (4, [.int (nI (gw0 κ n fi β).1), .int (nI ((gw0 κ n fi β).2.1.toNat / Nat.gcd (gw0 κ n fi β).2.2.toNat (gw0 κ n fi β).2.1.toNat)), .int (nI ((gw0 κ n fi β).2.2.toNat / Nat.gcd (gw0 κ n fi β).2.2.toNat (gw0 κ n fi β).2.1.toNat)), .int x4_1, .int x5_1]))] := hD
        refine kcallv (wc := [(s3, .inl (g.2.1.1, 160, .inl u3))]) [3] (va_runSN (As := [.ref s3, .int (nI mm), .int (kcell 160 fk (nI fi))]) (rest := []) ⟨hx, hb, hml, hown, hts⟩ ((c_X6_store l g s3 160 u3 (nI mm) (kcell 160 fk (nI fi)) (by decide)) _) ⟨va_cnB 3 hts gX4_build_X6_store_n40 rfl rfl rfl (hE.1 _ (List.mem_of_getElem? (i := 38) rfl)) (hts (.initialized RX6) (by decide +kernel)) (by decide +kernel) ⟨Nat.le_of_ble_eq_true rfl, Nat.le_of_ble_eq_true rfl⟩, hts (.static yX6_store) (by decide +kernel), trivial⟩ (kpreS (wc := [(s3, .inl (g.2.1.1, 160, .inl u3))]) hK hP hD hS hA hE [3] rfl rfl) rfl rfl hl.1 rfl (lv_room (Nat.le_of_ble_eq_true rfl)) dX4_build_77 ⟨Nat.zero_le _, Nat.zero_le _⟩) hP hD hS hA rfl (fun w_5 H locs hp hP hD hS => ?_)
        obtain rfl := hp
        have hP : va_P g.1 vwCl [(h, .inr (6, [.ref s1, .ref s2, .ref s3, .ref s4, .ref s5, .int (nI mm)])), (s1, .inl (g.2.1.1, 160, .inl (kstore 160 u1 (nI mm) (nI fi)))), (s2, .inl (g.2.1.1, 160, .inl (kstore 160 u2 (nI mm) (nI (gw0 κ n fi β).1)))), (s3, .inl (g.2.1.1, 160, .inl (kstore 160 u3 (nI mm) (kcell 160 fk (nI fi))))), (s4, .inl (g.2.1.1, 160, .inl u4)), (s5, .inl (g.2.1.1, 160, .inl u5)), (o, .inr (2, [.ref ok, .ref ov, .ref or, .int (nI n)])), (ok, .inl (g.2.1.1, 160, .inl fk)), (ov, .inl (g.2.1.1, 160, .inl fv)), (or, .inl (g.2.1.1, 160, .inl fr)), (q, .inr (4, [.int (nI (gw0 κ n fi β).1), .int (nI ((gw0 κ n fi β).2.1.toNat / Nat.gcd (gw0 κ n fi β).2.2.toNat (gw0 κ n fi β).2.1.toNat)), .int (nI ((gw0 κ n fi β).2.2.toNat / Nat.gcd (gw0 κ n fi β).2.2.toNat (gw0 κ n fi β).2.1.toNat)), .int x4_1, .int x5_1]))] H := hP
        have hD : va_D A [(h, .inr (6, [.ref s1, .ref s2, .ref s3, .ref s4, .ref s5, .int (nI mm)])), (s1, .inl (g.2.1.1, 160, .inl (kstore 160 u1 (nI mm) (nI fi)))), (s2, .inl (g.2.1.1, 160, .inl (kstore 160 u2 (nI mm) (nI (gw0 κ n fi β).1)))), (s3, .inl (g.2.1.1, 160, .inl (kstore 160 u3 (nI mm) (kcell 160 fk (nI fi))))), (s4, .inl (g.2.1.1, 160, .inl u4)), (s5, .inl (g.2.1.1, 160, .inl u5)), (o, .inr (2, [.ref ok, .ref ov, .ref or, .int (nI n)])), (ok, .inl (g.2.1.1, 160, .inl fk)), (ov, .inl (g.2.1.1, 160, .inl fv)), (or, .inl (g.2.1.1, 160, .inl fr)), (q, .inr (4, [.int (nI (gw0 κ n fi β).1), .int (nI ((gw0 κ n fi β).2.1.toNat / Nat.gcd (gw0 κ n fi β).2.2.toNat (gw0 κ n fi β).2.1.toNat)), .int (nI ((gw0 κ n fi β).2.2.toNat / Nat.gcd (gw0 κ n fi β).2.2.toNat (gw0 κ n fi β).2.1.toNat)), .int x4_1, .int x5_1]))] := hD
        refine lv_aload_n hx hb dX4_build_80 rfl (lv_at hl 1 rfl) ?_
        refine va_get (D := g.1) (ci := 6) (v := .ref s4) (C := RX4) (T := TX4) (N := 6) hx hb hts (by decide +kernel) hown hK hP 0 rfl rfl 3 (by decide) (hts (.fieldLink RX4 21 "LearnedIndex$Segments" "numerators" "[I") (by decide +kernel)) (fun _ h9 => h9) rfl dX4_build_81 ?_
        refine lv_aload_n hx hb dX4_build_84 rfl (lv_at hl 1 rfl) ?_
        refine va_get (D := g.1) (ci := 6) (v := .int (nI mm)) (C := RX4) (T := TX4) (N := 6) hx hb hts (by decide +kernel) hown hK hP 0 rfl rfl 5 (by decide) (hts (.fieldLink RX4 27 "LearnedIndex$Segments" "size" "I") (by decide +kernel)) (fun _ h9 => h9) rfl dX4_build_85 ?_
        refine lv_aload_n hx hb dX4_build_88 rfl (lv_at hl 4 rfl) ?_
        refine va_getN (D := g.1) (ci := 4) (v := .int (nI ((gw0 κ n fi β).2.1.toNat / Nat.gcd (gw0 κ n fi β).2.2.toNat (gw0 κ n fi β).2.1.toNat))) (C := RX2) (T := TX2) (N := 5) hx hb hts (by decide +kernel) hown hK hP 10 rfl rfl 1 (by decide) (va_Nw.use rfl (hE.1 _ (List.mem_of_getElem? (i := 40) rfl))) (fun _ h9 => h9) rfl dX4_build_89 ?_
        refine kcallv (wc := [(s4, .inl (g.2.1.1, 160, .inl u4))]) [4] (va_runSN (As := [.ref s4, .int (nI mm), .int (nI ((gw0 κ n fi β).2.1.toNat / Nat.gcd (gw0 κ n fi β).2.2.toNat (gw0 κ n fi β).2.1.toNat))]) (rest := []) ⟨hx, hb, hml, hown, hts⟩ ((c_X6_store l g s4 160 u4 (nI mm) (nI ((gw0 κ n fi β).2.1.toNat / Nat.gcd (gw0 κ n fi β).2.2.toNat (gw0 κ n fi β).2.1.toNat)) (by decide)) _) ⟨va_cnB 3 hts gX4_build_X6_store_n40 rfl rfl rfl (hE.1 _ (List.mem_of_getElem? (i := 38) rfl)) (hts (.initialized RX6) (by decide +kernel)) (by decide +kernel) ⟨Nat.le_of_ble_eq_true rfl, Nat.le_of_ble_eq_true rfl⟩, hts (.static yX6_store) (by decide +kernel), trivial⟩ (kpreS (wc := [(s4, .inl (g.2.1.1, 160, .inl u4))]) hK hP hD hS hA hE [4] rfl rfl) rfl rfl hl.1 rfl (lv_room (Nat.le_of_ble_eq_true rfl)) dX4_build_92 ⟨Nat.zero_le _, Nat.zero_le _⟩) hP hD hS hA rfl (fun w_6 H locs hp hP hD hS => ?_)
        obtain rfl := hp
        have hP : va_P g.1 vwCl [(h, .inr (6, [.ref s1, .ref s2, .ref s3, .ref s4, .ref s5, .int (nI mm)])), (s1, .inl (g.2.1.1, 160, .inl (kstore 160 u1 (nI mm) (nI fi)))), (s2, .inl (g.2.1.1, 160, .inl (kstore 160 u2 (nI mm) (nI (gw0 κ n fi β).1)))), (s3, .inl (g.2.1.1, 160, .inl (kstore 160 u3 (nI mm) (kcell 160 fk (nI fi))))), (s4, .inl (g.2.1.1, 160, .inl (kstore 160 u4 (nI mm) (nI ((gw0 κ n fi β).2.1.toNat / Nat.gcd (gw0 κ n fi β).2.2.toNat (gw0 κ n fi β).2.1.toNat))))), (s5, .inl (g.2.1.1, 160, .inl u5)), (o, .inr (2, [.ref ok, .ref ov, .ref or, .int (nI n)])), (ok, .inl (g.2.1.1, 160, .inl fk)), (ov, .inl (g.2.1.1, 160, .inl fv)), (or, .inl (g.2.1.1, 160, .inl fr)), (q, .inr (4, [.int (nI (gw0 κ n fi β).1), .int (nI ((gw0 κ n fi β).2.1.toNat / Nat.gcd (gw0 κ n fi β).2.2.toNat (gw0 κ n fi β).2.1.toNat)), .int (nI ((gw0 κ n fi β).2.2.toNat / Nat.gcd (gw0 κ n fi β).2.2.toNat (gw0 κ n fi β).2.1.toNat)), .int x4_1, .int x5_1]))] H := hP
        have hD : va_D A [(h, .inr (6, [.ref s1, .ref s2, .ref s3, .ref s4, .ref s5, .int (nI mm)])), (s1, .inl (g.2.1.1, 160, .inl (kstore 160 u1 (nI mm) (nI fi)))), (s2, .inl (g.2.1.1, 160, .inl (kstore 160 u2 (nI mm) (nI (gw0 κ n fi β).1)))), (s3, .inl (g.2.1.1, 160, .inl (kstore 160 u3 (nI mm) (kcell 160 fk (nI fi))))), (s4, .inl (g.2.1.1, 160, .inl (kstore 160 u4 (nI mm) (nI ((gw0 κ n fi β).2.1.toNat / Nat.gcd (gw0 κ n fi β).2.2.toNat (gw0 κ n fi β).2.1.toNat))))), (s5, .inl (g.2.1.1, 160, .inl u5)), (o, .inr (2, [.ref ok, .ref ov, .ref or, .int (nI n)])), (ok, .inl (g.2.1.1, 160, .inl fk)), (ov, .inl (g.2.1.1, 160, .inl fv)), (or, .inl (g.2.1.1, 160, .inl fr)), (q, .inr (4, [.int (nI (gw0 κ n fi β).1), .int (nI ((gw0 κ n fi β).2.1.toNat / Nat.gcd (gw0 κ n fi β).2.2.toNat (gw0 κ n fi β).2.1.toNat)), .int (nI ((gw0 κ n fi β).2.2.toNat / Nat.gcd (gw0 κ n fi β).2.2.toNat (gw0 κ n fi β).2.1.toNat)), .int x4_1, .int x5_1]))] := hD
        refine lv_aload_n hx hb dX4_build_95 rfl (lv_at hl 1 rfl) ?_
        refine va_get (D := g.1) (ci := 6) (v := .ref s5) (C := RX4) (T := TX4) (N := 6) hx hb hts (by decide +kernel) hown hK hP 0 rfl rfl 4 (by decide) (hts (.fieldLink RX4 24 "LearnedIndex$Segments" "denominators" "[I") (by decide +kernel)) (fun _ h9 => h9) rfl dX4_build_96 ?_
        refine lv_aload_n hx hb dX4_build_99 rfl (lv_at hl 1 rfl) ?_
        refine va_get (D := g.1) (ci := 6) (v := .int (nI mm)) (C := RX4) (T := TX4) (N := 6) hx hb hts (by decide +kernel) hown hK hP 0 rfl rfl 5 (by decide) (hts (.fieldLink RX4 27 "LearnedIndex$Segments" "size" "I") (by decide +kernel)) (fun _ h9 => h9) rfl dX4_build_100 ?_
        refine lv_aload_n hx hb dX4_build_103 rfl (lv_at hl 4 rfl) ?_
        refine va_getN (D := g.1) (ci := 4) (v := .int (nI ((gw0 κ n fi β).2.2.toNat / Nat.gcd (gw0 κ n fi β).2.2.toNat (gw0 κ n fi β).2.1.toNat))) (C := RX2) (T := TX2) (N := 5) hx hb hts (by decide +kernel) hown hK hP 10 rfl rfl 2 (by decide) (va_Nw.use rfl (hE.1 _ (List.mem_of_getElem? (i := 41) rfl))) (fun _ h9 => h9) rfl dX4_build_104 ?_
        refine kcallv (wc := [(s5, .inl (g.2.1.1, 160, .inl u5))]) [5] (va_runSN (As := [.ref s5, .int (nI mm), .int (nI ((gw0 κ n fi β).2.2.toNat / Nat.gcd (gw0 κ n fi β).2.2.toNat (gw0 κ n fi β).2.1.toNat))]) (rest := []) ⟨hx, hb, hml, hown, hts⟩ ((c_X6_store l g s5 160 u5 (nI mm) (nI ((gw0 κ n fi β).2.2.toNat / Nat.gcd (gw0 κ n fi β).2.2.toNat (gw0 κ n fi β).2.1.toNat)) (by decide)) _) ⟨va_cnB 3 hts gX4_build_X6_store_n40 rfl rfl rfl (hE.1 _ (List.mem_of_getElem? (i := 38) rfl)) (hts (.initialized RX6) (by decide +kernel)) (by decide +kernel) ⟨Nat.le_of_ble_eq_true rfl, Nat.le_of_ble_eq_true rfl⟩, hts (.static yX6_store) (by decide +kernel), trivial⟩ (kpreS (wc := [(s5, .inl (g.2.1.1, 160, .inl u5))]) hK hP hD hS hA hE [5] rfl rfl) rfl rfl hl.1 rfl (lv_room (Nat.le_of_ble_eq_true rfl)) dX4_build_107 ⟨Nat.zero_le _, Nat.zero_le _⟩) hP hD hS hA rfl (fun w_7 H locs hp hP hD hS => ?_)
        obtain rfl := hp
        have hP : va_P g.1 vwCl [(h, .inr (6, [.ref s1, .ref s2, .ref s3, .ref s4, .ref s5, .int (nI mm)])), (s1, .inl (g.2.1.1, 160, .inl (kstore 160 u1 (nI mm) (nI fi)))), (s2, .inl (g.2.1.1, 160, .inl (kstore 160 u2 (nI mm) (nI (gw0 κ n fi β).1)))), (s3, .inl (g.2.1.1, 160, .inl (kstore 160 u3 (nI mm) (kcell 160 fk (nI fi))))), (s4, .inl (g.2.1.1, 160, .inl (kstore 160 u4 (nI mm) (nI ((gw0 κ n fi β).2.1.toNat / Nat.gcd (gw0 κ n fi β).2.2.toNat (gw0 κ n fi β).2.1.toNat))))), (s5, .inl (g.2.1.1, 160, .inl (kstore 160 u5 (nI mm) (nI ((gw0 κ n fi β).2.2.toNat / Nat.gcd (gw0 κ n fi β).2.2.toNat (gw0 κ n fi β).2.1.toNat))))), (o, .inr (2, [.ref ok, .ref ov, .ref or, .int (nI n)])), (ok, .inl (g.2.1.1, 160, .inl fk)), (ov, .inl (g.2.1.1, 160, .inl fv)), (or, .inl (g.2.1.1, 160, .inl fr)), (q, .inr (4, [.int (nI (gw0 κ n fi β).1), .int (nI ((gw0 κ n fi β).2.1.toNat / Nat.gcd (gw0 κ n fi β).2.2.toNat (gw0 κ n fi β).2.1.toNat)), .int (nI ((gw0 κ n fi β).2.2.toNat / Nat.gcd (gw0 κ n fi β).2.2.toNat (gw0 κ n fi β).2.1.toNat)), .int x4_1, .int x5_1]))] H := hP
        have hD : va_D A [(h, .inr (6, [.ref s1, .ref s2, .ref s3, .ref s4, .ref s5, .int (nI mm)])), (s1, .inl (g.2.1.1, 160, .inl (kstore 160 u1 (nI mm) (nI fi)))), (s2, .inl (g.2.1.1, 160, .inl (kstore 160 u2 (nI mm) (nI (gw0 κ n fi β).1)))), (s3, .inl (g.2.1.1, 160, .inl (kstore 160 u3 (nI mm) (kcell 160 fk (nI fi))))), (s4, .inl (g.2.1.1, 160, .inl (kstore 160 u4 (nI mm) (nI ((gw0 κ n fi β).2.1.toNat / Nat.gcd (gw0 κ n fi β).2.2.toNat (gw0 κ n fi β).2.1.toNat))))), (s5, .inl (g.2.1.1, 160, .inl (kstore 160 u5 (nI mm) (nI ((gw0 κ n fi β).2.2.toNat / Nat.gcd (gw0 κ n fi β).2.2.toNat (gw0 κ n fi β).2.1.toNat))))), (o, .inr (2, [.ref ok, .ref ov, .ref or, .int (nI n)])), (ok, .inl (g.2.1.1, 160, .inl fk)), (ov, .inl (g.2.1.1, 160, .inl fv)), (or, .inl (g.2.1.1, 160, .inl fr)), (q, .inr (4, [.int (nI (gw0 κ n fi β).1), .int (nI ((gw0 κ n fi β).2.1.toNat / Nat.gcd (gw0 κ n fi β).2.2.toNat (gw0 κ n fi β).2.1.toNat)), .int (nI ((gw0 κ n fi β).2.2.toNat / Nat.gcd (gw0 κ n fi β).2.2.toNat (gw0 κ n fi β).2.1.toNat)), .int x4_1, .int x5_1]))] := hD
        refine lv_aload_n hx hb dX4_build_110 rfl (lv_at hl 1 rfl) ?_
        refine lv_dup hx hb dX4_build_111 rfl ?_
        refine va_get (D := g.1) (ci := 6) (v := .int (nI mm)) (C := RX4) (T := TX4) (N := 6) hx hb hts (by decide +kernel) hown hK hP 0 rfl rfl 5 (by decide) (hts (.fieldLink RX4 27 "LearnedIndex$Segments" "size" "I") (by decide +kernel)) (fun _ h9 => h9) rfl dX4_build_112 ?_
        refine lv_iconst (v := 1) hx hb dX4_build_115 (by decide) ?_
        refine lv_iadd hx hb dX4_build_116 ?_
        rw [show ((nI mm) + 1 : Int32) = nI (mm + 1) from nI_1 mm]
        refine va_put (D := g.1) (ci := 6) (v := .int (nI (mm + 1))) (ty := .int) (C := RX4) (T := TX4) (N := 6) hx hb hts (by decide +kernel) tyX4 tyX4_ok nmX4 hown hK hP hD hS 0 rfl rfl 5 (by decide) (hts (.fieldLink RX4 27 "LearnedIndex$Segments" "size" "I") (by decide +kernel)) (fun _ h9 => h9) rfl (by decide +kernel) rfl rfl (Nat.le_of_ble_eq_true rfl) dX4_build_117 (fun H locs hP hD hS => ?_)
        have hP : va_P g.1 vwCl [(h, .inr (6, [.ref s1, .ref s2, .ref s3, .ref s4, .ref s5, .int (nI (mm + 1))])), (s1, .inl (g.2.1.1, 160, .inl (kstore 160 u1 (nI mm) (nI fi)))), (s2, .inl (g.2.1.1, 160, .inl (kstore 160 u2 (nI mm) (nI (gw0 κ n fi β).1)))), (s3, .inl (g.2.1.1, 160, .inl (kstore 160 u3 (nI mm) (kcell 160 fk (nI fi))))), (s4, .inl (g.2.1.1, 160, .inl (kstore 160 u4 (nI mm) (nI ((gw0 κ n fi β).2.1.toNat / Nat.gcd (gw0 κ n fi β).2.2.toNat (gw0 κ n fi β).2.1.toNat))))), (s5, .inl (g.2.1.1, 160, .inl (kstore 160 u5 (nI mm) (nI ((gw0 κ n fi β).2.2.toNat / Nat.gcd (gw0 κ n fi β).2.2.toNat (gw0 κ n fi β).2.1.toNat))))), (o, .inr (2, [.ref ok, .ref ov, .ref or, .int (nI n)])), (ok, .inl (g.2.1.1, 160, .inl fk)), (ov, .inl (g.2.1.1, 160, .inl fv)), (or, .inl (g.2.1.1, 160, .inl fr)), (q, .inr (4, [.int (nI (gw0 κ n fi β).1), .int (nI ((gw0 κ n fi β).2.1.toNat / Nat.gcd (gw0 κ n fi β).2.2.toNat (gw0 κ n fi β).2.1.toNat)), .int (nI ((gw0 κ n fi β).2.2.toNat / Nat.gcd (gw0 κ n fi β).2.2.toNat (gw0 κ n fi β).2.1.toNat)), .int x4_1, .int x5_1]))] H := hP
        have hD : va_D A [(h, .inr (6, [.ref s1, .ref s2, .ref s3, .ref s4, .ref s5, .int (nI (mm + 1))])), (s1, .inl (g.2.1.1, 160, .inl (kstore 160 u1 (nI mm) (nI fi)))), (s2, .inl (g.2.1.1, 160, .inl (kstore 160 u2 (nI mm) (nI (gw0 κ n fi β).1)))), (s3, .inl (g.2.1.1, 160, .inl (kstore 160 u3 (nI mm) (kcell 160 fk (nI fi))))), (s4, .inl (g.2.1.1, 160, .inl (kstore 160 u4 (nI mm) (nI ((gw0 κ n fi β).2.1.toNat / Nat.gcd (gw0 κ n fi β).2.2.toNat (gw0 κ n fi β).2.1.toNat))))), (s5, .inl (g.2.1.1, 160, .inl (kstore 160 u5 (nI mm) (nI ((gw0 κ n fi β).2.2.toNat / Nat.gcd (gw0 κ n fi β).2.2.toNat (gw0 κ n fi β).2.1.toNat))))), (o, .inr (2, [.ref ok, .ref ov, .ref or, .int (nI n)])), (ok, .inl (g.2.1.1, 160, .inl fk)), (ov, .inl (g.2.1.1, 160, .inl fv)), (or, .inl (g.2.1.1, 160, .inl fr)), (q, .inr (4, [.int (nI (gw0 κ n fi β).1), .int (nI ((gw0 κ n fi β).2.1.toNat / Nat.gcd (gw0 κ n fi β).2.2.toNat (gw0 κ n fi β).2.1.toNat)), .int (nI ((gw0 κ n fi β).2.2.toNat / Nat.gcd (gw0 κ n fi β).2.2.toNat (gw0 κ n fi β).2.1.toNat)), .int x4_1, .int x5_1]))] := hD
        refine lv_aload_n hx hb dX4_build_120 rfl (lv_at hl 4 rfl) ?_
        refine va_getN (D := g.1) (ci := 4) (v := .int (nI (gw0 κ n fi β).1)) (C := RX2) (T := TX2) (N := 5) hx hb hts (by decide +kernel) hown hK hP 10 rfl rfl 0 (by decide) (va_Nw.use rfl (hE.1 _ (List.mem_of_getElem? (i := 39) rfl))) (fun _ h9 => h9) rfl dX4_build_121 ?_
        refine lv_iconst (v := 1) hx hb dX4_build_124 (by decide) ?_
        refine lv_iadd hx hb dX4_build_125 ?_
        rw [show ((nI (gw0 κ n fi β).1) + 1 : Int32) = nI ((gw0 κ n fi β).1 + 1) from nI_1 _]
        refine lv_istore (lv' := [(4, .int (nI ((gw0 κ n fi β).1 + 1))), (0, .ref h), (1, .ref o), (2, .int (kI β)), (3, .ref q)]) hx hb dX4_build_126 hl (by decide) rfl (fun ls hl => ?_)
        refine lv_goto (tgt := 8) hx hb dX4_build_128 (by decide) ?_
        exact ih8 ((gw0 κ n fi β).1 + 1) (mm + 1) (kstore 160 u1 (nI mm) (nI fi)) (kstore 160 u2 (nI mm) (nI (gw0 κ n fi β).1)) (kstore 160 u3 (nI mm) (kcell 160 fk (nI fi))) (kstore 160 u4 (nI mm) (nI ((gw0 κ n fi β).2.1.toNat / Nat.gcd (gw0 κ n fi β).2.2.toNat (gw0 κ n fi β).2.1.toNat))) (kstore 160 u5 (nI mm) (nI ((gw0 κ n fi β).2.2.toNat / Nat.gcd (gw0 κ n fi β).2.2.toNat (gw0 κ n fi β).2.1.toNat))) (nI (gw0 κ n fi β).1) (nI ((gw0 κ n fi β).2.1.toNat / Nat.gcd (gw0 κ n fi β).2.2.toNat (gw0 κ n fi β).2.1.toNat)) (nI ((gw0 κ n fi β).2.2.toNat / Nat.gcd (gw0 κ n fi β).2.2.toNat (gw0 κ n fi β).2.1.toNat)) x4_1 x5_1 _ _ ls (⟨by omega, by omega⟩) (by rw [kstore_nI _ _ (by decide) (show mm < 160 by omega), kstore_nI _ _ (by decide) (show mm < 160 by omega), kstore_nI _ _ (by decide) (show mm < 160 by omega), kstore_nI _ _ (by decide) (show mm < 160 by omega), kstore_nI _ _ (by decide) (show mm < 160 by omega), kcell_nI fk (show 160 < 2 ^ 31 by decide) (show fi < 160 by omega), hκ fi hfn]; exact SG_step hasc hn hβ hfn hg) (by omega) hP hD hS (lv_sub hl [0, 1, 2, 3, 4] rfl)
  exact L8 _ 0 0 u1 u2 u3 u4 u5 r1 r2 r3 r4 r5 _ _ ls (⟨Nat.zero_le _, Nat.le_refl 0⟩) rfl (Nat.lt_succ_self _) hP hD hS (lv_sub hl [0, 1, 2, 3, 4] rfl)
set_option maxRecDepth 20000 in
theorem ggX4_placeOf_X6_cell : GoodIn wsX4_placeOf wsX6_cell := goodIn_ca (goodIn_r _ [5] (by decide +kernel) (by decide +kernel)) (goodIn_sub (fun _ h => List.mem_cons_of_mem _ (List.mem_append_right _ h)) (by decide +kernel))
set_option maxRecDepth 20000 in
theorem gX4_placeOf_X6_cell_n57 : GoodIn wsX4_placeOf (wsX6_cell) := ggX4_placeOf_X6_cell
theorem dX4_placeOf_0 : decode cX4_placeOf 0 = .ok (.iconst 0, 1) := by decide +kernel
theorem dX4_placeOf_1 : decode cX4_placeOf 1 = .ok (.istore_n 2, 1) := by decide +kernel
theorem dX4_placeOf_2 : decode cX4_placeOf 2 = .ok (.iconst 1, 1) := by decide +kernel
theorem dX4_placeOf_3 : decode cX4_placeOf 3 = .ok (.istore_n 3, 1) := by decide +kernel
theorem dX4_placeOf_4 : decode cX4_placeOf 4 = .ok (.iload_n 3, 1) := by decide +kernel
theorem dX4_placeOf_5 : decode cX4_placeOf 5 = .ok (.aload_n 0, 1) := by decide +kernel
theorem dX4_placeOf_6 : decode cX4_placeOf 6 = .ok (.getfield 27, 3) := by decide +kernel
theorem dX4_placeOf_9 : decode cX4_placeOf 9 = .ok (.if_icmp .ge 23, 3) := by decide +kernel
theorem dX4_placeOf_12 : decode cX4_placeOf 12 = .ok (.aload_n 0, 1) := by decide +kernel
theorem dX4_placeOf_13 : decode cX4_placeOf 13 = .ok (.getfield 18, 3) := by decide +kernel
theorem dX4_placeOf_16 : decode cX4_placeOf 16 = .ok (.iload_n 3, 1) := by decide +kernel
theorem dX4_placeOf_17 : decode cX4_placeOf 17 = .ok (.invokestatic 57, 3) := by decide +kernel
theorem dX4_placeOf_20 : decode cX4_placeOf 20 = .ok (.iload_n 1, 1) := by decide +kernel
theorem dX4_placeOf_21 : decode cX4_placeOf 21 = .ok (.if_icmp .gt 5, 3) := by decide +kernel
theorem dX4_placeOf_24 : decode cX4_placeOf 24 = .ok (.iload_n 3, 1) := by decide +kernel
theorem dX4_placeOf_25 : decode cX4_placeOf 25 = .ok (.istore_n 2, 1) := by decide +kernel
theorem dX4_placeOf_26 : decode cX4_placeOf 26 = .ok (.iinc 3 1, 3) := by decide +kernel
theorem dX4_placeOf_29 : decode cX4_placeOf 29 = .ok (.goto (-25), 3) := by decide +kernel
theorem dX4_placeOf_32 : decode cX4_placeOf 32 = .ok (.iload_n 2, 1) := by decide +kernel
theorem dX4_placeOf_33 : decode cX4_placeOf 33 = .ok (.ireturn, 1) := by decide +kernel
def rm_X4_placeOf : Room := { frames := 1, cells := 0, slots := 0, locals := 21 }
abbrev p_X4_placeOf (g : kG) (h : Nat) (s1 : Nat) (s2 : Nat) (s3 : Nat) (s4 : Nat) (s5 : Nat) (mm : Nat) (u1 : Nat → Int32) (u2 : Nat → Int32) (u3 : Nat → Int32) (u4 : Nat → Int32) (u5 : Nat → Int32) (x : Int32) : Int32 → va_W → Prop := fun r w1 => r = nI (kplc u3 x mm) ∧ w1 = [(h, .inr (6, [.ref s1, .ref s2, .ref s3, .ref s4, .ref s5, .int (nI mm)])), (s1, .inl (g.2.1.1, 160, .inl u1)), (s2, .inl (g.2.1.1, 160, .inl u2)), (s3, .inl (g.2.1.1, 160, .inl u3)), (s4, .inl (g.2.1.1, 160, .inl u4)), (s5, .inl (g.2.1.1, 160, .inl u5))]
set_option maxHeartbeats 4000000 in
set_option maxRecDepth 100000 in
theorem c_X4_placeOf (l : Launch) (g : kG) (h : Nat) (s1 : Nat) (s2 : Nat) (s3 : Nat) (s4 : Nat) (s5 : Nat) (mm : Nat) (u1 : Nat → Int32) (u2 : Nat → Int32) (u3 : Nat → Int32) (u4 : Nat → Int32) (u5 : Nat → Int32) (x : Int32) (hm : mm ≤ 160) : KI l yX4_placeOf wsX4_placeOf rm_X4_placeOf g [.ref h, .int x] [(h, .inr (6, [.ref s1, .ref s2, .ref s3, .ref s4, .ref s5, .int (nI mm)])), (s1, .inl (g.2.1.1, 160, .inl u1)), (s2, .inl (g.2.1.1, 160, .inl u2)), (s3, .inl (g.2.1.1, 160, .inl u3)), (s4, .inl (g.2.1.1, 160, .inl u4)), (s5, .inl (g.2.1.1, 160, .inl u5))] (p_X4_placeOf g h s1 s2 s3 s4 s5 mm u1 u2 u3 u4 u5 x) := by
  refine kbodyI (cc := cX4_placeOf) (n := 4) (k := 6) (own := RX4) (plainFor_of_name (by decide)) rfl rfl rfl rfl ?_
  intro p e s m below meth cd A ls hcx
  obtain ⟨hx, hb, hRt, hml, hts, hown, hlk, hA, hP, hK, hD, hE, hS, hl⟩ := hcx
  have hl : lv_has ls 4 [(0, .ref h), (1, .int x)] := hl
  refine lv_iconst (v := 0) hx hb dX4_placeOf_0 (by decide) ?_
  refine lv_istore_n (lv' := [(2, .int 0), (0, .ref h), (1, .int x)]) hx hb dX4_placeOf_1 rfl hl (by decide) rfl (fun ls hl => ?_)
  refine lv_iconst (v := 1) hx hb dX4_placeOf_2 (by decide) ?_
  refine lv_istore_n (lv' := [(3, .int 1), (2, .int 0), (0, .ref h), (1, .int x)]) hx hb dX4_placeOf_3 rfl hl (by decide) rfl (fun ls hl => ?_)
  have L4 : ∀ (n9 : Nat) (i : Nat) (pl : Nat) (H : Heap) (locs : List Loc) (ls : Array Slot), (1 ≤ i ∧ (i ≤ mm ∨ i = 1)) → (pl = kplc u3 x i) → mm - i < n9 → va_P g.1 vwCl [(h, .inr (6, [.ref s1, .ref s2, .ref s3, .ref s4, .ref s5, .int (nI mm)])), (s1, .inl (g.2.1.1, 160, .inl u1)), (s2, .inl (g.2.1.1, 160, .inl u2)), (s3, .inl (g.2.1.1, 160, .inl u3)), (s4, .inl (g.2.1.1, 160, .inl u4)), (s5, .inl (g.2.1.1, 160, .inl u5))] H → va_D A [(h, .inr (6, [.ref s1, .ref s2, .ref s3, .ref s4, .ref s5, .int (nI mm)])), (s1, .inl (g.2.1.1, 160, .inl u1)), (s2, .inl (g.2.1.1, 160, .inl u2)), (s3, .inl (g.2.1.1, 160, .inl u3)), (s4, .inl (g.2.1.1, 160, .inl u4)), (s5, .inl (g.2.1.1, 160, .inl u5))] → va_S A s.heap H locs → lv_has ls 4 [(3, .int (nI i)), (2, .int (nI pl)), (0, .ref h), (1, .int x)] → W p l e rm_X4_placeOf s m ([.ref h, .int x] : List Value).toArray below meth cd H locs 0 0 (kQi g 6 A (p_X4_placeOf g h s1 s2 s3 s4 s5 mm u1 u2 u3 u4 u5 x) below ([.ref h, .int x] : List Value).toArray s) (F0 m 4 ls []) := by
    intro n9
    induction n9 with
    | zero => intro i pl H locs ls hi hpl h9; exact absurd h9 (Nat.not_lt_zero _)
    | succ n9 ih4 =>
      intro i pl H locs ls hi hpl hn4 hP hD hS hl
      refine lv_iload_n hx hb dX4_placeOf_4 rfl (lv_at hl 0 rfl) ?_
      refine lv_aload_n hx hb dX4_placeOf_5 rfl (lv_at hl 2 rfl) ?_
      refine va_get (D := g.1) (ci := 6) (v := .int (nI mm)) (C := RX4) (T := TX4) (N := 6) hx hb hts (by decide +kernel) hown hK hP 0 rfl rfl 5 (by decide) (hts (.fieldLink RX4 27 "LearnedIndex$Segments" "size" "I") (by decide +kernel)) (fun _ h9 => h9) rfl dX4_placeOf_6 ?_
      refine lv_icmp_ge (tgt := 32) hx hb dX4_placeOf_9 (by decide) (fun c_9 => ?_) (fun c_9 => ?_)
      · skip
        have him : mm ≤ i := kg (by omega) (by omega) c_9
        refine lv_iload_n hx hb dX4_placeOf_32 rfl (lv_at hl 1 rfl) ?_
        exact kreti hx hb hRt hlk hK hP hD hS rfl dX4_placeOf_33 (⟨by rw [hpl, kplc_exit hi him], rfl⟩)
      · skip
        have him : i < mm := kl (by omega) (by omega) c_9
        refine lv_aload_n hx hb dX4_placeOf_12 rfl (lv_at hl 2 rfl) ?_
        refine va_get (D := g.1) (ci := 6) (v := .ref s3) (C := RX4) (T := TX4) (N := 6) hx hb hts (by decide +kernel) hown hK hP 0 rfl rfl 2 (by decide) (hts (.fieldLink RX4 18 "LearnedIndex$Segments" "firstKeys" "[I") (by decide +kernel)) (fun _ h9 => h9) rfl dX4_placeOf_13 ?_
        refine lv_iload_n hx hb dX4_placeOf_16 rfl (lv_at hl 0 rfl) ?_
        refine kcalli (wc := [(s3, .inl (g.2.1.1, 160, .inl u3))]) [3] (va_runSN (As := [.ref s3, .int (nI i)]) (rest := []) ⟨hx, hb, hml, hown, hts⟩ ((c_X6_cell l g s3 160 u3 (nI i) (by decide)) _) ⟨va_cnB 2 hts gX4_placeOf_X6_cell_n57 rfl rfl rfl (hE.1 _ (List.mem_of_getElem? (i := 42) rfl)) (hts (.initialized RX6) (by decide +kernel)) (by decide +kernel) ⟨Nat.le_of_ble_eq_true rfl, Nat.le_of_ble_eq_true rfl⟩, hts (.static yX6_cell) (by decide +kernel), trivial⟩ (kpreS (wc := [(s3, .inl (g.2.1.1, 160, .inl u3))]) hK hP hD hS hA hE [3] rfl rfl) rfl rfl hl.1 rfl (lv_room (Nat.le_of_ble_eq_true rfl)) dX4_placeOf_17 ⟨Nat.zero_le _, Nat.zero_le _⟩) hP hD hS hA rfl (fun r_1 w_1 H locs hp hP hD hS => ?_)
        obtain ⟨rfl, rfl⟩ := hp
        have hP : va_P g.1 vwCl [(h, .inr (6, [.ref s1, .ref s2, .ref s3, .ref s4, .ref s5, .int (nI mm)])), (s1, .inl (g.2.1.1, 160, .inl u1)), (s2, .inl (g.2.1.1, 160, .inl u2)), (s3, .inl (g.2.1.1, 160, .inl u3)), (s4, .inl (g.2.1.1, 160, .inl u4)), (s5, .inl (g.2.1.1, 160, .inl u5))] H := hP
        have hD : va_D A [(h, .inr (6, [.ref s1, .ref s2, .ref s3, .ref s4, .ref s5, .int (nI mm)])), (s1, .inl (g.2.1.1, 160, .inl u1)), (s2, .inl (g.2.1.1, 160, .inl u2)), (s3, .inl (g.2.1.1, 160, .inl u3)), (s4, .inl (g.2.1.1, 160, .inl u4)), (s5, .inl (g.2.1.1, 160, .inl u5))] := hD
        refine lv_iload_n hx hb dX4_placeOf_20 rfl (lv_at hl 3 rfl) ?_
        have e_k := kcell_nI u3 (show 160 < 2 ^ 31 by decide) (show i < 160 by omega)
        refine lv_icmp_gt (tgt := 26) hx hb dX4_placeOf_21 (by decide) (fun c_21 => ?_) (fun c_21 => ?_)
        · skip
          rw [e_k] at c_21
          refine lv_iinc (v := nI (i + 1)) (lv' := [(3, .int (nI (i + 1))), (2, .int (nI pl)), (0, .ref h), (1, .int x)]) hx hb dX4_placeOf_26 hl (k := 0) rfl (nI_1 i) (by decide) rfl (fun ls hl => ?_)
          refine lv_goto (tgt := 4) hx hb dX4_placeOf_29 (by decide) ?_
          exact ih4 (i + 1) pl _ _ ls (⟨by omega, Or.inl (by omega)⟩) (by rw [hpl, kplc, if_neg (by omega), if_neg (Int32.not_le.mpr c_21)]) (by omega) hP hD hS (lv_sub hl [0, 1, 2, 3] rfl)
        · skip
          rw [e_k] at c_21
          refine lv_iload_n hx hb dX4_placeOf_24 rfl (lv_at hl 0 rfl) ?_
          refine lv_istore_n (lv' := [(2, .int (nI i)), (3, .int (nI i)), (0, .ref h), (1, .int x)]) hx hb dX4_placeOf_25 rfl hl (by decide) rfl (fun ls hl => ?_)
          refine lv_iinc (v := nI (i + 1)) (lv' := [(3, .int (nI (i + 1))), (2, .int (nI i)), (0, .ref h), (1, .int x)]) hx hb dX4_placeOf_26 hl (k := 1) rfl (nI_1 i) (by decide) rfl (fun ls hl => ?_)
          refine lv_goto (tgt := 4) hx hb dX4_placeOf_29 (by decide) ?_
          exact ih4 (i + 1) i _ _ ls (⟨by omega, Or.inl (by omega)⟩) (by rw [kplc, if_neg (by omega), if_pos (Int32.not_lt.mp c_21)]) (by omega) hP hD hS (lv_sub hl [0, 1, 2, 3] rfl)
  exact L4 _ 1 0 _ _ ls (⟨by omega, Or.inr rfl⟩) rfl (Nat.lt_succ_self _) hP hD hS (lv_sub hl [0, 1, 2, 3] rfl)
set_option maxRecDepth 20000 in
theorem ggX5_tally_X6_cell : GoodIn wsX5_tally wsX6_cell := goodIn_ca (goodIn_r _ [4] (by decide +kernel) (by decide +kernel)) (goodIn_sub (fun _ h => List.mem_cons_of_mem _ (List.mem_append_right _ h)) (by decide +kernel))
set_option maxRecDepth 20000 in
theorem gX5_tally_X6_cell_n35 : GoodIn wsX5_tally (wsX6_cell) := ggX5_tally_X6_cell
set_option maxRecDepth 20000 in
theorem ggX5_tally_X6_store : GoodIn wsX5_tally wsX6_store := goodIn_ca (goodIn_r _ [6] (by decide +kernel) (by decide +kernel)) (goodIn_sub (fun _ h => List.mem_cons_of_mem _ (List.mem_append_right _ h)) (by decide +kernel))
set_option maxRecDepth 20000 in
theorem gX5_tally_X6_store_n39 : GoodIn wsX5_tally (wsX6_store) := ggX5_tally_X6_store
theorem dX5_tally_0 : decode cX5_tally 0 = .ok (.aload_n 0, 1) := by decide +kernel
theorem dX5_tally_1 : decode cX5_tally 1 = .ok (.getfield 25, 3) := by decide +kernel
theorem dX5_tally_4 : decode cX5_tally 4 = .ok (.iload_n 1, 1) := by decide +kernel
theorem dX5_tally_5 : decode cX5_tally 5 = .ok (.aload_n 0, 1) := by decide +kernel
theorem dX5_tally_6 : decode cX5_tally 6 = .ok (.getfield 25, 3) := by decide +kernel
theorem dX5_tally_9 : decode cX5_tally 9 = .ok (.iload_n 1, 1) := by decide +kernel
theorem dX5_tally_10 : decode cX5_tally 10 = .ok (.invokestatic 35, 3) := by decide +kernel
theorem dX5_tally_13 : decode cX5_tally 13 = .ok (.iload_n 2, 1) := by decide +kernel
theorem dX5_tally_14 : decode cX5_tally 14 = .ok (.iadd, 1) := by decide +kernel
theorem dX5_tally_15 : decode cX5_tally 15 = .ok (.invokestatic 39, 3) := by decide +kernel
theorem dX5_tally_18 : decode cX5_tally 18 = .ok (.return_, 1) := by decide +kernel
def rm_X5_tally : Room := { frames := 1, cells := 0, slots := 0, locals := 22 }
abbrev p_X5_tally (g : kG) (h : Nat) (t1 : Nat) (t2 : Nat) (t3 : Nat) (t4 : Nat) (u : Nat → Int32) (i : Int32) (x : Int32) : va_W → Prop := fun w1 => w1 = [(h, .inr (7, [.ref t1, .ref t2, .ref t3, .ref t4])), (t4, .inl (g.2.1.1, 5, .inl (kstore 5 u i (kcell 5 u i + x))))]
set_option maxHeartbeats 4000000 in
set_option maxRecDepth 100000 in
theorem c_X5_tally (l : Launch) (g : kG) (h : Nat) (t1 : Nat) (t2 : Nat) (t3 : Nat) (t4 : Nat) (u : Nat → Int32) (i : Int32) (x : Int32) : KV l yX5_tally wsX5_tally rm_X5_tally g [.ref h, .int i, .int x] [(h, .inr (7, [.ref t1, .ref t2, .ref t3, .ref t4])), (t4, .inl (g.2.1.1, 5, .inl u))] (p_X5_tally g h t1 t2 t3 t4 u i x) := by
  refine kbodyV (cc := cX5_tally) (n := 3) (k := 2) (own := RX5) (plainFor_of_name (by decide)) rfl rfl rfl rfl ?_
  intro p e s m below meth cd A ls hcx
  obtain ⟨hx, hb, hRt, hml, hts, hown, hlk, hA, hP, hK, hD, hE, hS, hl⟩ := hcx
  have hl : lv_has ls 3 [(0, .ref h), (1, .int i), (2, .int x)] := hl
  refine lv_aload_n hx hb dX5_tally_0 rfl (lv_at hl 0 rfl) ?_
  refine va_get (D := g.1) (ci := 7) (v := .ref t4) (C := RX5) (T := TX5) (N := 4) hx hb hts (by decide +kernel) hown hK hP 0 rfl rfl 3 (by decide) (hts (.fieldLink RX5 25 "LearnedIndex$State" "tallies" "[I") (by decide +kernel)) (fun _ h9 => h9) rfl dX5_tally_1 ?_
  refine lv_iload_n hx hb dX5_tally_4 rfl (lv_at hl 1 rfl) ?_
  refine lv_aload_n hx hb dX5_tally_5 rfl (lv_at hl 0 rfl) ?_
  refine va_get (D := g.1) (ci := 7) (v := .ref t4) (C := RX5) (T := TX5) (N := 4) hx hb hts (by decide +kernel) hown hK hP 0 rfl rfl 3 (by decide) (hts (.fieldLink RX5 25 "LearnedIndex$State" "tallies" "[I") (by decide +kernel)) (fun _ h9 => h9) rfl dX5_tally_6 ?_
  refine lv_iload_n hx hb dX5_tally_9 rfl (lv_at hl 1 rfl) ?_
  refine kcalli (wc := [(t4, .inl (g.2.1.1, 5, .inl u))]) [1] (va_runSN (As := [.ref t4, .int i]) (rest := [.int i, .ref t4]) ⟨hx, hb, hml, hown, hts⟩ ((c_X6_cell l g t4 5 u i (by decide)) _) ⟨va_cnB 2 hts gX5_tally_X6_cell_n35 rfl rfl rfl (hE.1 _ (List.mem_of_getElem? (i := 45) rfl)) (hts (.initialized RX6) (by decide +kernel)) (by decide +kernel) ⟨Nat.le_of_ble_eq_true rfl, Nat.le_of_ble_eq_true rfl⟩, hts (.static yX6_cell) (by decide +kernel), trivial⟩ (kpreS (wc := [(t4, .inl (g.2.1.1, 5, .inl u))]) hK hP hD hS hA hE [1] rfl rfl) rfl rfl hl.1 rfl (lv_room (Nat.le_of_ble_eq_true rfl)) dX5_tally_10 ⟨Nat.zero_le _, Nat.zero_le _⟩) hP hD hS hA rfl (fun r_1 w_1 H locs hp hP hD hS => ?_)
  obtain ⟨rfl, rfl⟩ := hp
  have hP : va_P g.1 vwCl [(h, .inr (7, [.ref t1, .ref t2, .ref t3, .ref t4])), (t4, .inl (g.2.1.1, 5, .inl u))] H := hP
  have hD : va_D A [(h, .inr (7, [.ref t1, .ref t2, .ref t3, .ref t4])), (t4, .inl (g.2.1.1, 5, .inl u))] := hD
  refine lv_iload_n hx hb dX5_tally_13 rfl (lv_at hl 2 rfl) ?_
  refine lv_iadd hx hb dX5_tally_14 ?_
  refine kcallv (wc := [(t4, .inl (g.2.1.1, 5, .inl u))]) [1] (va_runSN (As := [.ref t4, .int i, .int ((kcell 5 u i) + x)]) (rest := []) ⟨hx, hb, hml, hown, hts⟩ ((c_X6_store l g t4 5 u i ((kcell 5 u i) + x) (by decide)) _) ⟨va_cnB 3 hts gX5_tally_X6_store_n39 rfl rfl rfl (hE.1 _ (List.mem_of_getElem? (i := 46) rfl)) (hts (.initialized RX6) (by decide +kernel)) (by decide +kernel) ⟨Nat.le_of_ble_eq_true rfl, Nat.le_of_ble_eq_true rfl⟩, hts (.static yX6_store) (by decide +kernel), trivial⟩ (kpreS (wc := [(t4, .inl (g.2.1.1, 5, .inl u))]) hK hP hD hS hA hE [1] rfl rfl) rfl rfl hl.1 rfl (lv_room (Nat.le_of_ble_eq_true rfl)) dX5_tally_15 ⟨Nat.zero_le _, Nat.zero_le _⟩) hP hD hS hA rfl (fun w_2 H locs hp hP hD hS => ?_)
  obtain rfl := hp
  have hP : va_P g.1 vwCl [(h, .inr (7, [.ref t1, .ref t2, .ref t3, .ref t4])), (t4, .inl (g.2.1.1, 5, .inl (kstore 5 u i ((kcell 5 u i) + x))))] H := hP
  have hD : va_D A [(h, .inr (7, [.ref t1, .ref t2, .ref t3, .ref t4])), (t4, .inl (g.2.1.1, 5, .inl (kstore 5 u i ((kcell 5 u i) + x))))] := hD
  exact kretv hx hb hRt hlk hK hP hD hS rfl dX5_tally_18 (rfl)
set_option maxRecDepth 20000 in
theorem ggX5_become_X0_become : GoodIn wsX5_become wsX0_become := goodIn_ca (goodIn_r _ [9, 10, 11, 12, 13, 14, 15, 16, 17, 18, 19, 20, 21, 22, 27, 28, 29, 30] (by decide +kernel) (by decide +kernel)) (goodIn_sub (fun _ h => List.mem_cons_of_mem _ (List.mem_append_right _ h)) (by decide +kernel))
set_option maxRecDepth 20000 in
theorem gX5_become_X0_become : GoodIn wsX5_become (wsV RX5 43 RX0 yX0_become wsX0_become) := goodIn_app (goodIn_of _ (by decide +kernel)) ggX5_become_X0_become
set_option maxRecDepth 20000 in
theorem ggX5_become_X6_copyRow : GoodIn wsX5_become wsX6_copyRow := goodIn_ca (goodIn_r _ [16, 17, 18, 15, 19, 20, 21, 22] (by decide +kernel) (by decide +kernel)) (goodIn_sub (fun _ h => List.mem_cons_of_mem _ (List.mem_append_right _ h)) (by decide +kernel))
set_option maxRecDepth 20000 in
theorem gX5_become_X6_copyRow_n31 : GoodIn wsX5_become (wsX6_copyRow) := ggX5_become_X6_copyRow
theorem dX5_become_0 : decode cX5_become 0 = .ok (.aload_n 0, 1) := by decide +kernel
theorem dX5_become_1 : decode cX5_become 1 = .ok (.getfield 12, 3) := by decide +kernel
theorem dX5_become_4 : decode cX5_become 4 = .ok (.aload_n 1, 1) := by decide +kernel
theorem dX5_become_5 : decode cX5_become 5 = .ok (.getfield 12, 3) := by decide +kernel
theorem dX5_become_8 : decode cX5_become 8 = .ok (.invokevirtual 43, 3) := by decide +kernel
theorem dX5_become_11 : decode cX5_become 11 = .ok (.aload_n 0, 1) := by decide +kernel
theorem dX5_become_12 : decode cX5_become 12 = .ok (.getfield 18, 3) := by decide +kernel
theorem dX5_become_15 : decode cX5_become 15 = .ok (.aload_n 1, 1) := by decide +kernel
theorem dX5_become_16 : decode cX5_become 16 = .ok (.getfield 18, 3) := by decide +kernel
theorem dX5_become_19 : decode cX5_become 19 = .ok (.invokevirtual 43, 3) := by decide +kernel
theorem dX5_become_22 : decode cX5_become 22 = .ok (.aload_n 1, 1) := by decide +kernel
theorem dX5_become_23 : decode cX5_become 23 = .ok (.getfield 21, 3) := by decide +kernel
theorem dX5_become_26 : decode cX5_become 26 = .ok (.aload_n 0, 1) := by decide +kernel
theorem dX5_become_27 : decode cX5_become 27 = .ok (.getfield 21, 3) := by decide +kernel
theorem dX5_become_30 : decode cX5_become 30 = .ok (.iconst 4, 1) := by decide +kernel
theorem dX5_become_31 : decode cX5_become 31 = .ok (.invokestatic 31, 3) := by decide +kernel
theorem dX5_become_34 : decode cX5_become 34 = .ok (.aload_n 1, 1) := by decide +kernel
theorem dX5_become_35 : decode cX5_become 35 = .ok (.getfield 25, 3) := by decide +kernel
theorem dX5_become_38 : decode cX5_become 38 = .ok (.aload_n 0, 1) := by decide +kernel
theorem dX5_become_39 : decode cX5_become 39 = .ok (.getfield 25, 3) := by decide +kernel
theorem dX5_become_42 : decode cX5_become 42 = .ok (.iconst 5, 1) := by decide +kernel
theorem dX5_become_43 : decode cX5_become 43 = .ok (.invokestatic 31, 3) := by decide +kernel
theorem dX5_become_46 : decode cX5_become 46 = .ok (.return_, 1) := by decide +kernel
def rm_X5_become : Room := { frames := 3, cells := 0, slots := 0, locals := 66 }
abbrev p_X5_become (g : kG) (y : Nat) (ym : Nat) (ymk : Nat) (ymv : Nat) (ymr : Nat) (yc : Nat) (yck : Nat) (ycv : Nat) (ycr : Nat) (ys : Nat) (yt : Nat) (yn : Nat) (yfk : Nat → Int32) (yfv : Nat → Int32) (yfr : Nat → Int32) (ync : Nat) (ygk : Nat → Int32) (ygv : Nat → Int32) (ygr : Nat → Int32) (yfs : Nat → Int32) (yft : Nat → Int32) (z : Nat) (zm : Nat) (zmk : Nat) (zmv : Nat) (zmr : Nat) (zc : Nat) (zck : Nat) (zcv : Nat) (zcr : Nat) (zs : Nat) (zt : Nat) (zn : Nat) (zfk : Nat → Int32) (zfv : Nat → Int32) (zfr : Nat → Int32) (znc : Nat) (zgk : Nat → Int32) (zgv : Nat → Int32) (zgr : Nat → Int32) (zfs : Nat → Int32) (zft : Nat → Int32) : va_W → Prop := fun w1 => w1 = [(y, .inr (7, [.ref ym, .ref yc, .ref ys, .ref yt])), (ym, .inr (2, [.ref ymk, .ref ymv, .ref ymr, .int (nI zn)])), (ymk, .inl (g.2.1.1, 160, .inl (kcpy zfk yfk zn))), (ymv, .inl (g.2.1.1, 160, .inl (kcpy zfv yfv zn))), (ymr, .inl (g.2.1.1, 160, .inl (kcpy zfr yfr zn))), (yc, .inr (2, [.ref yck, .ref ycv, .ref ycr, .int (nI znc)])), (yck, .inl (g.2.1.1, 160, .inl (kcpy zgk ygk znc))), (ycv, .inl (g.2.1.1, 160, .inl (kcpy zgv ygv znc))), (ycr, .inl (g.2.1.1, 160, .inl (kcpy zgr ygr znc))), (ys, .inl (g.2.1.1, 4, .inl (kcpy zfs yfs 4))), (yt, .inl (g.2.1.1, 5, .inl (kcpy zft yft 5))), (z, .inr (7, [.ref zm, .ref zc, .ref zs, .ref zt])), (zm, .inr (2, [.ref zmk, .ref zmv, .ref zmr, .int (nI zn)])), (zmk, .inl (g.2.1.1, 160, .inl zfk)), (zmv, .inl (g.2.1.1, 160, .inl zfv)), (zmr, .inl (g.2.1.1, 160, .inl zfr)), (zc, .inr (2, [.ref zck, .ref zcv, .ref zcr, .int (nI znc)])), (zck, .inl (g.2.1.1, 160, .inl zgk)), (zcv, .inl (g.2.1.1, 160, .inl zgv)), (zcr, .inl (g.2.1.1, 160, .inl zgr)), (zs, .inl (g.2.1.1, 4, .inl zfs)), (zt, .inl (g.2.1.1, 5, .inl zft))]
set_option maxHeartbeats 4000000 in
set_option maxRecDepth 100000 in
theorem c_X5_become (l : Launch) (g : kG) (y : Nat) (ym : Nat) (ymk : Nat) (ymv : Nat) (ymr : Nat) (yc : Nat) (yck : Nat) (ycv : Nat) (ycr : Nat) (ys : Nat) (yt : Nat) (yn : Nat) (yfk : Nat → Int32) (yfv : Nat → Int32) (yfr : Nat → Int32) (ync : Nat) (ygk : Nat → Int32) (ygv : Nat → Int32) (ygr : Nat → Int32) (yfs : Nat → Int32) (yft : Nat → Int32) (z : Nat) (zm : Nat) (zmk : Nat) (zmv : Nat) (zmr : Nat) (zc : Nat) (zck : Nat) (zcv : Nat) (zcr : Nat) (zs : Nat) (zt : Nat) (zn : Nat) (zfk : Nat → Int32) (zfv : Nat → Int32) (zfr : Nat → Int32) (znc : Nat) (zgk : Nat → Int32) (zgv : Nat → Int32) (zgr : Nat → Int32) (zfs : Nat → Int32) (zft : Nat → Int32) (hn1 : zn ≤ 160) (hn2 : znc ≤ 160) : KV l yX5_become wsX5_become rm_X5_become g [.ref y, .ref z] [(y, .inr (7, [.ref ym, .ref yc, .ref ys, .ref yt])), (ym, .inr (2, [.ref ymk, .ref ymv, .ref ymr, .int (nI yn)])), (ymk, .inl (g.2.1.1, 160, .inl yfk)), (ymv, .inl (g.2.1.1, 160, .inl yfv)), (ymr, .inl (g.2.1.1, 160, .inl yfr)), (yc, .inr (2, [.ref yck, .ref ycv, .ref ycr, .int (nI ync)])), (yck, .inl (g.2.1.1, 160, .inl ygk)), (ycv, .inl (g.2.1.1, 160, .inl ygv)), (ycr, .inl (g.2.1.1, 160, .inl ygr)), (ys, .inl (g.2.1.1, 4, .inl yfs)), (yt, .inl (g.2.1.1, 5, .inl yft)), (z, .inr (7, [.ref zm, .ref zc, .ref zs, .ref zt])), (zm, .inr (2, [.ref zmk, .ref zmv, .ref zmr, .int (nI zn)])), (zmk, .inl (g.2.1.1, 160, .inl zfk)), (zmv, .inl (g.2.1.1, 160, .inl zfv)), (zmr, .inl (g.2.1.1, 160, .inl zfr)), (zc, .inr (2, [.ref zck, .ref zcv, .ref zcr, .int (nI znc)])), (zck, .inl (g.2.1.1, 160, .inl zgk)), (zcv, .inl (g.2.1.1, 160, .inl zgv)), (zcr, .inl (g.2.1.1, 160, .inl zgr)), (zs, .inl (g.2.1.1, 4, .inl zfs)), (zt, .inl (g.2.1.1, 5, .inl zft))] (p_X5_become g y ym ymk ymv ymr yc yck ycv ycr ys yt yn yfk yfv yfr ync ygk ygv ygr yfs yft z zm zmk zmv zmr zc zck zcv zcr zs zt zn zfk zfv zfr znc zgk zgv zgr zfs zft) := by
  refine kbodyV (cc := cX5_become) (n := 2) (k := 22) (own := RX5) (plainFor_of_name (by decide)) rfl rfl rfl rfl ?_
  intro p e s m below meth cd A ls hcx
  obtain ⟨hx, hb, hRt, hml, hts, hown, hlk, hA, hP, hK, hD, hE, hS, hl⟩ := hcx
  have hl : lv_has ls 2 [(0, .ref y), (1, .ref z)] := hl
  refine lv_aload_n hx hb dX5_become_0 rfl (lv_at hl 0 rfl) ?_
  refine va_get (D := g.1) (ci := 7) (v := .ref ym) (C := RX5) (T := TX5) (N := 4) hx hb hts (by decide +kernel) hown hK hP 0 rfl rfl 0 (by decide) (hts (.fieldLink RX5 12 "LearnedIndex$State" "main" "LLearnedIndex$Entries;") (by decide +kernel)) (fun _ h9 => h9) rfl dX5_become_1 ?_
  refine lv_aload_n hx hb dX5_become_4 rfl (lv_at hl 1 rfl) ?_
  refine va_get (D := g.1) (ci := 7) (v := .ref zm) (C := RX5) (T := TX5) (N := 4) hx hb hts (by decide +kernel) hown hK hP 11 rfl rfl 0 (by decide) (hts (.fieldLink RX5 12 "LearnedIndex$State" "main" "LLearnedIndex$Entries;") (by decide +kernel)) (fun _ h9 => h9) rfl dX5_become_5 ?_
  refine kcallv (wc := [(ym, .inr (2, [.ref ymk, .ref ymv, .ref ymr, .int (nI yn)])), (ymk, .inl (g.2.1.1, 160, .inl yfk)), (ymv, .inl (g.2.1.1, 160, .inl yfv)), (ymr, .inl (g.2.1.1, 160, .inl yfr)), (zm, .inr (2, [.ref zmk, .ref zmv, .ref zmr, .int (nI zn)])), (zmk, .inl (g.2.1.1, 160, .inl zfk)), (zmv, .inl (g.2.1.1, 160, .inl zfv)), (zmr, .inl (g.2.1.1, 160, .inl zfr))]) [1, 2, 3, 4, 12, 13, 14, 15] (va_runV (C := RX0) (As := [.ref zm]) (rest := []) ⟨hx, hb, hml, hown, hts⟩ ((c_X0_become l g ym ymk ymv ymr yn yfk yfv yfr zm zmk zmv zmr zn zfk zfv zfr hn1) _) (cwV 1 hts gX5_become_X0_become rfl rfl rfl (by decide +kernel) ⟨Nat.le_of_ble_eq_true rfl, Nat.le_of_ble_eq_true rfl⟩) (kpreV (wc := [(ym, .inr (2, [.ref ymk, .ref ymv, .ref ymr, .int (nI yn)])), (ymk, .inl (g.2.1.1, 160, .inl yfk)), (ymv, .inl (g.2.1.1, 160, .inl yfv)), (ymr, .inl (g.2.1.1, 160, .inl yfr)), (zm, .inr (2, [.ref zmk, .ref zmv, .ref zmr, .int (nI zn)])), (zmk, .inl (g.2.1.1, 160, .inl zfk)), (zmv, .inl (g.2.1.1, 160, .inl zfv)), (zmr, .inl (g.2.1.1, 160, .inl zfr))]) (ci := 2) hK hP hD hS hA hE [1, 2, 3, 4, 12, 13, 14, 15] rfl rfl rfl rfl) rfl rfl hl.1 rfl (lv_room (Nat.le_of_ble_eq_true rfl)) dX5_become_8 ⟨Nat.zero_le _, Nat.zero_le _⟩) hP hD hS hA rfl (fun w_1 H locs hp hP hD hS => ?_)
  obtain rfl := hp
  have hP : va_P g.1 vwCl [(y, .inr (7, [.ref ym, .ref yc, .ref ys, .ref yt])), (ym, .inr (2, [.ref ymk, .ref ymv, .ref ymr, .int (nI zn)])), (ymk, .inl (g.2.1.1, 160, .inl (kcpy zfk yfk zn))), (ymv, .inl (g.2.1.1, 160, .inl (kcpy zfv yfv zn))), (ymr, .inl (g.2.1.1, 160, .inl (kcpy zfr yfr zn))), (yc, .inr (2, [.ref yck, .ref ycv, .ref ycr, .int (nI ync)])), (yck, .inl (g.2.1.1, 160, .inl ygk)), (ycv, .inl (g.2.1.1, 160, .inl ygv)), (ycr, .inl (g.2.1.1, 160, .inl ygr)), (ys, .inl (g.2.1.1, 4, .inl yfs)), (yt, .inl (g.2.1.1, 5, .inl yft)), (z, .inr (7, [.ref zm, .ref zc, .ref zs, .ref zt])), (zm, .inr (2, [.ref zmk, .ref zmv, .ref zmr, .int (nI zn)])), (zmk, .inl (g.2.1.1, 160, .inl zfk)), (zmv, .inl (g.2.1.1, 160, .inl zfv)), (zmr, .inl (g.2.1.1, 160, .inl zfr)), (zc, .inr (2, [.ref zck, .ref zcv, .ref zcr, .int (nI znc)])), (zck, .inl (g.2.1.1, 160, .inl zgk)), (zcv, .inl (g.2.1.1, 160, .inl zgv)), (zcr, .inl (g.2.1.1, 160, .inl zgr)), (zs, .inl (g.2.1.1, 4, .inl zfs)), (zt, .inl (g.2.1.1, 5, .inl zft))] H := hP
  have hD : va_D A [(y, .inr (7, [.ref ym, .ref yc, .ref ys, .ref yt])), (ym, .inr (2, [.ref ymk, .ref ymv, .ref ymr, .int (nI zn)])), (ymk, .inl (g.2.1.1, 160, .inl (kcpy zfk yfk zn))), (ymv, .inl (g.2.1.1, 160, .inl (kcpy zfv yfv zn))), (ymr, .inl (g.2.1.1, 160, .inl (kcpy zfr yfr zn))), (yc, .inr (2, [.ref yck, .ref ycv, .ref ycr, .int (nI ync)])), (yck, .inl (g.2.1.1, 160, .inl ygk)), (ycv, .inl (g.2.1.1, 160, .inl ygv)), (ycr, .inl (g.2.1.1, 160, .inl ygr)), (ys, .inl (g.2.1.1, 4, .inl yfs)), (yt, .inl (g.2.1.1, 5, .inl yft)), (z, .inr (7, [.ref zm, .ref zc, .ref zs, .ref zt])), (zm, .inr (2, [.ref zmk, .ref zmv, .ref zmr, .int (nI zn)])), (zmk, .inl (g.2.1.1, 160, .inl zfk)), (zmv, .inl (g.2.1.1, 160, .inl zfv)), (zmr, .inl (g.2.1.1, 160, .inl zfr)), (zc, .inr (2, [.ref zck, .ref zcv, .ref zcr, .int (nI znc)])), (zck, .inl (g.2.1.1, 160, .inl zgk)), (zcv, .inl (g.2.1.1, 160, .inl zgv)), (zcr, .inl (g.2.1.1, 160, .inl zgr)), (zs, .inl (g.2.1.1, 4, .inl zfs)), (zt, .inl (g.2.1.1, 5, .inl zft))] := hD
  refine lv_aload_n hx hb dX5_become_11 rfl (lv_at hl 0 rfl) ?_
  refine va_get (D := g.1) (ci := 7) (v := .ref yc) (C := RX5) (T := TX5) (N := 4) hx hb hts (by decide +kernel) hown hK hP 0 rfl rfl 1 (by decide) (hts (.fieldLink RX5 18 "LearnedIndex$State" "changes" "LLearnedIndex$Entries;") (by decide +kernel)) (fun _ h9 => h9) rfl dX5_become_12 ?_
  refine lv_aload_n hx hb dX5_become_15 rfl (lv_at hl 1 rfl) ?_
  refine va_get (D := g.1) (ci := 7) (v := .ref zc) (C := RX5) (T := TX5) (N := 4) hx hb hts (by decide +kernel) hown hK hP 11 rfl rfl 1 (by decide) (hts (.fieldLink RX5 18 "LearnedIndex$State" "changes" "LLearnedIndex$Entries;") (by decide +kernel)) (fun _ h9 => h9) rfl dX5_become_16 ?_
  refine kcallv (wc := [(yc, .inr (2, [.ref yck, .ref ycv, .ref ycr, .int (nI ync)])), (yck, .inl (g.2.1.1, 160, .inl ygk)), (ycv, .inl (g.2.1.1, 160, .inl ygv)), (ycr, .inl (g.2.1.1, 160, .inl ygr)), (zc, .inr (2, [.ref zck, .ref zcv, .ref zcr, .int (nI znc)])), (zck, .inl (g.2.1.1, 160, .inl zgk)), (zcv, .inl (g.2.1.1, 160, .inl zgv)), (zcr, .inl (g.2.1.1, 160, .inl zgr))]) [5, 6, 7, 8, 16, 17, 18, 19] (va_runV (C := RX0) (As := [.ref zc]) (rest := []) ⟨hx, hb, hml, hown, hts⟩ ((c_X0_become l g yc yck ycv ycr ync ygk ygv ygr zc zck zcv zcr znc zgk zgv zgr hn2) _) (cwV 1 hts gX5_become_X0_become rfl rfl rfl (by decide +kernel) ⟨Nat.le_of_ble_eq_true rfl, Nat.le_of_ble_eq_true rfl⟩) (kpreV (wc := [(yc, .inr (2, [.ref yck, .ref ycv, .ref ycr, .int (nI ync)])), (yck, .inl (g.2.1.1, 160, .inl ygk)), (ycv, .inl (g.2.1.1, 160, .inl ygv)), (ycr, .inl (g.2.1.1, 160, .inl ygr)), (zc, .inr (2, [.ref zck, .ref zcv, .ref zcr, .int (nI znc)])), (zck, .inl (g.2.1.1, 160, .inl zgk)), (zcv, .inl (g.2.1.1, 160, .inl zgv)), (zcr, .inl (g.2.1.1, 160, .inl zgr))]) (ci := 2) hK hP hD hS hA hE [5, 6, 7, 8, 16, 17, 18, 19] rfl rfl rfl rfl) rfl rfl hl.1 rfl (lv_room (Nat.le_of_ble_eq_true rfl)) dX5_become_19 ⟨Nat.zero_le _, Nat.zero_le _⟩) hP hD hS hA rfl (fun w_2 H locs hp hP hD hS => ?_)
  obtain rfl := hp
  have hP : va_P g.1 vwCl [(y, .inr (7, [.ref ym, .ref yc, .ref ys, .ref yt])), (ym, .inr (2, [.ref ymk, .ref ymv, .ref ymr, .int (nI zn)])), (ymk, .inl (g.2.1.1, 160, .inl (kcpy zfk yfk zn))), (ymv, .inl (g.2.1.1, 160, .inl (kcpy zfv yfv zn))), (ymr, .inl (g.2.1.1, 160, .inl (kcpy zfr yfr zn))), (yc, .inr (2, [.ref yck, .ref ycv, .ref ycr, .int (nI znc)])), (yck, .inl (g.2.1.1, 160, .inl (kcpy zgk ygk znc))), (ycv, .inl (g.2.1.1, 160, .inl (kcpy zgv ygv znc))), (ycr, .inl (g.2.1.1, 160, .inl (kcpy zgr ygr znc))), (ys, .inl (g.2.1.1, 4, .inl yfs)), (yt, .inl (g.2.1.1, 5, .inl yft)), (z, .inr (7, [.ref zm, .ref zc, .ref zs, .ref zt])), (zm, .inr (2, [.ref zmk, .ref zmv, .ref zmr, .int (nI zn)])), (zmk, .inl (g.2.1.1, 160, .inl zfk)), (zmv, .inl (g.2.1.1, 160, .inl zfv)), (zmr, .inl (g.2.1.1, 160, .inl zfr)), (zc, .inr (2, [.ref zck, .ref zcv, .ref zcr, .int (nI znc)])), (zck, .inl (g.2.1.1, 160, .inl zgk)), (zcv, .inl (g.2.1.1, 160, .inl zgv)), (zcr, .inl (g.2.1.1, 160, .inl zgr)), (zs, .inl (g.2.1.1, 4, .inl zfs)), (zt, .inl (g.2.1.1, 5, .inl zft))] H := hP
  have hD : va_D A [(y, .inr (7, [.ref ym, .ref yc, .ref ys, .ref yt])), (ym, .inr (2, [.ref ymk, .ref ymv, .ref ymr, .int (nI zn)])), (ymk, .inl (g.2.1.1, 160, .inl (kcpy zfk yfk zn))), (ymv, .inl (g.2.1.1, 160, .inl (kcpy zfv yfv zn))), (ymr, .inl (g.2.1.1, 160, .inl (kcpy zfr yfr zn))), (yc, .inr (2, [.ref yck, .ref ycv, .ref ycr, .int (nI znc)])), (yck, .inl (g.2.1.1, 160, .inl (kcpy zgk ygk znc))), (ycv, .inl (g.2.1.1, 160, .inl (kcpy zgv ygv znc))), (ycr, .inl (g.2.1.1, 160, .inl (kcpy zgr ygr znc))), (ys, .inl (g.2.1.1, 4, .inl yfs)), (yt, .inl (g.2.1.1, 5, .inl yft)), (z, .inr (7, [.ref zm, .ref zc, .ref zs, .ref zt])), (zm, .inr (2, [.ref zmk, .ref zmv, .ref zmr, .int (nI zn)])), (zmk, .inl (g.2.1.1, 160, .inl zfk)), (zmv, .inl (g.2.1.1, 160, .inl zfv)), (zmr, .inl (g.2.1.1, 160, .inl zfr)), (zc, .inr (2, [.ref zck, .ref zcv, .ref zcr, .int (nI znc)])), (zck, .inl (g.2.1.1, 160, .inl zgk)), (zcv, .inl (g.2.1.1, 160, .inl zgv)), (zcr, .inl (g.2.1.1, 160, .inl zgr)), (zs, .inl (g.2.1.1, 4, .inl zfs)), (zt, .inl (g.2.1.1, 5, .inl zft))] := hD
  refine lv_aload_n hx hb dX5_become_22 rfl (lv_at hl 1 rfl) ?_
  refine va_get (D := g.1) (ci := 7) (v := .ref zs) (C := RX5) (T := TX5) (N := 4) hx hb hts (by decide +kernel) hown hK hP 11 rfl rfl 2 (by decide) (hts (.fieldLink RX5 21 "LearnedIndex$State" "settings" "[I") (by decide +kernel)) (fun _ h9 => h9) rfl dX5_become_23 ?_
  refine lv_aload_n hx hb dX5_become_26 rfl (lv_at hl 0 rfl) ?_
  refine va_get (D := g.1) (ci := 7) (v := .ref ys) (C := RX5) (T := TX5) (N := 4) hx hb hts (by decide +kernel) hown hK hP 0 rfl rfl 2 (by decide) (hts (.fieldLink RX5 21 "LearnedIndex$State" "settings" "[I") (by decide +kernel)) (fun _ h9 => h9) rfl dX5_become_27 ?_
  refine lv_iconst (v := 4) hx hb dX5_become_30 (by decide) ?_
  refine kcallv (wc := [(zs, .inl (g.2.1.1, 4, .inl zfs)), (ys, .inl (g.2.1.1, 4, .inl yfs))]) [20, 9] (va_runSN (As := [.ref zs, .ref ys, .int 4]) (rest := []) ⟨hx, hb, hml, hown, hts⟩ ((c_X6_copyRow l g zs ys 4 zfs 4 yfs 4 (by decide) (by decide) (by decide) (by decide)) _) ⟨va_cnB 3 hts gX5_become_X6_copyRow_n31 rfl rfl rfl (hE.1 _ (List.mem_of_getElem? (i := 44) rfl)) (hts (.initialized RX6) (by decide +kernel)) (by decide +kernel) ⟨Nat.le_of_ble_eq_true rfl, Nat.le_of_ble_eq_true rfl⟩, hts (.static yX6_copyRow) (by decide +kernel), trivial⟩ (kpreS (wc := [(zs, .inl (g.2.1.1, 4, .inl zfs)), (ys, .inl (g.2.1.1, 4, .inl yfs))]) hK hP hD hS hA hE [20, 9] rfl rfl) rfl rfl hl.1 rfl (lv_room (Nat.le_of_ble_eq_true rfl)) dX5_become_31 ⟨Nat.zero_le _, Nat.zero_le _⟩) hP hD hS hA rfl (fun w_3 H locs hp hP hD hS => ?_)
  obtain rfl := hp
  have hP : va_P g.1 vwCl [(y, .inr (7, [.ref ym, .ref yc, .ref ys, .ref yt])), (ym, .inr (2, [.ref ymk, .ref ymv, .ref ymr, .int (nI zn)])), (ymk, .inl (g.2.1.1, 160, .inl (kcpy zfk yfk zn))), (ymv, .inl (g.2.1.1, 160, .inl (kcpy zfv yfv zn))), (ymr, .inl (g.2.1.1, 160, .inl (kcpy zfr yfr zn))), (yc, .inr (2, [.ref yck, .ref ycv, .ref ycr, .int (nI znc)])), (yck, .inl (g.2.1.1, 160, .inl (kcpy zgk ygk znc))), (ycv, .inl (g.2.1.1, 160, .inl (kcpy zgv ygv znc))), (ycr, .inl (g.2.1.1, 160, .inl (kcpy zgr ygr znc))), (ys, .inl (g.2.1.1, 4, .inl (kcpy zfs yfs 4))), (yt, .inl (g.2.1.1, 5, .inl yft)), (z, .inr (7, [.ref zm, .ref zc, .ref zs, .ref zt])), (zm, .inr (2, [.ref zmk, .ref zmv, .ref zmr, .int (nI zn)])), (zmk, .inl (g.2.1.1, 160, .inl zfk)), (zmv, .inl (g.2.1.1, 160, .inl zfv)), (zmr, .inl (g.2.1.1, 160, .inl zfr)), (zc, .inr (2, [.ref zck, .ref zcv, .ref zcr, .int (nI znc)])), (zck, .inl (g.2.1.1, 160, .inl zgk)), (zcv, .inl (g.2.1.1, 160, .inl zgv)), (zcr, .inl (g.2.1.1, 160, .inl zgr)), (zs, .inl (g.2.1.1, 4, .inl zfs)), (zt, .inl (g.2.1.1, 5, .inl zft))] H := hP
  have hD : va_D A [(y, .inr (7, [.ref ym, .ref yc, .ref ys, .ref yt])), (ym, .inr (2, [.ref ymk, .ref ymv, .ref ymr, .int (nI zn)])), (ymk, .inl (g.2.1.1, 160, .inl (kcpy zfk yfk zn))), (ymv, .inl (g.2.1.1, 160, .inl (kcpy zfv yfv zn))), (ymr, .inl (g.2.1.1, 160, .inl (kcpy zfr yfr zn))), (yc, .inr (2, [.ref yck, .ref ycv, .ref ycr, .int (nI znc)])), (yck, .inl (g.2.1.1, 160, .inl (kcpy zgk ygk znc))), (ycv, .inl (g.2.1.1, 160, .inl (kcpy zgv ygv znc))), (ycr, .inl (g.2.1.1, 160, .inl (kcpy zgr ygr znc))), (ys, .inl (g.2.1.1, 4, .inl (kcpy zfs yfs 4))), (yt, .inl (g.2.1.1, 5, .inl yft)), (z, .inr (7, [.ref zm, .ref zc, .ref zs, .ref zt])), (zm, .inr (2, [.ref zmk, .ref zmv, .ref zmr, .int (nI zn)])), (zmk, .inl (g.2.1.1, 160, .inl zfk)), (zmv, .inl (g.2.1.1, 160, .inl zfv)), (zmr, .inl (g.2.1.1, 160, .inl zfr)), (zc, .inr (2, [.ref zck, .ref zcv, .ref zcr, .int (nI znc)])), (zck, .inl (g.2.1.1, 160, .inl zgk)), (zcv, .inl (g.2.1.1, 160, .inl zgv)), (zcr, .inl (g.2.1.1, 160, .inl zgr)), (zs, .inl (g.2.1.1, 4, .inl zfs)), (zt, .inl (g.2.1.1, 5, .inl zft))] := hD
  refine lv_aload_n hx hb dX5_become_34 rfl (lv_at hl 1 rfl) ?_
  refine va_get (D := g.1) (ci := 7) (v := .ref zt) (C := RX5) (T := TX5) (N := 4) hx hb hts (by decide +kernel) hown hK hP 11 rfl rfl 3 (by decide) (hts (.fieldLink RX5 25 "LearnedIndex$State" "tallies" "[I") (by decide +kernel)) (fun _ h9 => h9) rfl dX5_become_35 ?_
  refine lv_aload_n hx hb dX5_become_38 rfl (lv_at hl 0 rfl) ?_
  refine va_get (D := g.1) (ci := 7) (v := .ref yt) (C := RX5) (T := TX5) (N := 4) hx hb hts (by decide +kernel) hown hK hP 0 rfl rfl 3 (by decide) (hts (.fieldLink RX5 25 "LearnedIndex$State" "tallies" "[I") (by decide +kernel)) (fun _ h9 => h9) rfl dX5_become_39 ?_
  refine lv_iconst (v := 5) hx hb dX5_become_42 (by decide) ?_
  refine kcallv (wc := [(zt, .inl (g.2.1.1, 5, .inl zft)), (yt, .inl (g.2.1.1, 5, .inl yft))]) [21, 10] (va_runSN (As := [.ref zt, .ref yt, .int 5]) (rest := []) ⟨hx, hb, hml, hown, hts⟩ ((c_X6_copyRow l g zt yt 5 zft 5 yft 5 (by decide) (by decide) (by decide) (by decide)) _) ⟨va_cnB 3 hts gX5_become_X6_copyRow_n31 rfl rfl rfl (hE.1 _ (List.mem_of_getElem? (i := 44) rfl)) (hts (.initialized RX6) (by decide +kernel)) (by decide +kernel) ⟨Nat.le_of_ble_eq_true rfl, Nat.le_of_ble_eq_true rfl⟩, hts (.static yX6_copyRow) (by decide +kernel), trivial⟩ (kpreS (wc := [(zt, .inl (g.2.1.1, 5, .inl zft)), (yt, .inl (g.2.1.1, 5, .inl yft))]) hK hP hD hS hA hE [21, 10] rfl rfl) rfl rfl hl.1 rfl (lv_room (Nat.le_of_ble_eq_true rfl)) dX5_become_43 ⟨Nat.zero_le _, Nat.zero_le _⟩) hP hD hS hA rfl (fun w_4 H locs hp hP hD hS => ?_)
  obtain rfl := hp
  have hP : va_P g.1 vwCl [(y, .inr (7, [.ref ym, .ref yc, .ref ys, .ref yt])), (ym, .inr (2, [.ref ymk, .ref ymv, .ref ymr, .int (nI zn)])), (ymk, .inl (g.2.1.1, 160, .inl (kcpy zfk yfk zn))), (ymv, .inl (g.2.1.1, 160, .inl (kcpy zfv yfv zn))), (ymr, .inl (g.2.1.1, 160, .inl (kcpy zfr yfr zn))), (yc, .inr (2, [.ref yck, .ref ycv, .ref ycr, .int (nI znc)])), (yck, .inl (g.2.1.1, 160, .inl (kcpy zgk ygk znc))), (ycv, .inl (g.2.1.1, 160, .inl (kcpy zgv ygv znc))), (ycr, .inl (g.2.1.1, 160, .inl (kcpy zgr ygr znc))), (ys, .inl (g.2.1.1, 4, .inl (kcpy zfs yfs 4))), (yt, .inl (g.2.1.1, 5, .inl (kcpy zft yft 5))), (z, .inr (7, [.ref zm, .ref zc, .ref zs, .ref zt])), (zm, .inr (2, [.ref zmk, .ref zmv, .ref zmr, .int (nI zn)])), (zmk, .inl (g.2.1.1, 160, .inl zfk)), (zmv, .inl (g.2.1.1, 160, .inl zfv)), (zmr, .inl (g.2.1.1, 160, .inl zfr)), (zc, .inr (2, [.ref zck, .ref zcv, .ref zcr, .int (nI znc)])), (zck, .inl (g.2.1.1, 160, .inl zgk)), (zcv, .inl (g.2.1.1, 160, .inl zgv)), (zcr, .inl (g.2.1.1, 160, .inl zgr)), (zs, .inl (g.2.1.1, 4, .inl zfs)), (zt, .inl (g.2.1.1, 5, .inl zft))] H := hP
  have hD : va_D A [(y, .inr (7, [.ref ym, .ref yc, .ref ys, .ref yt])), (ym, .inr (2, [.ref ymk, .ref ymv, .ref ymr, .int (nI zn)])), (ymk, .inl (g.2.1.1, 160, .inl (kcpy zfk yfk zn))), (ymv, .inl (g.2.1.1, 160, .inl (kcpy zfv yfv zn))), (ymr, .inl (g.2.1.1, 160, .inl (kcpy zfr yfr zn))), (yc, .inr (2, [.ref yck, .ref ycv, .ref ycr, .int (nI znc)])), (yck, .inl (g.2.1.1, 160, .inl (kcpy zgk ygk znc))), (ycv, .inl (g.2.1.1, 160, .inl (kcpy zgv ygv znc))), (ycr, .inl (g.2.1.1, 160, .inl (kcpy zgr ygr znc))), (ys, .inl (g.2.1.1, 4, .inl (kcpy zfs yfs 4))), (yt, .inl (g.2.1.1, 5, .inl (kcpy zft yft 5))), (z, .inr (7, [.ref zm, .ref zc, .ref zs, .ref zt])), (zm, .inr (2, [.ref zmk, .ref zmv, .ref zmr, .int (nI zn)])), (zmk, .inl (g.2.1.1, 160, .inl zfk)), (zmv, .inl (g.2.1.1, 160, .inl zfv)), (zmr, .inl (g.2.1.1, 160, .inl zfr)), (zc, .inr (2, [.ref zck, .ref zcv, .ref zcr, .int (nI znc)])), (zck, .inl (g.2.1.1, 160, .inl zgk)), (zcv, .inl (g.2.1.1, 160, .inl zgv)), (zcr, .inl (g.2.1.1, 160, .inl zgr)), (zs, .inl (g.2.1.1, 4, .inl zfs)), (zt, .inl (g.2.1.1, 5, .inl zft))] := hD
  exact kretv hx hb hRt hlk hK hP hD hS rfl dX5_become_46 (rfl)
