/-! ===== Input ===== -/
set_option maxRecDepth 20000 in
theorem ggX1_append_X6_store : GoodIn wsX1_append wsX6_store := goodIn_ca (goodIn_r _ [9] (by decide +kernel) (by decide +kernel)) (goodIn_sub (fun _ h => List.mem_cons_of_mem _ (List.mem_append_right _ h)) (by decide +kernel))
set_option maxRecDepth 20000 in
theorem gX1_append_X6_store_n28 : GoodIn wsX1_append (wsX6_store) := ggX1_append_X6_store
theorem dX1_append_0 : decode cX1_append 0 = .ok (.aload_n 0, 1) := by decide +kernel
theorem dX1_append_1 : decode cX1_append 1 = .ok (.getfield 9, 3) := by decide +kernel
theorem dX1_append_4 : decode cX1_append 4 = .ok (.aload_n 0, 1) := by decide +kernel
theorem dX1_append_5 : decode cX1_append 5 = .ok (.getfield 24, 3) := by decide +kernel
theorem dX1_append_8 : decode cX1_append 8 = .ok (.iload_n 1, 1) := by decide +kernel
theorem dX1_append_9 : decode cX1_append 9 = .ok (.invokestatic 28, 3) := by decide +kernel
theorem dX1_append_12 : decode cX1_append 12 = .ok (.aload_n 0, 1) := by decide +kernel
theorem dX1_append_13 : decode cX1_append 13 = .ok (.aload_n 0, 1) := by decide +kernel
theorem dX1_append_14 : decode cX1_append 14 = .ok (.getfield 24, 3) := by decide +kernel
theorem dX1_append_17 : decode cX1_append 17 = .ok (.iconst 1, 1) := by decide +kernel
theorem dX1_append_18 : decode cX1_append 18 = .ok (.iadd, 1) := by decide +kernel
theorem dX1_append_19 : decode cX1_append 19 = .ok (.bipush 100, 2) := by decide +kernel
theorem dX1_append_21 : decode cX1_append 21 = .ok (.invokestatic 32, 3) := by decide +kernel
theorem dX1_append_24 : decode cX1_append 24 = .ok (.putfield 24, 3) := by decide +kernel
theorem dX1_append_27 : decode cX1_append 27 = .ok (.return_, 1) := by decide +kernel
def rm_X1_append : Room := { frames := 1, cells := 0, slots := 0, locals := 32 }
abbrev p_X1_append (g : kG) (h : Nat) (q1 : Nat) (q2 : Nat) (q3 : Nat) (q4 : Nat) (n : Nat) (T : Nat → Int32) (fk : Nat → Int32) (fv : Nat → Int32) (fr : Nat → Int32) (ne : Nat) (i : Nat) (v : Int32) (x : Int32) : va_W → Prop := fun w1 => w1 = [(h, .inr (3, [.ref q1, .int (nI (n + 1)), .ref q2, .ref q3, .ref q4, .int (nI ne), .int (nI i), .int v])), (q1, .inl (g.2.1.1, 100, .inl (upd T n x))), (q2, .inl (g.2.1.1, 100, .inl fk)), (q3, .inl (g.2.1.1, 100, .inl fv)), (q4, .inl (g.2.1.1, 100, .inl fr))]
set_option maxHeartbeats 4000000 in
set_option maxRecDepth 100000 in
theorem c_X1_append (l : Launch) (g : kG) (h : Nat) (q1 : Nat) (q2 : Nat) (q3 : Nat) (q4 : Nat) (n : Nat) (T : Nat → Int32) (fk : Nat → Int32) (fv : Nat → Int32) (fr : Nat → Int32) (ne : Nat) (i : Nat) (v : Int32) (x : Int32) (hn : n < 100) : KV l yX1_append wsX1_append rm_X1_append g [.ref h, .int x] [(h, .inr (3, [.ref q1, .int (nI n), .ref q2, .ref q3, .ref q4, .int (nI ne), .int (nI i), .int v])), (q1, .inl (g.2.1.1, 100, .inl T)), (q2, .inl (g.2.1.1, 100, .inl fk)), (q3, .inl (g.2.1.1, 100, .inl fv)), (q4, .inl (g.2.1.1, 100, .inl fr))] (p_X1_append g h q1 q2 q3 q4 n T fk fv fr ne i v x) := by
  refine kbodyV (cc := cX1_append) (n := 2) (k := 5) (own := RX1) (plainFor_of_name (by decide)) rfl rfl rfl rfl ?_
  intro p e s m below meth cd A ls hcx
  obtain ⟨hx, hb, hRt, hml, hts, hown, hlk, hA, hP, hK, hD, hE, hS, hl⟩ := hcx
  have hl : lv_has ls 2 [(0, .ref h), (1, .int x)] := hl
  refine lv_aload_n hx hb dX1_append_0 rfl (lv_at hl 0 rfl) ?_
  refine va_get (D := g.1) (ci := 3) (v := .ref q1) (C := RX1) (T := TX1) (N := 8) hx hb hts (by decide +kernel) hown hK hP 0 rfl rfl 0 (by decide) (hts (.fieldLink RX1 9 "LearnedIndex$Input" "letters" "[I") (by decide +kernel)) (fun _ h9 => h9) rfl dX1_append_1 ?_
  refine lv_aload_n hx hb dX1_append_4 rfl (lv_at hl 0 rfl) ?_
  refine va_get (D := g.1) (ci := 3) (v := .int (nI n)) (C := RX1) (T := TX1) (N := 8) hx hb hts (by decide +kernel) hown hK hP 0 rfl rfl 1 (by decide) (hts (.fieldLink RX1 24 "LearnedIndex$Input" "length" "I") (by decide +kernel)) (fun _ h9 => h9) rfl dX1_append_5 ?_
  refine lv_iload_n hx hb dX1_append_8 rfl (lv_at hl 1 rfl) ?_
  refine kcallv (wc := [(q1, .inl (g.2.1.1, 100, .inl T))]) [1] (va_runSN (As := [.ref q1, .int (nI n), .int x]) (rest := []) ⟨hx, hb, hml, hown, hts⟩ ((c_X6_store l g q1 100 T (nI n) x (by decide)) _) ⟨va_cnB 3 hts gX1_append_X6_store_n28 rfl rfl rfl (hE.1 _ (List.mem_of_getElem? (i := 27) rfl)) (hts (.initialized RX6) (by decide +kernel)) (by decide +kernel) ⟨Nat.le_of_ble_eq_true rfl, Nat.le_of_ble_eq_true rfl⟩, hts (.static yX6_store) (by decide +kernel), trivial⟩ (kpreS (wc := [(q1, .inl (g.2.1.1, 100, .inl T))]) hK hP hD hS hA hE [1] rfl rfl) rfl rfl hl.1 rfl (lv_room (Nat.le_of_ble_eq_true rfl)) dX1_append_9 ⟨Nat.zero_le _, Nat.zero_le _⟩) hP hD hS hA rfl (fun w_1 H locs hp hP hD hS => ?_)
  obtain rfl := hp
  have hP : va_P g.1 vwCl [(h, .inr (3, [.ref q1, .int (nI n), .ref q2, .ref q3, .ref q4, .int (nI ne), .int (nI i), .int v])), (q1, .inl (g.2.1.1, 100, .inl (kstore 100 T (nI n) x))), (q2, .inl (g.2.1.1, 100, .inl fk)), (q3, .inl (g.2.1.1, 100, .inl fv)), (q4, .inl (g.2.1.1, 100, .inl fr))] H := hP
  have hD : va_D A [(h, .inr (3, [.ref q1, .int (nI n), .ref q2, .ref q3, .ref q4, .int (nI ne), .int (nI i), .int v])), (q1, .inl (g.2.1.1, 100, .inl (kstore 100 T (nI n) x))), (q2, .inl (g.2.1.1, 100, .inl fk)), (q3, .inl (g.2.1.1, 100, .inl fv)), (q4, .inl (g.2.1.1, 100, .inl fr))] := hD
  refine lv_aload_n hx hb dX1_append_12 rfl (lv_at hl 0 rfl) ?_
  refine lv_aload_n hx hb dX1_append_13 rfl (lv_at hl 0 rfl) ?_
  refine va_get (D := g.1) (ci := 3) (v := .int (nI n)) (C := RX1) (T := TX1) (N := 8) hx hb hts (by decide +kernel) hown hK hP 0 rfl rfl 1 (by decide) (hts (.fieldLink RX1 24 "LearnedIndex$Input" "length" "I") (by decide +kernel)) (fun _ h9 => h9) rfl dX1_append_14 ?_
  refine lv_iconst (v := 1) hx hb dX1_append_17 (by decide) ?_
  refine lv_iadd hx hb dX1_append_18 ?_
  refine lv_bipush (v := 100) hx hb dX1_append_19 (by decide) ?_
  refine va_mmin hx hb (hml.trans hl.1.symm) hown (hts (.methodLink RX1 32 Lib.Math.min.name) (by decide +kernel)) (hts (.static Lib.Math.min.name) (by decide +kernel)) (hts (.initialized "java/lang/Math") (by decide +kernel)) (hts (.code Lib.Math.min.name Lib.Math.min.code 2 (some .int)) (by decide +kernel)) (Nat.le_of_ble_eq_true rfl) (Nat.le_of_ble_eq_true rfl) (Nat.zero_le _) (Nat.zero_le _) dX1_append_21 ?_
  rw [show (if 100 < ((nI n) + 1) then 100 else ((nI n) + 1) : Int32) = nI (n + 1) from by rw [nI_1, if_neg (by rw [show (100 : Int32) = nI 100 from rfl, nI_ltI (by decide) (by omega)]; omega)]]
  refine va_put (D := g.1) (ci := 3) (v := .int (nI (n + 1))) (ty := .int) (C := RX1) (T := TX1) (N := 8) hx hb hts (by decide +kernel) tyX1 tyX1_ok nmX1 hown hK hP hD hS 0 rfl rfl 1 (by decide) (hts (.fieldLink RX1 24 "LearnedIndex$Input" "length" "I") (by decide +kernel)) (fun _ h9 => h9) rfl (by decide +kernel) rfl rfl (Nat.le_of_ble_eq_true rfl) dX1_append_24 (fun H locs hP hD hS => ?_)
  have hP : va_P g.1 vwCl [(h, .inr (3, [.ref q1, .int (nI (n + 1)), .ref q2, .ref q3, .ref q4, .int (nI ne), .int (nI i), .int v])), (q1, .inl (g.2.1.1, 100, .inl (kstore 100 T (nI n) x))), (q2, .inl (g.2.1.1, 100, .inl fk)), (q3, .inl (g.2.1.1, 100, .inl fv)), (q4, .inl (g.2.1.1, 100, .inl fr))] H := hP
  have hD : va_D A [(h, .inr (3, [.ref q1, .int (nI (n + 1)), .ref q2, .ref q3, .ref q4, .int (nI ne), .int (nI i), .int v])), (q1, .inl (g.2.1.1, 100, .inl (kstore 100 T (nI n) x))), (q2, .inl (g.2.1.1, 100, .inl fk)), (q3, .inl (g.2.1.1, 100, .inl fv)), (q4, .inl (g.2.1.1, 100, .inl fr))] := hD
  exact kretv hx hb hRt hlk hK hP hD hS rfl dX1_append_27 (by show _ = _; rw [kstore_nI T x (by decide) hn])
set_option maxRecDepth 20000 in
theorem ggX1_isRemoval_X6_cell : GoodIn wsX1_isRemoval wsX6_cell := goodIn_ca (goodIn_r _ [4] (by decide +kernel) (by decide +kernel)) (goodIn_sub (fun _ h => List.mem_cons_of_mem _ (List.mem_append_right _ h)) (by decide +kernel))
set_option maxRecDepth 20000 in
theorem gX1_isRemoval_X6_cell_n38 : GoodIn wsX1_isRemoval (wsX6_cell) := ggX1_isRemoval_X6_cell
theorem dX1_isRemoval_0 : decode cX1_isRemoval 0 = .ok (.aload_n 0, 1) := by decide +kernel
theorem dX1_isRemoval_1 : decode cX1_isRemoval 1 = .ok (.getfield 21, 3) := by decide +kernel
theorem dX1_isRemoval_4 : decode cX1_isRemoval 4 = .ok (.iload_n 1, 1) := by decide +kernel
theorem dX1_isRemoval_5 : decode cX1_isRemoval 5 = .ok (.invokestatic 38, 3) := by decide +kernel
theorem dX1_isRemoval_8 : decode cX1_isRemoval 8 = .ok (.iconst 1, 1) := by decide +kernel
theorem dX1_isRemoval_9 : decode cX1_isRemoval 9 = .ok (.if_icmp .ne 7, 3) := by decide +kernel
theorem dX1_isRemoval_12 : decode cX1_isRemoval 12 = .ok (.iconst 1, 1) := by decide +kernel
theorem dX1_isRemoval_13 : decode cX1_isRemoval 13 = .ok (.goto 4, 3) := by decide +kernel
theorem dX1_isRemoval_16 : decode cX1_isRemoval 16 = .ok (.iconst 0, 1) := by decide +kernel
theorem dX1_isRemoval_17 : decode cX1_isRemoval 17 = .ok (.ireturn, 1) := by decide +kernel
def rm_X1_isRemoval : Room := { frames := 1, cells := 0, slots := 0, locals := 21 }
abbrev p_X1_isRemoval (g : kG) (h : Nat) (q1 : Nat) (q2 : Nat) (q3 : Nat) (q4 : Nat) (n : Nat) (T : Nat → Int32) (fk : Nat → Int32) (fv : Nat → Int32) (fr : Nat → Int32) (ne : Nat) (i : Nat) (v : Int32) (x : Int32) : Int32 → va_W → Prop := fun r w1 => r = kis1 (kcell 100 fr x) ∧ w1 = [(h, .inr (3, [.ref q1, .int (nI n), .ref q2, .ref q3, .ref q4, .int (nI ne), .int (nI i), .int v])), (q1, .inl (g.2.1.1, 100, .inl T)), (q2, .inl (g.2.1.1, 100, .inl fk)), (q3, .inl (g.2.1.1, 100, .inl fv)), (q4, .inl (g.2.1.1, 100, .inl fr))]
set_option maxHeartbeats 4000000 in
set_option maxRecDepth 100000 in
theorem c_X1_isRemoval (l : Launch) (g : kG) (h : Nat) (q1 : Nat) (q2 : Nat) (q3 : Nat) (q4 : Nat) (n : Nat) (T : Nat → Int32) (fk : Nat → Int32) (fv : Nat → Int32) (fr : Nat → Int32) (ne : Nat) (i : Nat) (v : Int32) (x : Int32) : KI l yX1_isRemoval wsX1_isRemoval rm_X1_isRemoval g [.ref h, .int x] [(h, .inr (3, [.ref q1, .int (nI n), .ref q2, .ref q3, .ref q4, .int (nI ne), .int (nI i), .int v])), (q1, .inl (g.2.1.1, 100, .inl T)), (q2, .inl (g.2.1.1, 100, .inl fk)), (q3, .inl (g.2.1.1, 100, .inl fv)), (q4, .inl (g.2.1.1, 100, .inl fr))] (p_X1_isRemoval g h q1 q2 q3 q4 n T fk fv fr ne i v x) := by
  refine kbodyI (cc := cX1_isRemoval) (n := 2) (k := 5) (own := RX1) (plainFor_of_name (by decide)) rfl rfl rfl rfl ?_
  intro p e s m below meth cd A ls hcx
  obtain ⟨hx, hb, hRt, hml, hts, hown, hlk, hA, hP, hK, hD, hE, hS, hl⟩ := hcx
  have hl : lv_has ls 2 [(0, .ref h), (1, .int x)] := hl
  refine lv_aload_n hx hb dX1_isRemoval_0 rfl (lv_at hl 0 rfl) ?_
  refine va_get (D := g.1) (ci := 3) (v := .ref q4) (C := RX1) (T := TX1) (N := 8) hx hb hts (by decide +kernel) hown hK hP 0 rfl rfl 4 (by decide) (hts (.fieldLink RX1 21 "LearnedIndex$Input" "removals" "[I") (by decide +kernel)) (fun _ h9 => h9) rfl dX1_isRemoval_1 ?_
  refine lv_iload_n hx hb dX1_isRemoval_4 rfl (lv_at hl 1 rfl) ?_
  refine kcalli (wc := [(q4, .inl (g.2.1.1, 100, .inl fr))]) [4] (va_runSN (As := [.ref q4, .int x]) (rest := []) ⟨hx, hb, hml, hown, hts⟩ ((c_X6_cell l g q4 100 fr x (by decide)) _) ⟨va_cnB 2 hts gX1_isRemoval_X6_cell_n38 rfl rfl rfl (hE.1 _ (List.mem_of_getElem? (i := 28) rfl)) (hts (.initialized RX6) (by decide +kernel)) (by decide +kernel) ⟨Nat.le_of_ble_eq_true rfl, Nat.le_of_ble_eq_true rfl⟩, hts (.static yX6_cell) (by decide +kernel), trivial⟩ (kpreS (wc := [(q4, .inl (g.2.1.1, 100, .inl fr))]) hK hP hD hS hA hE [4] rfl rfl) rfl rfl hl.1 rfl (lv_room (Nat.le_of_ble_eq_true rfl)) dX1_isRemoval_5 ⟨Nat.zero_le _, Nat.zero_le _⟩) hP hD hS hA rfl (fun r_1 w_1 H locs hp hP hD hS => ?_)
  obtain ⟨rfl, rfl⟩ := hp
  have hP : va_P g.1 vwCl [(h, .inr (3, [.ref q1, .int (nI n), .ref q2, .ref q3, .ref q4, .int (nI ne), .int (nI i), .int v])), (q1, .inl (g.2.1.1, 100, .inl T)), (q2, .inl (g.2.1.1, 100, .inl fk)), (q3, .inl (g.2.1.1, 100, .inl fv)), (q4, .inl (g.2.1.1, 100, .inl fr))] H := hP
  have hD : va_D A [(h, .inr (3, [.ref q1, .int (nI n), .ref q2, .ref q3, .ref q4, .int (nI ne), .int (nI i), .int v])), (q1, .inl (g.2.1.1, 100, .inl T)), (q2, .inl (g.2.1.1, 100, .inl fk)), (q3, .inl (g.2.1.1, 100, .inl fv)), (q4, .inl (g.2.1.1, 100, .inl fr))] := hD
  refine lv_iconst (v := 1) hx hb dX1_isRemoval_8 (by decide) ?_
  refine lv_icmp_ne (tgt := 16) hx hb dX1_isRemoval_9 (by decide) (fun c_9 => ?_) (fun c_9 => ?_)
  · skip
    refine lv_iconst (v := 0) hx hb dX1_isRemoval_16 (by decide) ?_
    exact kretz hx hb hRt hlk hK hP hD hS rfl dX1_isRemoval_17 (by decide) (⟨by simp [kis1, c_9], rfl⟩)
  · skip
    refine lv_iconst (v := 1) hx hb dX1_isRemoval_12 (by decide) ?_
    refine lv_goto (tgt := 17) hx hb dX1_isRemoval_13 (by decide) ?_
    exact kretz hx hb hRt hlk hK hP hD hS rfl dX1_isRemoval_17 (by decide) (⟨by simp [kis1, c_9], rfl⟩)
set_option maxRecDepth 20000 in
theorem ggX1_letter_X6_cell : GoodIn wsX1_letter wsX6_cell := goodIn_ca (goodIn_r _ [6] (by decide +kernel) (by decide +kernel)) (goodIn_sub (fun _ h => List.mem_cons_of_mem _ (List.mem_append_right _ h)) (by decide +kernel))
set_option maxRecDepth 20000 in
theorem gX1_letter_X6_cell_n38 : GoodIn wsX1_letter (wsX6_cell) := ggX1_letter_X6_cell
theorem dX1_letter_0 : decode cX1_letter 0 = .ok (.aload_n 0, 1) := by decide +kernel
theorem dX1_letter_1 : decode cX1_letter 1 = .ok (.getfield 42, 3) := by decide +kernel
theorem dX1_letter_4 : decode cX1_letter 4 = .ok (.aload_n 0, 1) := by decide +kernel
theorem dX1_letter_5 : decode cX1_letter 5 = .ok (.getfield 24, 3) := by decide +kernel
theorem dX1_letter_8 : decode cX1_letter 8 = .ok (.if_icmp .ge 17, 3) := by decide +kernel
theorem dX1_letter_11 : decode cX1_letter 11 = .ok (.aload_n 0, 1) := by decide +kernel
theorem dX1_letter_12 : decode cX1_letter 12 = .ok (.getfield 9, 3) := by decide +kernel
theorem dX1_letter_15 : decode cX1_letter 15 = .ok (.aload_n 0, 1) := by decide +kernel
theorem dX1_letter_16 : decode cX1_letter 16 = .ok (.getfield 42, 3) := by decide +kernel
theorem dX1_letter_19 : decode cX1_letter 19 = .ok (.invokestatic 38, 3) := by decide +kernel
theorem dX1_letter_22 : decode cX1_letter 22 = .ok (.goto 4, 3) := by decide +kernel
theorem dX1_letter_25 : decode cX1_letter 25 = .ok (.iconst (-1), 1) := by decide +kernel
theorem dX1_letter_26 : decode cX1_letter 26 = .ok (.ireturn, 1) := by decide +kernel
def rm_X1_letter : Room := { frames := 1, cells := 0, slots := 0, locals := 21 }
abbrev p_X1_letter (g : kG) (h : Nat) (q1 : Nat) (q2 : Nat) (q3 : Nat) (q4 : Nat) (n : Nat) (T : Nat → Int32) (fk : Nat → Int32) (fv : Nat → Int32) (fr : Nat → Int32) (ne : Nat) (i : Nat) (v : Int32) : Int32 → va_W → Prop := fun r w1 => r = ch T n i ∧ w1 = [(h, .inr (3, [.ref q1, .int (nI n), .ref q2, .ref q3, .ref q4, .int (nI ne), .int (nI i), .int v])), (q1, .inl (g.2.1.1, 100, .inl T)), (q2, .inl (g.2.1.1, 100, .inl fk)), (q3, .inl (g.2.1.1, 100, .inl fv)), (q4, .inl (g.2.1.1, 100, .inl fr))]
set_option maxHeartbeats 4000000 in
set_option maxRecDepth 100000 in
theorem c_X1_letter (l : Launch) (g : kG) (h : Nat) (q1 : Nat) (q2 : Nat) (q3 : Nat) (q4 : Nat) (n : Nat) (T : Nat → Int32) (fk : Nat → Int32) (fv : Nat → Int32) (fr : Nat → Int32) (ne : Nat) (i : Nat) (v : Int32) (hn : n ≤ 100) (hi : i ≤ n) : KI l yX1_letter wsX1_letter rm_X1_letter g [.ref h] [(h, .inr (3, [.ref q1, .int (nI n), .ref q2, .ref q3, .ref q4, .int (nI ne), .int (nI i), .int v])), (q1, .inl (g.2.1.1, 100, .inl T)), (q2, .inl (g.2.1.1, 100, .inl fk)), (q3, .inl (g.2.1.1, 100, .inl fv)), (q4, .inl (g.2.1.1, 100, .inl fr))] (p_X1_letter g h q1 q2 q3 q4 n T fk fv fr ne i v) := by
  refine kbodyI (cc := cX1_letter) (n := 1) (k := 5) (own := RX1) (plainFor_of_name (by decide)) rfl rfl rfl rfl ?_
  intro p e s m below meth cd A ls hcx
  obtain ⟨hx, hb, hRt, hml, hts, hown, hlk, hA, hP, hK, hD, hE, hS, hl⟩ := hcx
  have hl : lv_has ls 1 [(0, .ref h)] := hl
  refine lv_aload_n hx hb dX1_letter_0 rfl (lv_at hl 0 rfl) ?_
  refine va_get (D := g.1) (ci := 3) (v := .int (nI i)) (C := RX1) (T := TX1) (N := 8) hx hb hts (by decide +kernel) hown hK hP 0 rfl rfl 6 (by decide) (hts (.fieldLink RX1 42 "LearnedIndex$Input" "at" "I") (by decide +kernel)) (fun _ h9 => h9) rfl dX1_letter_1 ?_
  refine lv_aload_n hx hb dX1_letter_4 rfl (lv_at hl 0 rfl) ?_
  refine va_get (D := g.1) (ci := 3) (v := .int (nI n)) (C := RX1) (T := TX1) (N := 8) hx hb hts (by decide +kernel) hown hK hP 0 rfl rfl 1 (by decide) (hts (.fieldLink RX1 24 "LearnedIndex$Input" "length" "I") (by decide +kernel)) (fun _ h9 => h9) rfl dX1_letter_5 ?_
  refine lv_icmp_ge (tgt := 25) hx hb dX1_letter_8 (by decide) (fun c_8 => ?_) (fun c_8 => ?_)
  · skip
    have hin : n ≤ i := kg (by omega) (by omega) c_8
    refine lv_iconst (v := (-1)) hx hb dX1_letter_25 (by decide) ?_
    exact kreti hx hb hRt hlk hK hP hD hS rfl dX1_letter_26 (⟨by rw [ch, if_neg (by omega)], rfl⟩)
  · skip
    have hin : i < n := kl (by omega) (by omega) c_8
    refine lv_aload_n hx hb dX1_letter_11 rfl (lv_at hl 0 rfl) ?_
    refine va_get (D := g.1) (ci := 3) (v := .ref q1) (C := RX1) (T := TX1) (N := 8) hx hb hts (by decide +kernel) hown hK hP 0 rfl rfl 0 (by decide) (hts (.fieldLink RX1 9 "LearnedIndex$Input" "letters" "[I") (by decide +kernel)) (fun _ h9 => h9) rfl dX1_letter_12 ?_
    refine lv_aload_n hx hb dX1_letter_15 rfl (lv_at hl 0 rfl) ?_
    refine va_get (D := g.1) (ci := 3) (v := .int (nI i)) (C := RX1) (T := TX1) (N := 8) hx hb hts (by decide +kernel) hown hK hP 0 rfl rfl 6 (by decide) (hts (.fieldLink RX1 42 "LearnedIndex$Input" "at" "I") (by decide +kernel)) (fun _ h9 => h9) rfl dX1_letter_16 ?_
    refine kcalli (wc := [(q1, .inl (g.2.1.1, 100, .inl T))]) [1] (va_runSN (As := [.ref q1, .int (nI i)]) (rest := []) ⟨hx, hb, hml, hown, hts⟩ ((c_X6_cell l g q1 100 T (nI i) (by decide)) _) ⟨va_cnB 2 hts gX1_letter_X6_cell_n38 rfl rfl rfl (hE.1 _ (List.mem_of_getElem? (i := 28) rfl)) (hts (.initialized RX6) (by decide +kernel)) (by decide +kernel) ⟨Nat.le_of_ble_eq_true rfl, Nat.le_of_ble_eq_true rfl⟩, hts (.static yX6_cell) (by decide +kernel), trivial⟩ (kpreS (wc := [(q1, .inl (g.2.1.1, 100, .inl T))]) hK hP hD hS hA hE [1] rfl rfl) rfl rfl hl.1 rfl (lv_room (Nat.le_of_ble_eq_true rfl)) dX1_letter_19 ⟨Nat.zero_le _, Nat.zero_le _⟩) hP hD hS hA rfl (fun r_1 w_1 H locs hp hP hD hS => ?_)
    obtain ⟨rfl, rfl⟩ := hp
    have hP : va_P g.1 vwCl [(h, .inr (3, [.ref q1, .int (nI n), .ref q2, .ref q3, .ref q4, .int (nI ne), .int (nI i), .int v])), (q1, .inl (g.2.1.1, 100, .inl T)), (q2, .inl (g.2.1.1, 100, .inl fk)), (q3, .inl (g.2.1.1, 100, .inl fv)), (q4, .inl (g.2.1.1, 100, .inl fr))] H := hP
    have hD : va_D A [(h, .inr (3, [.ref q1, .int (nI n), .ref q2, .ref q3, .ref q4, .int (nI ne), .int (nI i), .int v])), (q1, .inl (g.2.1.1, 100, .inl T)), (q2, .inl (g.2.1.1, 100, .inl fk)), (q3, .inl (g.2.1.1, 100, .inl fv)), (q4, .inl (g.2.1.1, 100, .inl fr))] := hD
    refine lv_goto (tgt := 26) hx hb dX1_letter_22 (by decide) ?_
    exact kreti hx hb hRt hlk hK hP hD hS rfl dX1_letter_26 (⟨by rw [ch, if_pos hin, kcell_nI T (by decide) (by omega)], rfl⟩)
theorem dX1_isDigit_0 : decode cX1_isDigit 0 = .ok (.iload_n 0, 1) := by decide +kernel
theorem dX1_isDigit_1 : decode cX1_isDigit 1 = .ok (.bipush 48, 2) := by decide +kernel
theorem dX1_isDigit_3 : decode cX1_isDigit 3 = .ok (.if_icmp .lt 13, 3) := by decide +kernel
theorem dX1_isDigit_6 : decode cX1_isDigit 6 = .ok (.iload_n 0, 1) := by decide +kernel
theorem dX1_isDigit_7 : decode cX1_isDigit 7 = .ok (.bipush 57, 2) := by decide +kernel
theorem dX1_isDigit_9 : decode cX1_isDigit 9 = .ok (.if_icmp .gt 7, 3) := by decide +kernel
theorem dX1_isDigit_12 : decode cX1_isDigit 12 = .ok (.iconst 1, 1) := by decide +kernel
theorem dX1_isDigit_13 : decode cX1_isDigit 13 = .ok (.goto 4, 3) := by decide +kernel
theorem dX1_isDigit_16 : decode cX1_isDigit 16 = .ok (.iconst 0, 1) := by decide +kernel
theorem dX1_isDigit_17 : decode cX1_isDigit 17 = .ok (.ireturn, 1) := by decide +kernel
def rm_X1_isDigit : Room := { frames := 0, cells := 0, slots := 0, locals := 0 }
abbrev p_X1_isDigit (g : kG) (x : Int32) : Int32 → va_W → Prop := fun r w1 => r = kdg x ∧ w1 = []
set_option maxHeartbeats 4000000 in
set_option maxRecDepth 100000 in
theorem c_X1_isDigit (l : Launch) (g : kG) (x : Int32) : KI l yX1_isDigit wsX1_isDigit rm_X1_isDigit g [.int x] [] (p_X1_isDigit g x) := by
  refine kbodyI (cc := cX1_isDigit) (n := 1) (k := 0) (own := RX1) (plainFor_of_name (by decide)) rfl rfl rfl rfl ?_
  intro p e s m below meth cd A ls hcx
  obtain ⟨hx, hb, hRt, hml, hts, hown, hlk, hA, hP, hK, hD, hE, hS, hl⟩ := hcx
  have hl : lv_has ls 1 [(0, .int x)] := hl
  refine lv_iload_n hx hb dX1_isDigit_0 rfl (lv_at hl 0 rfl) ?_
  refine lv_bipush (v := 48) hx hb dX1_isDigit_1 (by decide) ?_
  refine lv_icmp_lt (tgt := 16) hx hb dX1_isDigit_3 (by decide) (fun c_3 => ?_) (fun c_3 => ?_)
  · skip
    refine lv_iconst (v := 0) hx hb dX1_isDigit_16 (by decide) ?_
    exact kretz hx hb hRt hlk hK hP hD hS rfl dX1_isDigit_17 (by decide) (⟨by simp [kdg, c_3], rfl⟩)
  · skip
    refine lv_iload_n hx hb dX1_isDigit_6 rfl (lv_at hl 0 rfl) ?_
    refine lv_bipush (v := 57) hx hb dX1_isDigit_7 (by decide) ?_
    refine lv_icmp_gt (tgt := 16) hx hb dX1_isDigit_9 (by decide) (fun c_9 => ?_) (fun c_9 => ?_)
    · skip
      refine lv_iconst (v := 0) hx hb dX1_isDigit_16 (by decide) ?_
      exact kretz hx hb hRt hlk hK hP hD hS rfl dX1_isDigit_17 (by decide) (⟨by simp [kdg, c_3, c_9], rfl⟩)
    · skip
      refine lv_iconst (v := 1) hx hb dX1_isDigit_12 (by decide) ?_
      refine lv_goto (tgt := 17) hx hb dX1_isDigit_13 (by decide) ?_
      exact kretz hx hb hRt hlk hK hP hD hS rfl dX1_isDigit_17 (by decide) (⟨by simp [kdg, c_3, c_9], rfl⟩)
set_option maxRecDepth 20000 in
theorem ggX1_take_X1_letter : GoodIn wsX1_take wsX1_letter := goodIn_ca (goodIn_r _ [6, 1, 7, 8, 9, 10, 11, 12, 13, 14, 15, 16, 17, 18, 19] (by decide +kernel) (by decide +kernel)) (goodIn_sub (fun _ h => List.mem_cons_of_mem _ (List.mem_append_right _ h)) (by decide +kernel))
set_option maxRecDepth 20000 in
theorem gX1_take_X1_letter : GoodIn wsX1_take (wsV RX1 65 RX1 yX1_letter wsX1_letter) := goodIn_app (goodIn_of _ (by decide +kernel)) ggX1_take_X1_letter
theorem dX1_take_0 : decode cX1_take 0 = .ok (.aload_n 0, 1) := by decide +kernel
theorem dX1_take_1 : decode cX1_take 1 = .ok (.invokevirtual 65, 3) := by decide +kernel
theorem dX1_take_4 : decode cX1_take 4 = .ok (.iload_n 1, 1) := by decide +kernel
theorem dX1_take_5 : decode cX1_take 5 = .ok (.if_icmp .eq 5, 3) := by decide +kernel
theorem dX1_take_8 : decode cX1_take 8 = .ok (.iconst 0, 1) := by decide +kernel
theorem dX1_take_9 : decode cX1_take 9 = .ok (.ireturn, 1) := by decide +kernel
theorem dX1_take_10 : decode cX1_take 10 = .ok (.aload_n 0, 1) := by decide +kernel
theorem dX1_take_11 : decode cX1_take 11 = .ok (.dup, 1) := by decide +kernel
theorem dX1_take_12 : decode cX1_take 12 = .ok (.getfield 42, 3) := by decide +kernel
theorem dX1_take_15 : decode cX1_take 15 = .ok (.iconst 1, 1) := by decide +kernel
theorem dX1_take_16 : decode cX1_take 16 = .ok (.iadd, 1) := by decide +kernel
theorem dX1_take_17 : decode cX1_take 17 = .ok (.putfield 42, 3) := by decide +kernel
theorem dX1_take_20 : decode cX1_take 20 = .ok (.iconst 1, 1) := by decide +kernel
theorem dX1_take_21 : decode cX1_take 21 = .ok (.ireturn, 1) := by decide +kernel
def rm_X1_take : Room := { frames := 2, cells := 0, slots := 0, locals := 41 }
abbrev p_X1_take (g : kG) (h : Nat) (q1 : Nat) (q2 : Nat) (q3 : Nat) (q4 : Nat) (n : Nat) (T : Nat → Int32) (fk : Nat → Int32) (fv : Nat → Int32) (fr : Nat → Int32) (ne : Nat) (i : Nat) (v : Int32) (x : Int32) : Int32 → va_W → Prop := fun r w1 => r = kbool (decide (ch T n i = x)) ∧ w1 = [(h, .inr (3, [.ref q1, .int (nI n), .ref q2, .ref q3, .ref q4, .int (nI ne), .int (nI (if ch T n i = x then i + 1 else i)), .int v])), (q1, .inl (g.2.1.1, 100, .inl T)), (q2, .inl (g.2.1.1, 100, .inl fk)), (q3, .inl (g.2.1.1, 100, .inl fv)), (q4, .inl (g.2.1.1, 100, .inl fr))]
set_option maxHeartbeats 4000000 in
set_option maxRecDepth 100000 in
theorem c_X1_take (l : Launch) (g : kG) (h : Nat) (q1 : Nat) (q2 : Nat) (q3 : Nat) (q4 : Nat) (n : Nat) (T : Nat → Int32) (fk : Nat → Int32) (fv : Nat → Int32) (fr : Nat → Int32) (ne : Nat) (i : Nat) (v : Int32) (x : Int32) (hn : n ≤ 100) (hi : i ≤ n) : KI l yX1_take wsX1_take rm_X1_take g [.ref h, .int x] [(h, .inr (3, [.ref q1, .int (nI n), .ref q2, .ref q3, .ref q4, .int (nI ne), .int (nI i), .int v])), (q1, .inl (g.2.1.1, 100, .inl T)), (q2, .inl (g.2.1.1, 100, .inl fk)), (q3, .inl (g.2.1.1, 100, .inl fv)), (q4, .inl (g.2.1.1, 100, .inl fr))] (p_X1_take g h q1 q2 q3 q4 n T fk fv fr ne i v x) := by
  refine kbodyI (cc := cX1_take) (n := 2) (k := 5) (own := RX1) (plainFor_of_name (by decide)) rfl rfl rfl rfl ?_
  intro p e s m below meth cd A ls hcx
  obtain ⟨hx, hb, hRt, hml, hts, hown, hlk, hA, hP, hK, hD, hE, hS, hl⟩ := hcx
  have hl : lv_has ls 2 [(0, .ref h), (1, .int x)] := hl
  refine lv_aload_n hx hb dX1_take_0 rfl (lv_at hl 0 rfl) ?_
  refine kcalli (wc := [(h, .inr (3, [.ref q1, .int (nI n), .ref q2, .ref q3, .ref q4, .int (nI ne), .int (nI i), .int v])), (q1, .inl (g.2.1.1, 100, .inl T)), (q2, .inl (g.2.1.1, 100, .inl fk)), (q3, .inl (g.2.1.1, 100, .inl fv)), (q4, .inl (g.2.1.1, 100, .inl fr))]) [0, 1, 2, 3, 4] (va_runV (C := RX1) (As := []) (rest := []) ⟨hx, hb, hml, hown, hts⟩ ((c_X1_letter l g h q1 q2 q3 q4 n T fk fv fr ne i v hn hi) _) (cwV 0 hts gX1_take_X1_letter rfl rfl rfl (by decide +kernel) ⟨Nat.le_of_ble_eq_true rfl, Nat.le_of_ble_eq_true rfl⟩) (kpreV (wc := [(h, .inr (3, [.ref q1, .int (nI n), .ref q2, .ref q3, .ref q4, .int (nI ne), .int (nI i), .int v])), (q1, .inl (g.2.1.1, 100, .inl T)), (q2, .inl (g.2.1.1, 100, .inl fk)), (q3, .inl (g.2.1.1, 100, .inl fv)), (q4, .inl (g.2.1.1, 100, .inl fr))]) (ci := 3) hK hP hD hS hA hE [0, 1, 2, 3, 4] rfl rfl rfl rfl) rfl rfl hl.1 rfl (lv_room (Nat.le_of_ble_eq_true rfl)) dX1_take_1 ⟨Nat.zero_le _, Nat.zero_le _⟩) hP hD hS hA rfl (fun r_1 w_1 H locs hp hP hD hS => ?_)
  obtain ⟨rfl, rfl⟩ := hp
  have hP : va_P g.1 vwCl [(h, .inr (3, [.ref q1, .int (nI n), .ref q2, .ref q3, .ref q4, .int (nI ne), .int (nI i), .int v])), (q1, .inl (g.2.1.1, 100, .inl T)), (q2, .inl (g.2.1.1, 100, .inl fk)), (q3, .inl (g.2.1.1, 100, .inl fv)), (q4, .inl (g.2.1.1, 100, .inl fr))] H := hP
  have hD : va_D A [(h, .inr (3, [.ref q1, .int (nI n), .ref q2, .ref q3, .ref q4, .int (nI ne), .int (nI i), .int v])), (q1, .inl (g.2.1.1, 100, .inl T)), (q2, .inl (g.2.1.1, 100, .inl fk)), (q3, .inl (g.2.1.1, 100, .inl fv)), (q4, .inl (g.2.1.1, 100, .inl fr))] := hD
  refine lv_iload_n hx hb dX1_take_4 rfl (lv_at hl 1 rfl) ?_
  refine lv_icmp_eq (tgt := 10) hx hb dX1_take_5 (by decide) (fun c_5 => ?_) (fun c_5 => ?_)
  · skip
    refine lv_aload_n hx hb dX1_take_10 rfl (lv_at hl 0 rfl) ?_
    refine lv_dup hx hb dX1_take_11 rfl ?_
    refine va_get (D := g.1) (ci := 3) (v := .int (nI i)) (C := RX1) (T := TX1) (N := 8) hx hb hts (by decide +kernel) hown hK hP 0 rfl rfl 6 (by decide) (hts (.fieldLink RX1 42 "LearnedIndex$Input" "at" "I") (by decide +kernel)) (fun _ h9 => h9) rfl dX1_take_12 ?_
    refine lv_iconst (v := 1) hx hb dX1_take_15 (by decide) ?_
    refine lv_iadd hx hb dX1_take_16 ?_
    rw [show ((nI i) + 1 : Int32) = nI (i + 1) from nI_1 _]
    refine va_put (D := g.1) (ci := 3) (v := .int (nI (i + 1))) (ty := .int) (C := RX1) (T := TX1) (N := 8) hx hb hts (by decide +kernel) tyX1 tyX1_ok nmX1 hown hK hP hD hS 0 rfl rfl 6 (by decide) (hts (.fieldLink RX1 42 "LearnedIndex$Input" "at" "I") (by decide +kernel)) (fun _ h9 => h9) rfl (by decide +kernel) rfl rfl (Nat.le_of_ble_eq_true rfl) dX1_take_17 (fun H locs hP hD hS => ?_)
    have hP : va_P g.1 vwCl [(h, .inr (3, [.ref q1, .int (nI n), .ref q2, .ref q3, .ref q4, .int (nI ne), .int (nI (i + 1)), .int v])), (q1, .inl (g.2.1.1, 100, .inl T)), (q2, .inl (g.2.1.1, 100, .inl fk)), (q3, .inl (g.2.1.1, 100, .inl fv)), (q4, .inl (g.2.1.1, 100, .inl fr))] H := hP
    have hD : va_D A [(h, .inr (3, [.ref q1, .int (nI n), .ref q2, .ref q3, .ref q4, .int (nI ne), .int (nI (i + 1)), .int v])), (q1, .inl (g.2.1.1, 100, .inl T)), (q2, .inl (g.2.1.1, 100, .inl fk)), (q3, .inl (g.2.1.1, 100, .inl fv)), (q4, .inl (g.2.1.1, 100, .inl fr))] := hD
    refine lv_iconst (v := 1) hx hb dX1_take_20 (by decide) ?_
    exact kretz hx hb hRt hlk hK hP hD hS rfl dX1_take_21 (Or.inr rfl) (⟨by rw [decide_eq_true c_5]; rfl, by rw [if_pos c_5]⟩)
  · skip
    refine lv_iconst (v := 0) hx hb dX1_take_8 (by decide) ?_
    exact kretz hx hb hRt hlk hK hP hD hS rfl dX1_take_9 (Or.inl rfl) (⟨by rw [decide_eq_false c_5]; rfl, by rw [if_neg c_5]⟩)
set_option maxRecDepth 20000 in
theorem ggX1_readNumber_X1_letter : GoodIn wsX1_readNumber wsX1_letter := goodIn_ca (goodIn_r _ [7, 2, 8, 9, 10, 11, 12, 16, 17, 18, 19, 20, 21, 22, 23] (by decide +kernel) (by decide +kernel)) (goodIn_sub (fun _ h => List.mem_cons_of_mem _ (List.mem_append_right _ h)) (by decide +kernel))
set_option maxRecDepth 20000 in
theorem gX1_readNumber_X1_letter : GoodIn wsX1_readNumber (wsV RX1 65 RX1 yX1_letter wsX1_letter) := goodIn_app (goodIn_of _ (by decide +kernel)) ggX1_readNumber_X1_letter
set_option maxRecDepth 20000 in
theorem ggX1_readNumber_X1_isDigit : GoodIn wsX1_readNumber wsX1_isDigit := goodIn_r _ [15] (by decide +kernel) (by decide +kernel)
set_option maxRecDepth 20000 in
theorem gX1_readNumber_X1_isDigit : GoodIn wsX1_readNumber (va_wsS RX1 69 yX1_isDigit wsX1_isDigit) := goodIn_app (goodIn_of _ (by decide +kernel)) ggX1_readNumber_X1_isDigit
theorem dX1_readNumber_0 : decode cX1_readNumber 0 = .ok (.aload_n 0, 1) := by decide +kernel
theorem dX1_readNumber_1 : decode cX1_readNumber 1 = .ok (.iconst 0, 1) := by decide +kernel
theorem dX1_readNumber_2 : decode cX1_readNumber 2 = .ok (.putfield 59, 3) := by decide +kernel
theorem dX1_readNumber_5 : decode cX1_readNumber 5 = .ok (.iconst 0, 1) := by decide +kernel
theorem dX1_readNumber_6 : decode cX1_readNumber 6 = .ok (.istore_n 1, 1) := by decide +kernel
theorem dX1_readNumber_7 : decode cX1_readNumber 7 = .ok (.iload_n 1, 1) := by decide +kernel
theorem dX1_readNumber_8 : decode cX1_readNumber 8 = .ok (.iconst 4, 1) := by decide +kernel
theorem dX1_readNumber_9 : decode cX1_readNumber 9 = .ok (.if_icmp .ge 48, 3) := by decide +kernel
theorem dX1_readNumber_12 : decode cX1_readNumber 12 = .ok (.aload_n 0, 1) := by decide +kernel
theorem dX1_readNumber_13 : decode cX1_readNumber 13 = .ok (.invokevirtual 65, 3) := by decide +kernel
theorem dX1_readNumber_16 : decode cX1_readNumber 16 = .ok (.invokestatic 69, 3) := by decide +kernel
theorem dX1_readNumber_19 : decode cX1_readNumber 19 = .ok (.ifCond .eq 38, 3) := by decide +kernel
theorem dX1_readNumber_22 : decode cX1_readNumber 22 = .ok (.aload_n 0, 1) := by decide +kernel
theorem dX1_readNumber_23 : decode cX1_readNumber 23 = .ok (.aload_n 0, 1) := by decide +kernel
theorem dX1_readNumber_24 : decode cX1_readNumber 24 = .ok (.getfield 59, 3) := by decide +kernel
theorem dX1_readNumber_27 : decode cX1_readNumber 27 = .ok (.bipush 10, 2) := by decide +kernel
theorem dX1_readNumber_29 : decode cX1_readNumber 29 = .ok (.imul, 1) := by decide +kernel
theorem dX1_readNumber_30 : decode cX1_readNumber 30 = .ok (.aload_n 0, 1) := by decide +kernel
theorem dX1_readNumber_31 : decode cX1_readNumber 31 = .ok (.invokevirtual 65, 3) := by decide +kernel
theorem dX1_readNumber_34 : decode cX1_readNumber 34 = .ok (.iadd, 1) := by decide +kernel
theorem dX1_readNumber_35 : decode cX1_readNumber 35 = .ok (.bipush 48, 2) := by decide +kernel
theorem dX1_readNumber_37 : decode cX1_readNumber 37 = .ok (.isub, 1) := by decide +kernel
theorem dX1_readNumber_38 : decode cX1_readNumber 38 = .ok (.putfield 59, 3) := by decide +kernel
theorem dX1_readNumber_41 : decode cX1_readNumber 41 = .ok (.iinc 1 1, 3) := by decide +kernel
theorem dX1_readNumber_44 : decode cX1_readNumber 44 = .ok (.aload_n 0, 1) := by decide +kernel
theorem dX1_readNumber_45 : decode cX1_readNumber 45 = .ok (.dup, 1) := by decide +kernel
theorem dX1_readNumber_46 : decode cX1_readNumber 46 = .ok (.getfield 42, 3) := by decide +kernel
theorem dX1_readNumber_49 : decode cX1_readNumber 49 = .ok (.iconst 1, 1) := by decide +kernel
theorem dX1_readNumber_50 : decode cX1_readNumber 50 = .ok (.iadd, 1) := by decide +kernel
theorem dX1_readNumber_51 : decode cX1_readNumber 51 = .ok (.putfield 42, 3) := by decide +kernel
theorem dX1_readNumber_54 : decode cX1_readNumber 54 = .ok (.goto (-47), 3) := by decide +kernel
theorem dX1_readNumber_57 : decode cX1_readNumber 57 = .ok (.iload_n 1, 1) := by decide +kernel
theorem dX1_readNumber_58 : decode cX1_readNumber 58 = .ok (.ifCond .le 7, 3) := by decide +kernel
theorem dX1_readNumber_61 : decode cX1_readNumber 61 = .ok (.iconst 1, 1) := by decide +kernel
theorem dX1_readNumber_62 : decode cX1_readNumber 62 = .ok (.goto 4, 3) := by decide +kernel
theorem dX1_readNumber_65 : decode cX1_readNumber 65 = .ok (.iconst 0, 1) := by decide +kernel
theorem dX1_readNumber_66 : decode cX1_readNumber 66 = .ok (.ireturn, 1) := by decide +kernel
def rm_X1_readNumber : Room := { frames := 2, cells := 0, slots := 0, locals := 41 }
abbrev p_X1_readNumber (g : kG) (h : Nat) (q1 : Nat) (q2 : Nat) (q3 : Nat) (q4 : Nat) (n : Nat) (T : Nat → Int32) (fk : Nat → Int32) (fv : Nat → Int32) (fr : Nat → Int32) (ne : Nat) (i : Nat) (v : Int32) : Int32 → va_W → Prop := fun r w1 => r = kbool (decide (¬ (rn T n 4 i 0).1 = i)) ∧ w1 = [(h, .inr (3, [.ref q1, .int (nI n), .ref q2, .ref q3, .ref q4, .int (nI ne), .int (nI (rn T n 4 i 0).1), .int ((rn T n 4 i 0).2)])), (q1, .inl (g.2.1.1, 100, .inl T)), (q2, .inl (g.2.1.1, 100, .inl fk)), (q3, .inl (g.2.1.1, 100, .inl fv)), (q4, .inl (g.2.1.1, 100, .inl fr))]
set_option maxHeartbeats 4000000 in
set_option maxRecDepth 100000 in
theorem c_X1_readNumber (l : Launch) (g : kG) (h : Nat) (q1 : Nat) (q2 : Nat) (q3 : Nat) (q4 : Nat) (n : Nat) (T : Nat → Int32) (fk : Nat → Int32) (fv : Nat → Int32) (fr : Nat → Int32) (ne : Nat) (i : Nat) (v : Int32) (hn : n ≤ 100) (hi : i ≤ n) : KI l yX1_readNumber wsX1_readNumber rm_X1_readNumber g [.ref h] [(h, .inr (3, [.ref q1, .int (nI n), .ref q2, .ref q3, .ref q4, .int (nI ne), .int (nI i), .int v])), (q1, .inl (g.2.1.1, 100, .inl T)), (q2, .inl (g.2.1.1, 100, .inl fk)), (q3, .inl (g.2.1.1, 100, .inl fv)), (q4, .inl (g.2.1.1, 100, .inl fr))] (p_X1_readNumber g h q1 q2 q3 q4 n T fk fv fr ne i v) := by
  refine kbodyI (cc := cX1_readNumber) (n := 2) (k := 5) (own := RX1) (plainFor_of_name (by decide)) rfl rfl rfl rfl ?_
  intro p e s m below meth cd A ls hcx
  obtain ⟨hx, hb, hRt, hml, hts, hown, hlk, hA, hP, hK, hD, hE, hS, hl⟩ := hcx
  have hl : lv_has ls 2 [(0, .ref h)] := hl
  refine lv_aload_n hx hb dX1_readNumber_0 rfl (lv_at hl 0 rfl) ?_
  refine lv_iconst (v := 0) hx hb dX1_readNumber_1 (by decide) ?_
  refine va_put (D := g.1) (ci := 3) (v := .int 0) (ty := .int) (C := RX1) (T := TX1) (N := 8) hx hb hts (by decide +kernel) tyX1 tyX1_ok nmX1 hown hK hP hD hS 0 rfl rfl 7 (by decide) (hts (.fieldLink RX1 59 "LearnedIndex$Input" "number" "I") (by decide +kernel)) (fun _ h9 => h9) rfl (by decide +kernel) rfl rfl (Nat.le_of_ble_eq_true rfl) dX1_readNumber_2 (fun H locs hP hD hS => ?_)
  have hP : va_P g.1 vwCl [(h, .inr (3, [.ref q1, .int (nI n), .ref q2, .ref q3, .ref q4, .int (nI ne), .int (nI i), .int 0])), (q1, .inl (g.2.1.1, 100, .inl T)), (q2, .inl (g.2.1.1, 100, .inl fk)), (q3, .inl (g.2.1.1, 100, .inl fv)), (q4, .inl (g.2.1.1, 100, .inl fr))] H := hP
  have hD : va_D A [(h, .inr (3, [.ref q1, .int (nI n), .ref q2, .ref q3, .ref q4, .int (nI ne), .int (nI i), .int 0])), (q1, .inl (g.2.1.1, 100, .inl T)), (q2, .inl (g.2.1.1, 100, .inl fk)), (q3, .inl (g.2.1.1, 100, .inl fv)), (q4, .inl (g.2.1.1, 100, .inl fr))] := hD
  refine lv_iconst (v := 0) hx hb dX1_readNumber_5 (by decide) ?_
  refine lv_istore_n (lv' := [(1, .int 0), (0, .ref h)]) hx hb dX1_readNumber_6 rfl hl (by decide) rfl (fun ls hl => ?_)
  have L7 : ∀ (n9 : Nat) (dgt : Nat) (j : Nat) (x : Int32) (H : Heap) (locs : List Loc) (ls : Array Slot), (dgt ≤ 4 ∧ j = i + dgt) → (i ≤ j ∧ j ≤ n) → (rn T n (4 - dgt) j x = rn T n 4 i 0) → 4 - dgt < n9 → va_P g.1 vwCl [(h, .inr (3, [.ref q1, .int (nI n), .ref q2, .ref q3, .ref q4, .int (nI ne), .int (nI j), .int x])), (q1, .inl (g.2.1.1, 100, .inl T)), (q2, .inl (g.2.1.1, 100, .inl fk)), (q3, .inl (g.2.1.1, 100, .inl fv)), (q4, .inl (g.2.1.1, 100, .inl fr))] H → va_D A [(h, .inr (3, [.ref q1, .int (nI n), .ref q2, .ref q3, .ref q4, .int (nI ne), .int (nI j), .int x])), (q1, .inl (g.2.1.1, 100, .inl T)), (q2, .inl (g.2.1.1, 100, .inl fk)), (q3, .inl (g.2.1.1, 100, .inl fv)), (q4, .inl (g.2.1.1, 100, .inl fr))] → va_S A s.heap H locs → lv_has ls 2 [(1, .int (nI dgt)), (0, .ref h)] → W p l e rm_X1_readNumber s m ([.ref h] : List Value).toArray below meth cd H locs 0 0 (kQi g 5 A (p_X1_readNumber g h q1 q2 q3 q4 n T fk fv fr ne i v) below ([.ref h] : List Value).toArray s) (F0 m 7 ls []) := by
    intro n9
    induction n9 with
    | zero => intro dgt j x H locs ls hd hj hr4 h9; exact absurd h9 (Nat.not_lt_zero _)
    | succ n9 ih7 =>
      intro dgt j x H locs ls hd hj hr4 hn7 hP hD hS hl
      refine lv_iload_n hx hb dX1_readNumber_7 rfl (lv_at hl 0 rfl) ?_
      refine lv_iconst (v := 4) hx hb dX1_readNumber_8 (by decide) ?_
      refine lv_icmp_ge (tgt := 57) hx hb dX1_readNumber_9 (by decide) (fun c_9 => ?_) (fun c_9 => ?_)
      · skip
        have hd4 : 4 ≤ dgt := by rw [show (4 : Int32) = nI 4 from rfl, nI_leI (by decide) (by omega)] at c_9; exact c_9
        have hres : rn T n 4 i 0 = (j, x) := by rw [← hr4, show 4 - dgt = 0 by omega]; rfl
        refine lv_iload_n hx hb dX1_readNumber_57 rfl (lv_at hl 0 rfl) ?_
        refine lv_if_le (tgt := 65) hx hb dX1_readNumber_58 (by decide) (fun c_58 => ?_) (fun c_58 => ?_)
        · skip
          have hd0 : dgt = 0 := by rw [show (0 : Int32) = nI 0 from rfl, nI_leI (by omega) (by decide)] at c_58; omega
          refine lv_iconst (v := 0) hx hb dX1_readNumber_65 (by decide) ?_
          exact kretz hx hb hRt hlk hK hP hD hS rfl dX1_readNumber_66 (by decide) (⟨by rw [hres, decide_eq_false (fun z => z (by omega))]; rfl, by rw [hres]⟩)
        · skip
          have hd0 : 0 < dgt := Nat.pos_of_ne_zero (fun z => c_58 (by rw [z]; decide))
          refine lv_iconst (v := 1) hx hb dX1_readNumber_61 (by decide) ?_
          refine lv_goto (tgt := 66) hx hb dX1_readNumber_62 (by decide) ?_
          exact kretz hx hb hRt hlk hK hP hD hS rfl dX1_readNumber_66 (by decide) (⟨by rw [hres, decide_eq_true (show ¬ j = i by omega)]; rfl, by rw [hres]⟩)
      · skip
        have hd4 : dgt < 4 := by rw [show (4 : Int32) = nI 4 from rfl, nI_leI (by decide) (by omega)] at c_9; omega
        rw [show 4 - dgt = (3 - dgt) + 1 by omega] at hr4
        rw [rn] at hr4
        refine lv_aload_n hx hb dX1_readNumber_12 rfl (lv_at hl 1 rfl) ?_
        refine kcalli (wc := [(h, .inr (3, [.ref q1, .int (nI n), .ref q2, .ref q3, .ref q4, .int (nI ne), .int (nI j), .int x])), (q1, .inl (g.2.1.1, 100, .inl T)), (q2, .inl (g.2.1.1, 100, .inl fk)), (q3, .inl (g.2.1.1, 100, .inl fv)), (q4, .inl (g.2.1.1, 100, .inl fr))]) [0, 1, 2, 3, 4] (va_runV (C := RX1) (As := []) (rest := []) ⟨hx, hb, hml, hown, hts⟩ ((c_X1_letter l g h q1 q2 q3 q4 n T fk fv fr ne j x hn hj.2) _) (cwV 0 hts gX1_readNumber_X1_letter rfl rfl rfl (by decide +kernel) ⟨Nat.le_of_ble_eq_true rfl, Nat.le_of_ble_eq_true rfl⟩) (kpreV (wc := [(h, .inr (3, [.ref q1, .int (nI n), .ref q2, .ref q3, .ref q4, .int (nI ne), .int (nI j), .int x])), (q1, .inl (g.2.1.1, 100, .inl T)), (q2, .inl (g.2.1.1, 100, .inl fk)), (q3, .inl (g.2.1.1, 100, .inl fv)), (q4, .inl (g.2.1.1, 100, .inl fr))]) (ci := 3) hK hP hD hS hA hE [0, 1, 2, 3, 4] rfl rfl rfl rfl) rfl rfl hl.1 rfl (lv_room (Nat.le_of_ble_eq_true rfl)) dX1_readNumber_13 ⟨Nat.zero_le _, Nat.zero_le _⟩) hP hD hS hA rfl (fun r_1 w_1 H locs hp hP hD hS => ?_)
        obtain ⟨rfl, rfl⟩ := hp
        have hP : va_P g.1 vwCl [(h, .inr (3, [.ref q1, .int (nI n), .ref q2, .ref q3, .ref q4, .int (nI ne), .int (nI j), .int x])), (q1, .inl (g.2.1.1, 100, .inl T)), (q2, .inl (g.2.1.1, 100, .inl fk)), (q3, .inl (g.2.1.1, 100, .inl fv)), (q4, .inl (g.2.1.1, 100, .inl fr))] H := hP
        have hD : va_D A [(h, .inr (3, [.ref q1, .int (nI n), .ref q2, .ref q3, .ref q4, .int (nI ne), .int (nI j), .int x])), (q1, .inl (g.2.1.1, 100, .inl T)), (q2, .inl (g.2.1.1, 100, .inl fk)), (q3, .inl (g.2.1.1, 100, .inl fv)), (q4, .inl (g.2.1.1, 100, .inl fr))] := hD
        refine kcalli (wc := []) [] (va_runS (As := [.int (ch T n j)]) (rest := []) ⟨hx, hb, hml, hown, hts⟩ ((c_X1_isDigit l g (ch T n j)) _) (va_cwS 1 hts gX1_readNumber_X1_isDigit rfl rfl rfl (by decide +kernel) ⟨Nat.le_of_ble_eq_true rfl, Nat.le_of_ble_eq_true rfl⟩) (kpreS (wc := []) hK hP hD hS hA hE [] rfl rfl) rfl rfl hl.1 rfl (lv_room (Nat.le_of_ble_eq_true rfl)) dX1_readNumber_16 ⟨Nat.zero_le _, Nat.zero_le _⟩) hP hD hS hA rfl (fun r_2 w_2 H locs hp hP hD hS => ?_)
        obtain ⟨rfl, rfl⟩ := hp
        have hP : va_P g.1 vwCl [(h, .inr (3, [.ref q1, .int (nI n), .ref q2, .ref q3, .ref q4, .int (nI ne), .int (nI j), .int x])), (q1, .inl (g.2.1.1, 100, .inl T)), (q2, .inl (g.2.1.1, 100, .inl fk)), (q3, .inl (g.2.1.1, 100, .inl fv)), (q4, .inl (g.2.1.1, 100, .inl fr))] H := hP
        have hD : va_D A [(h, .inr (3, [.ref q1, .int (nI n), .ref q2, .ref q3, .ref q4, .int (nI ne), .int (nI j), .int x])), (q1, .inl (g.2.1.1, 100, .inl T)), (q2, .inl (g.2.1.1, 100, .inl fk)), (q3, .inl (g.2.1.1, 100, .inl fv)), (q4, .inl (g.2.1.1, 100, .inl fr))] := hD
        refine lv_if_eq (tgt := 57) hx hb dX1_readNumber_19 (by decide) (fun c_19 => ?_) (fun c_19 => ?_)
        · skip
          rw [if_pos c_19] at hr4
          have hres : rn T n 4 i 0 = (j, x) := hr4.symm
          refine lv_iload_n hx hb dX1_readNumber_57 rfl (lv_at hl 0 rfl) ?_
          refine lv_if_le (tgt := 65) hx hb dX1_readNumber_58 (by decide) (fun c_58 => ?_) (fun c_58 => ?_)
          · skip
            have hd0 : dgt = 0 := by rw [show (0 : Int32) = nI 0 from rfl, nI_leI (by omega) (by decide)] at c_58; omega
            refine lv_iconst (v := 0) hx hb dX1_readNumber_65 (by decide) ?_
            exact kretz hx hb hRt hlk hK hP hD hS rfl dX1_readNumber_66 (by decide) (⟨by rw [hres, decide_eq_false (fun z => z (by omega))]; rfl, by rw [hres]⟩)
          · skip
            have hd0 : 0 < dgt := Nat.pos_of_ne_zero (fun z => c_58 (by rw [z]; decide))
            refine lv_iconst (v := 1) hx hb dX1_readNumber_61 (by decide) ?_
            refine lv_goto (tgt := 66) hx hb dX1_readNumber_62 (by decide) ?_
            exact kretz hx hb hRt hlk hK hP hD hS rfl dX1_readNumber_66 (by decide) (⟨by rw [hres, decide_eq_true (show ¬ j = i by omega)]; rfl, by rw [hres]⟩)
        · skip
          rw [if_neg c_19] at hr4
          have hjn := ch_in c_19
          refine lv_aload_n hx hb dX1_readNumber_22 rfl (lv_at hl 1 rfl) ?_
          refine lv_aload_n hx hb dX1_readNumber_23 rfl (lv_at hl 1 rfl) ?_
          refine va_get (D := g.1) (ci := 3) (v := .int x) (C := RX1) (T := TX1) (N := 8) hx hb hts (by decide +kernel) hown hK hP 0 rfl rfl 7 (by decide) (hts (.fieldLink RX1 59 "LearnedIndex$Input" "number" "I") (by decide +kernel)) (fun _ h9 => h9) rfl dX1_readNumber_24 ?_
          refine lv_bipush (v := 10) hx hb dX1_readNumber_27 (by decide) ?_
          refine lv_imul hx hb dX1_readNumber_29 ?_
          refine lv_aload_n hx hb dX1_readNumber_30 rfl (lv_at hl 1 rfl) ?_
          refine kcalli (wc := [(h, .inr (3, [.ref q1, .int (nI n), .ref q2, .ref q3, .ref q4, .int (nI ne), .int (nI j), .int x])), (q1, .inl (g.2.1.1, 100, .inl T)), (q2, .inl (g.2.1.1, 100, .inl fk)), (q3, .inl (g.2.1.1, 100, .inl fv)), (q4, .inl (g.2.1.1, 100, .inl fr))]) [0, 1, 2, 3, 4] (va_runV (C := RX1) (As := []) (rest := [.int (x * 10), .ref h]) ⟨hx, hb, hml, hown, hts⟩ ((c_X1_letter l g h q1 q2 q3 q4 n T fk fv fr ne j x hn hj.2) _) (cwV 0 hts gX1_readNumber_X1_letter rfl rfl rfl (by decide +kernel) ⟨Nat.le_of_ble_eq_true rfl, Nat.le_of_ble_eq_true rfl⟩) (kpreV (wc := [(h, .inr (3, [.ref q1, .int (nI n), .ref q2, .ref q3, .ref q4, .int (nI ne), .int (nI j), .int x])), (q1, .inl (g.2.1.1, 100, .inl T)), (q2, .inl (g.2.1.1, 100, .inl fk)), (q3, .inl (g.2.1.1, 100, .inl fv)), (q4, .inl (g.2.1.1, 100, .inl fr))]) (ci := 3) hK hP hD hS hA hE [0, 1, 2, 3, 4] rfl rfl rfl rfl) rfl rfl hl.1 rfl (lv_room (Nat.le_of_ble_eq_true rfl)) dX1_readNumber_31 ⟨Nat.zero_le _, Nat.zero_le _⟩) hP hD hS hA rfl (fun r_3 w_3 H locs hp hP hD hS => ?_)
          obtain ⟨rfl, rfl⟩ := hp
          have hP : va_P g.1 vwCl [(h, .inr (3, [.ref q1, .int (nI n), .ref q2, .ref q3, .ref q4, .int (nI ne), .int (nI j), .int x])), (q1, .inl (g.2.1.1, 100, .inl T)), (q2, .inl (g.2.1.1, 100, .inl fk)), (q3, .inl (g.2.1.1, 100, .inl fv)), (q4, .inl (g.2.1.1, 100, .inl fr))] H := hP
          have hD : va_D A [(h, .inr (3, [.ref q1, .int (nI n), .ref q2, .ref q3, .ref q4, .int (nI ne), .int (nI j), .int x])), (q1, .inl (g.2.1.1, 100, .inl T)), (q2, .inl (g.2.1.1, 100, .inl fk)), (q3, .inl (g.2.1.1, 100, .inl fv)), (q4, .inl (g.2.1.1, 100, .inl fr))] := hD
          refine lv_iadd hx hb dX1_readNumber_34 ?_
          refine lv_bipush (v := 48) hx hb dX1_readNumber_35 (by decide) ?_
          refine lv_isub hx hb dX1_readNumber_37 ?_
          refine va_put (D := g.1) (ci := 3) (v := .int (((x * 10) + (ch T n j)) - 48)) (ty := .int) (C := RX1) (T := TX1) (N := 8) hx hb hts (by decide +kernel) tyX1 tyX1_ok nmX1 hown hK hP hD hS 0 rfl rfl 7 (by decide) (hts (.fieldLink RX1 59 "LearnedIndex$Input" "number" "I") (by decide +kernel)) (fun _ h9 => h9) rfl (by decide +kernel) rfl rfl (Nat.le_of_ble_eq_true rfl) dX1_readNumber_38 (fun H locs hP hD hS => ?_)
          have hP : va_P g.1 vwCl [(h, .inr (3, [.ref q1, .int (nI n), .ref q2, .ref q3, .ref q4, .int (nI ne), .int (nI j), .int (((x * 10) + (ch T n j)) - 48)])), (q1, .inl (g.2.1.1, 100, .inl T)), (q2, .inl (g.2.1.1, 100, .inl fk)), (q3, .inl (g.2.1.1, 100, .inl fv)), (q4, .inl (g.2.1.1, 100, .inl fr))] H := hP
          have hD : va_D A [(h, .inr (3, [.ref q1, .int (nI n), .ref q2, .ref q3, .ref q4, .int (nI ne), .int (nI j), .int (((x * 10) + (ch T n j)) - 48)])), (q1, .inl (g.2.1.1, 100, .inl T)), (q2, .inl (g.2.1.1, 100, .inl fk)), (q3, .inl (g.2.1.1, 100, .inl fv)), (q4, .inl (g.2.1.1, 100, .inl fr))] := hD
          refine lv_iinc (v := nI (dgt + 1)) (lv' := [(1, .int (nI (dgt + 1))), (0, .ref h)]) hx hb dX1_readNumber_41 hl (k := 0) rfl (nI_1 dgt) (by decide) rfl (fun ls hl => ?_)
          refine lv_aload_n hx hb dX1_readNumber_44 rfl (lv_at hl 1 rfl) ?_
          refine lv_dup hx hb dX1_readNumber_45 rfl ?_
          refine va_get (D := g.1) (ci := 3) (v := .int (nI j)) (C := RX1) (T := TX1) (N := 8) hx hb hts (by decide +kernel) hown hK hP 0 rfl rfl 6 (by decide) (hts (.fieldLink RX1 42 "LearnedIndex$Input" "at" "I") (by decide +kernel)) (fun _ h9 => h9) rfl dX1_readNumber_46 ?_
          refine lv_iconst (v := 1) hx hb dX1_readNumber_49 (by decide) ?_
          refine lv_iadd hx hb dX1_readNumber_50 ?_
          rw [show ((nI j) + 1 : Int32) = nI (j + 1) from nI_1 _]
          refine va_put (D := g.1) (ci := 3) (v := .int (nI (j + 1))) (ty := .int) (C := RX1) (T := TX1) (N := 8) hx hb hts (by decide +kernel) tyX1 tyX1_ok nmX1 hown hK hP hD hS 0 rfl rfl 6 (by decide) (hts (.fieldLink RX1 42 "LearnedIndex$Input" "at" "I") (by decide +kernel)) (fun _ h9 => h9) rfl (by decide +kernel) rfl rfl (Nat.le_of_ble_eq_true rfl) dX1_readNumber_51 (fun H locs hP hD hS => ?_)
          have hP : va_P g.1 vwCl [(h, .inr (3, [.ref q1, .int (nI n), .ref q2, .ref q3, .ref q4, .int (nI ne), .int (nI (j + 1)), .int (((x * 10) + (ch T n j)) - 48)])), (q1, .inl (g.2.1.1, 100, .inl T)), (q2, .inl (g.2.1.1, 100, .inl fk)), (q3, .inl (g.2.1.1, 100, .inl fv)), (q4, .inl (g.2.1.1, 100, .inl fr))] H := hP
          have hD : va_D A [(h, .inr (3, [.ref q1, .int (nI n), .ref q2, .ref q3, .ref q4, .int (nI ne), .int (nI (j + 1)), .int (((x * 10) + (ch T n j)) - 48)])), (q1, .inl (g.2.1.1, 100, .inl T)), (q2, .inl (g.2.1.1, 100, .inl fk)), (q3, .inl (g.2.1.1, 100, .inl fv)), (q4, .inl (g.2.1.1, 100, .inl fr))] := hD
          refine lv_goto (tgt := 7) hx hb dX1_readNumber_54 (by decide) ?_
          exact ih7 (dgt + 1) (j + 1) (((x * 10) + (ch T n j)) - 48) _ _ ls (⟨by omega, by omega⟩) (⟨by omega, by omega⟩) (by rw [show 4 - (dgt + 1) = 3 - dgt by omega]; exact hr4) (by omega) hP hD hS (lv_sub hl [0, 1] rfl)
  exact L7 _ 0 i 0 _ _ ls (⟨by omega, rfl⟩) (⟨Nat.le_refl _, hi⟩) rfl (Nat.lt_succ_self _) hP hD hS (lv_sub hl [0, 1] rfl)
set_option maxRecDepth 20000 in
theorem ggX1_readValue_X1_take : GoodIn wsX1_readValue wsX1_take := goodIn_ca (goodIn_r _ [6, 7, 8, 9, 10, 5, 11, 12, 13, 14, 15, 16, 24, 25, 26, 27, 28, 29, 30, 31] (by decide +kernel) (by decide +kernel)) (goodIn_sub (fun _ h => List.mem_cons_of_mem _ (List.mem_append_right _ h)) (by decide +kernel))
set_option maxRecDepth 20000 in
theorem gX1_readValue_X1_take : GoodIn wsX1_readValue (wsV RX1 52 RX1 yX1_take wsX1_take) := goodIn_app (goodIn_of _ (by decide +kernel)) ggX1_readValue_X1_take
set_option maxRecDepth 20000 in
theorem ggX1_readValue_X1_readNumber : GoodIn wsX1_readValue wsX1_readNumber := goodIn_ca (goodIn_r _ [20, 1, 7, 8, 9, 10, 5, 11, 12, 13, 14, 15, 16, 21, 22, 23, 24, 25, 26, 27, 28, 29, 30, 31] (by decide +kernel) (by decide +kernel)) (goodIn_sub (fun _ h => List.mem_cons_of_mem _ (List.mem_append_right _ h)) (by decide +kernel))
set_option maxRecDepth 20000 in
theorem gX1_readValue_X1_readNumber : GoodIn wsX1_readValue (wsV RX1 56 RX1 yX1_readNumber wsX1_readNumber) := goodIn_app (goodIn_of _ (by decide +kernel)) ggX1_readValue_X1_readNumber
theorem dX1_readValue_0 : decode cX1_readValue 0 = .ok (.aload_n 0, 1) := by decide +kernel
theorem dX1_readValue_1 : decode cX1_readValue 1 = .ok (.bipush 61, 2) := by decide +kernel
theorem dX1_readValue_3 : decode cX1_readValue 3 = .ok (.invokevirtual 52, 3) := by decide +kernel
theorem dX1_readValue_6 : decode cX1_readValue 6 = .ok (.ifCond .ne 5, 3) := by decide +kernel
theorem dX1_readValue_9 : decode cX1_readValue 9 = .ok (.iconst 0, 1) := by decide +kernel
theorem dX1_readValue_10 : decode cX1_readValue 10 = .ok (.ireturn, 1) := by decide +kernel
theorem dX1_readValue_11 : decode cX1_readValue 11 = .ok (.aload_n 0, 1) := by decide +kernel
theorem dX1_readValue_12 : decode cX1_readValue 12 = .ok (.bipush 45, 2) := by decide +kernel
theorem dX1_readValue_14 : decode cX1_readValue 14 = .ok (.invokevirtual 52, 3) := by decide +kernel
theorem dX1_readValue_17 : decode cX1_readValue 17 = .ok (.istore_n 1, 1) := by decide +kernel
theorem dX1_readValue_18 : decode cX1_readValue 18 = .ok (.aload_n 0, 1) := by decide +kernel
theorem dX1_readValue_19 : decode cX1_readValue 19 = .ok (.invokevirtual 56, 3) := by decide +kernel
theorem dX1_readValue_22 : decode cX1_readValue 22 = .ok (.ifCond .ne 5, 3) := by decide +kernel
theorem dX1_readValue_25 : decode cX1_readValue 25 = .ok (.iconst 0, 1) := by decide +kernel
theorem dX1_readValue_26 : decode cX1_readValue 26 = .ok (.ireturn, 1) := by decide +kernel
theorem dX1_readValue_27 : decode cX1_readValue 27 = .ok (.aload_n 0, 1) := by decide +kernel
theorem dX1_readValue_28 : decode cX1_readValue 28 = .ok (.iload_n 1, 1) := by decide +kernel
theorem dX1_readValue_29 : decode cX1_readValue 29 = .ok (.ifCond .eq 11, 3) := by decide +kernel
theorem dX1_readValue_32 : decode cX1_readValue 32 = .ok (.aload_n 0, 1) := by decide +kernel
theorem dX1_readValue_33 : decode cX1_readValue 33 = .ok (.getfield 59, 3) := by decide +kernel
theorem dX1_readValue_36 : decode cX1_readValue 36 = .ok (.ineg, 1) := by decide +kernel
theorem dX1_readValue_37 : decode cX1_readValue 37 = .ok (.goto 7, 3) := by decide +kernel
theorem dX1_readValue_40 : decode cX1_readValue 40 = .ok (.aload_n 0, 1) := by decide +kernel
theorem dX1_readValue_41 : decode cX1_readValue 41 = .ok (.getfield 59, 3) := by decide +kernel
theorem dX1_readValue_44 : decode cX1_readValue 44 = .ok (.putfield 59, 3) := by decide +kernel
theorem dX1_readValue_47 : decode cX1_readValue 47 = .ok (.iconst 1, 1) := by decide +kernel
theorem dX1_readValue_48 : decode cX1_readValue 48 = .ok (.ireturn, 1) := by decide +kernel
def rm_X1_readValue : Room := { frames := 3, cells := 0, slots := 0, locals := 62 }
abbrev p_X1_readValue (g : kG) (h : Nat) (q1 : Nat) (q2 : Nat) (q3 : Nat) (q4 : Nat) (n : Nat) (T : Nat → Int32) (fk : Nat → Int32) (fv : Nat → Int32) (fr : Nat → Int32) (ne : Nat) (i : Nat) (v : Int32) : Int32 → va_W → Prop := fun r w1 => ∃ (j : Nat), ∃ (v2 : Int32), ((rV T n i = (j, none) ∧ r = 0) ∨ (rV T n i = (j, some v2) ∧ r = 1)) ∧ w1 = [(h, .inr (3, [.ref q1, .int (nI n), .ref q2, .ref q3, .ref q4, .int (nI ne), .int (nI j), .int v2])), (q1, .inl (g.2.1.1, 100, .inl T)), (q2, .inl (g.2.1.1, 100, .inl fk)), (q3, .inl (g.2.1.1, 100, .inl fv)), (q4, .inl (g.2.1.1, 100, .inl fr))]
set_option maxHeartbeats 4000000 in
set_option maxRecDepth 100000 in
theorem c_X1_readValue (l : Launch) (g : kG) (h : Nat) (q1 : Nat) (q2 : Nat) (q3 : Nat) (q4 : Nat) (n : Nat) (T : Nat → Int32) (fk : Nat → Int32) (fv : Nat → Int32) (fr : Nat → Int32) (ne : Nat) (i : Nat) (v : Int32) (hn : n ≤ 100) (hi : i ≤ n) : KI l yX1_readValue wsX1_readValue rm_X1_readValue g [.ref h] [(h, .inr (3, [.ref q1, .int (nI n), .ref q2, .ref q3, .ref q4, .int (nI ne), .int (nI i), .int v])), (q1, .inl (g.2.1.1, 100, .inl T)), (q2, .inl (g.2.1.1, 100, .inl fk)), (q3, .inl (g.2.1.1, 100, .inl fv)), (q4, .inl (g.2.1.1, 100, .inl fr))] (p_X1_readValue g h q1 q2 q3 q4 n T fk fv fr ne i v) := by
  refine kbodyI (cc := cX1_readValue) (n := 2) (k := 5) (own := RX1) (plainFor_of_name (by decide)) rfl rfl rfl rfl ?_
  intro p e s m below meth cd A ls hcx
  obtain ⟨hx, hb, hRt, hml, hts, hown, hlk, hA, hP, hK, hD, hE, hS, hl⟩ := hcx
  have hl : lv_has ls 2 [(0, .ref h)] := hl
  refine lv_aload_n hx hb dX1_readValue_0 rfl (lv_at hl 0 rfl) ?_
  refine lv_bipush (v := 61) hx hb dX1_readValue_1 (by decide) ?_
  refine kcalli (wc := [(h, .inr (3, [.ref q1, .int (nI n), .ref q2, .ref q3, .ref q4, .int (nI ne), .int (nI i), .int v])), (q1, .inl (g.2.1.1, 100, .inl T)), (q2, .inl (g.2.1.1, 100, .inl fk)), (q3, .inl (g.2.1.1, 100, .inl fv)), (q4, .inl (g.2.1.1, 100, .inl fr))]) [0, 1, 2, 3, 4] (va_runV (C := RX1) (As := [.int 61]) (rest := []) ⟨hx, hb, hml, hown, hts⟩ ((c_X1_take l g h q1 q2 q3 q4 n T fk fv fr ne i v 61 hn hi) _) (cwV 1 hts gX1_readValue_X1_take rfl rfl rfl (by decide +kernel) ⟨Nat.le_of_ble_eq_true rfl, Nat.le_of_ble_eq_true rfl⟩) (kpreV (wc := [(h, .inr (3, [.ref q1, .int (nI n), .ref q2, .ref q3, .ref q4, .int (nI ne), .int (nI i), .int v])), (q1, .inl (g.2.1.1, 100, .inl T)), (q2, .inl (g.2.1.1, 100, .inl fk)), (q3, .inl (g.2.1.1, 100, .inl fv)), (q4, .inl (g.2.1.1, 100, .inl fr))]) (ci := 3) hK hP hD hS hA hE [0, 1, 2, 3, 4] rfl rfl rfl rfl) rfl rfl hl.1 rfl (lv_room (Nat.le_of_ble_eq_true rfl)) dX1_readValue_3 ⟨Nat.zero_le _, Nat.zero_le _⟩) hP hD hS hA rfl (fun r_1 w_1 H locs hp hP hD hS => ?_)
  obtain ⟨rfl, rfl⟩ := hp
  have hP : va_P g.1 vwCl [(h, .inr (3, [.ref q1, .int (nI n), .ref q2, .ref q3, .ref q4, .int (nI ne), .int (nI (if ch T n i = 61 then i + 1 else i)), .int v])), (q1, .inl (g.2.1.1, 100, .inl T)), (q2, .inl (g.2.1.1, 100, .inl fk)), (q3, .inl (g.2.1.1, 100, .inl fv)), (q4, .inl (g.2.1.1, 100, .inl fr))] H := hP
  have hD : va_D A [(h, .inr (3, [.ref q1, .int (nI n), .ref q2, .ref q3, .ref q4, .int (nI ne), .int (nI (if ch T n i = 61 then i + 1 else i)), .int v])), (q1, .inl (g.2.1.1, 100, .inl T)), (q2, .inl (g.2.1.1, 100, .inl fk)), (q3, .inl (g.2.1.1, 100, .inl fv)), (q4, .inl (g.2.1.1, 100, .inl fr))] := hD
  refine lv_if_ne (tgt := 11) hx hb dX1_readValue_6 (by decide) (fun c_6 => ?_) (fun c_6 => ?_)
  · skip
    have f1 : ch T n i = 61 := Decidable.byContradiction (fun z => c_6 (by rw [decide_eq_false z]; rfl))
    have f1n := ch_inw f1 (by decide)
    rw [if_pos f1] at hP hD
    have hP : va_P g.1 vwCl [(h, .inr (3, [.ref q1, .int (nI n), .ref q2, .ref q3, .ref q4, .int (nI ne), .int (nI (i + 1)), .int v])), (q1, .inl (g.2.1.1, 100, .inl T)), (q2, .inl (g.2.1.1, 100, .inl fk)), (q3, .inl (g.2.1.1, 100, .inl fv)), (q4, .inl (g.2.1.1, 100, .inl fr))] H := hP
    have hD : va_D A [(h, .inr (3, [.ref q1, .int (nI n), .ref q2, .ref q3, .ref q4, .int (nI ne), .int (nI (i + 1)), .int v])), (q1, .inl (g.2.1.1, 100, .inl T)), (q2, .inl (g.2.1.1, 100, .inl fk)), (q3, .inl (g.2.1.1, 100, .inl fv)), (q4, .inl (g.2.1.1, 100, .inl fr))] := hD
    refine lv_aload_n hx hb dX1_readValue_11 rfl (lv_at hl 0 rfl) ?_
    refine lv_bipush (v := 45) hx hb dX1_readValue_12 (by decide) ?_
    refine kcalli (wc := [(h, .inr (3, [.ref q1, .int (nI n), .ref q2, .ref q3, .ref q4, .int (nI ne), .int (nI (i + 1)), .int v])), (q1, .inl (g.2.1.1, 100, .inl T)), (q2, .inl (g.2.1.1, 100, .inl fk)), (q3, .inl (g.2.1.1, 100, .inl fv)), (q4, .inl (g.2.1.1, 100, .inl fr))]) [0, 1, 2, 3, 4] (va_runV (C := RX1) (As := [.int 45]) (rest := []) ⟨hx, hb, hml, hown, hts⟩ ((c_X1_take l g h q1 q2 q3 q4 n T fk fv fr ne (i + 1) v 45 hn f1n) _) (cwV 1 hts gX1_readValue_X1_take rfl rfl rfl (by decide +kernel) ⟨Nat.le_of_ble_eq_true rfl, Nat.le_of_ble_eq_true rfl⟩) (kpreV (wc := [(h, .inr (3, [.ref q1, .int (nI n), .ref q2, .ref q3, .ref q4, .int (nI ne), .int (nI (i + 1)), .int v])), (q1, .inl (g.2.1.1, 100, .inl T)), (q2, .inl (g.2.1.1, 100, .inl fk)), (q3, .inl (g.2.1.1, 100, .inl fv)), (q4, .inl (g.2.1.1, 100, .inl fr))]) (ci := 3) hK hP hD hS hA hE [0, 1, 2, 3, 4] rfl rfl rfl rfl) rfl rfl hl.1 rfl (lv_room (Nat.le_of_ble_eq_true rfl)) dX1_readValue_14 ⟨Nat.zero_le _, Nat.zero_le _⟩) hP hD hS hA rfl (fun r_2 w_2 H locs hp hP hD hS => ?_)
    obtain ⟨rfl, rfl⟩ := hp
    have hP : va_P g.1 vwCl [(h, .inr (3, [.ref q1, .int (nI n), .ref q2, .ref q3, .ref q4, .int (nI ne), .int (nI (if ch T n (i + 1) = 45 then (i + 1) + 1 else (i + 1))), .int v])), (q1, .inl (g.2.1.1, 100, .inl T)), (q2, .inl (g.2.1.1, 100, .inl fk)), (q3, .inl (g.2.1.1, 100, .inl fv)), (q4, .inl (g.2.1.1, 100, .inl fr))] H := hP
    have hD : va_D A [(h, .inr (3, [.ref q1, .int (nI n), .ref q2, .ref q3, .ref q4, .int (nI ne), .int (nI (if ch T n (i + 1) = 45 then (i + 1) + 1 else (i + 1))), .int v])), (q1, .inl (g.2.1.1, 100, .inl T)), (q2, .inl (g.2.1.1, 100, .inl fk)), (q3, .inl (g.2.1.1, 100, .inl fv)), (q4, .inl (g.2.1.1, 100, .inl fr))] := hD
    refine lv_istore_n (lv' := [(1, .int (kbool (decide (ch T n (i + 1) = 45)))), (0, .ref h)]) hx hb dX1_readValue_17 rfl hl (by decide) rfl (fun ls hl => ?_)
    have hi2 : i + 1 ≤ (if ch T n (i + 1) = 45 then i + 2 else i + 1) ∧ (if ch T n (i + 1) = 45 then i + 2 else i + 1) ≤ n := by split; (rename_i z; have := ch_inw z (by decide); omega); omega
    rw [show (if ch T n (i + 1) = 45 then i + 1 + 1 else i + 1) = (if ch T n (i + 1) = 45 then i + 2 else i + 1) from rfl] at hP hD
    have hP : va_P g.1 vwCl [(h, .inr (3, [.ref q1, .int (nI n), .ref q2, .ref q3, .ref q4, .int (nI ne), .int (nI (if ch T n (i + 1) = 45 then i + 2 else i + 1)), .int v])), (q1, .inl (g.2.1.1, 100, .inl T)), (q2, .inl (g.2.1.1, 100, .inl fk)), (q3, .inl (g.2.1.1, 100, .inl fv)), (q4, .inl (g.2.1.1, 100, .inl fr))] H := hP
    have hD : va_D A [(h, .inr (3, [.ref q1, .int (nI n), .ref q2, .ref q3, .ref q4, .int (nI ne), .int (nI (if ch T n (i + 1) = 45 then i + 2 else i + 1)), .int v])), (q1, .inl (g.2.1.1, 100, .inl T)), (q2, .inl (g.2.1.1, 100, .inl fk)), (q3, .inl (g.2.1.1, 100, .inl fv)), (q4, .inl (g.2.1.1, 100, .inl fr))] := hD
    refine lv_aload_n hx hb dX1_readValue_18 rfl (lv_at hl 1 rfl) ?_
    refine kcalli (wc := [(h, .inr (3, [.ref q1, .int (nI n), .ref q2, .ref q3, .ref q4, .int (nI ne), .int (nI (if ch T n (i + 1) = 45 then i + 2 else i + 1)), .int v])), (q1, .inl (g.2.1.1, 100, .inl T)), (q2, .inl (g.2.1.1, 100, .inl fk)), (q3, .inl (g.2.1.1, 100, .inl fv)), (q4, .inl (g.2.1.1, 100, .inl fr))]) [0, 1, 2, 3, 4] (va_runV (C := RX1) (As := []) (rest := []) ⟨hx, hb, hml, hown, hts⟩ ((c_X1_readNumber l g h q1 q2 q3 q4 n T fk fv fr ne (if ch T n (i + 1) = 45 then i + 2 else i + 1) v hn hi2.2) _) (cwV 0 hts gX1_readValue_X1_readNumber rfl rfl rfl (by decide +kernel) ⟨Nat.le_of_ble_eq_true rfl, Nat.le_of_ble_eq_true rfl⟩) (kpreV (wc := [(h, .inr (3, [.ref q1, .int (nI n), .ref q2, .ref q3, .ref q4, .int (nI ne), .int (nI (if ch T n (i + 1) = 45 then i + 2 else i + 1)), .int v])), (q1, .inl (g.2.1.1, 100, .inl T)), (q2, .inl (g.2.1.1, 100, .inl fk)), (q3, .inl (g.2.1.1, 100, .inl fv)), (q4, .inl (g.2.1.1, 100, .inl fr))]) (ci := 3) hK hP hD hS hA hE [0, 1, 2, 3, 4] rfl rfl rfl rfl) rfl rfl hl.1 rfl (lv_room (Nat.le_of_ble_eq_true rfl)) dX1_readValue_19 ⟨Nat.zero_le _, Nat.zero_le _⟩) hP hD hS hA rfl (fun r_3 w_3 H locs hp hP hD hS => ?_)
    obtain ⟨rfl, rfl⟩ := hp
    have hP : va_P g.1 vwCl [(h, .inr (3, [.ref q1, .int (nI n), .ref q2, .ref q3, .ref q4, .int (nI ne), .int (nI (rn T n 4 (if ch T n (i + 1) = 45 then i + 2 else i + 1) 0).1), .int ((rn T n 4 (if ch T n (i + 1) = 45 then i + 2 else i + 1) 0).2)])), (q1, .inl (g.2.1.1, 100, .inl T)), (q2, .inl (g.2.1.1, 100, .inl fk)), (q3, .inl (g.2.1.1, 100, .inl fv)), (q4, .inl (g.2.1.1, 100, .inl fr))] H := hP
    have hD : va_D A [(h, .inr (3, [.ref q1, .int (nI n), .ref q2, .ref q3, .ref q4, .int (nI ne), .int (nI (rn T n 4 (if ch T n (i + 1) = 45 then i + 2 else i + 1) 0).1), .int ((rn T n 4 (if ch T n (i + 1) = 45 then i + 2 else i + 1) 0).2)])), (q1, .inl (g.2.1.1, 100, .inl T)), (q2, .inl (g.2.1.1, 100, .inl fk)), (q3, .inl (g.2.1.1, 100, .inl fv)), (q4, .inl (g.2.1.1, 100, .inl fr))] := hD
    refine lv_if_ne (tgt := 27) hx hb dX1_readValue_22 (by decide) (fun c_22 => ?_) (fun c_22 => ?_)
    · skip
      have f2 : ¬ (rn T n 4 (if ch T n (i + 1) = 45 then i + 2 else i + 1) 0).1 = (if ch T n (i + 1) = 45 then i + 2 else i + 1) := fun z => c_22 (by rw [decide_eq_false (fun z2 => z2 z)]; rfl)
      refine lv_aload_n hx hb dX1_readValue_27 rfl (lv_at hl 1 rfl) ?_
      refine lv_iload_n hx hb dX1_readValue_28 rfl (lv_at hl 0 rfl) ?_
      refine lv_if_eq (tgt := 40) hx hb dX1_readValue_29 (by decide) (fun c_29 => ?_) (fun c_29 => ?_)
      · skip
        have f3 : ¬ ch T n (i + 1) = 45 := fun z => absurd c_29 (by rw [decide_eq_true z]; decide)
        refine lv_aload_n hx hb dX1_readValue_40 rfl (lv_at hl 1 rfl) ?_
        refine va_get (D := g.1) (ci := 3) (v := .int ((rn T n 4 (if ch T n (i + 1) = 45 then i + 2 else i + 1) 0).2)) (C := RX1) (T := TX1) (N := 8) hx hb hts (by decide +kernel) hown hK hP 0 rfl rfl 7 (by decide) (hts (.fieldLink RX1 59 "LearnedIndex$Input" "number" "I") (by decide +kernel)) (fun _ h9 => h9) rfl dX1_readValue_41 ?_
        refine va_put (D := g.1) (ci := 3) (v := .int ((rn T n 4 (if ch T n (i + 1) = 45 then i + 2 else i + 1) 0).2)) (ty := .int) (C := RX1) (T := TX1) (N := 8) hx hb hts (by decide +kernel) tyX1 tyX1_ok nmX1 hown hK hP hD hS 0 rfl rfl 7 (by decide) (hts (.fieldLink RX1 59 "LearnedIndex$Input" "number" "I") (by decide +kernel)) (fun _ h9 => h9) rfl (by decide +kernel) rfl rfl (Nat.le_of_ble_eq_true rfl) dX1_readValue_44 (fun H locs hP hD hS => ?_)
        have hP : va_P g.1 vwCl [(h, .inr (3, [.ref q1, .int (nI n), .ref q2, .ref q3, .ref q4, .int (nI ne), .int (nI (rn T n 4 (if ch T n (i + 1) = 45 then i + 2 else i + 1) 0).1), .int ((rn T n 4 (if ch T n (i + 1) = 45 then i + 2 else i + 1) 0).2)])), (q1, .inl (g.2.1.1, 100, .inl T)), (q2, .inl (g.2.1.1, 100, .inl fk)), (q3, .inl (g.2.1.1, 100, .inl fv)), (q4, .inl (g.2.1.1, 100, .inl fr))] H := hP
        have hD : va_D A [(h, .inr (3, [.ref q1, .int (nI n), .ref q2, .ref q3, .ref q4, .int (nI ne), .int (nI (rn T n 4 (if ch T n (i + 1) = 45 then i + 2 else i + 1) 0).1), .int ((rn T n 4 (if ch T n (i + 1) = 45 then i + 2 else i + 1) 0).2)])), (q1, .inl (g.2.1.1, 100, .inl T)), (q2, .inl (g.2.1.1, 100, .inl fk)), (q3, .inl (g.2.1.1, 100, .inl fv)), (q4, .inl (g.2.1.1, 100, .inl fr))] := hD
        refine lv_iconst (v := 1) hx hb dX1_readValue_47 (by decide) ?_
        exact kretz hx hb hRt hlk hK hP hD hS rfl dX1_readValue_48 (Or.inr rfl) (⟨_, _, Or.inr ⟨by rw [rV, if_pos f1, if_neg f2, show (if ch T n (i + 1) = 45 then -(rn T n 4 (if ch T n (i + 1) = 45 then i + 2 else i + 1) 0).2 else (rn T n 4 (if ch T n (i + 1) = 45 then i + 2 else i + 1) 0).2) = (rn T n 4 (if ch T n (i + 1) = 45 then i + 2 else i + 1) 0).2 from if_neg f3], rfl⟩, by rw [if_neg f3]⟩)
      · skip
        have f3 : ch T n (i + 1) = 45 := Decidable.byContradiction (fun z => c_29 (by rw [decide_eq_false z]; rfl))
        refine lv_aload_n hx hb dX1_readValue_32 rfl (lv_at hl 1 rfl) ?_
        refine va_get (D := g.1) (ci := 3) (v := .int ((rn T n 4 (if ch T n (i + 1) = 45 then i + 2 else i + 1) 0).2)) (C := RX1) (T := TX1) (N := 8) hx hb hts (by decide +kernel) hown hK hP 0 rfl rfl 7 (by decide) (hts (.fieldLink RX1 59 "LearnedIndex$Input" "number" "I") (by decide +kernel)) (fun _ h9 => h9) rfl dX1_readValue_33 ?_
        refine lv_ineg hx hb dX1_readValue_36 ?_
        refine lv_goto (tgt := 44) hx hb dX1_readValue_37 (by decide) ?_
        refine va_put (D := g.1) (ci := 3) (v := .int (-((rn T n 4 (if ch T n (i + 1) = 45 then i + 2 else i + 1) 0).2))) (ty := .int) (C := RX1) (T := TX1) (N := 8) hx hb hts (by decide +kernel) tyX1 tyX1_ok nmX1 hown hK hP hD hS 0 rfl rfl 7 (by decide) (hts (.fieldLink RX1 59 "LearnedIndex$Input" "number" "I") (by decide +kernel)) (fun _ h9 => h9) rfl (by decide +kernel) rfl rfl (Nat.le_of_ble_eq_true rfl) dX1_readValue_44 (fun H locs hP hD hS => ?_)
        have hP : va_P g.1 vwCl [(h, .inr (3, [.ref q1, .int (nI n), .ref q2, .ref q3, .ref q4, .int (nI ne), .int (nI (rn T n 4 (if ch T n (i + 1) = 45 then i + 2 else i + 1) 0).1), .int (-((rn T n 4 (if ch T n (i + 1) = 45 then i + 2 else i + 1) 0).2))])), (q1, .inl (g.2.1.1, 100, .inl T)), (q2, .inl (g.2.1.1, 100, .inl fk)), (q3, .inl (g.2.1.1, 100, .inl fv)), (q4, .inl (g.2.1.1, 100, .inl fr))] H := hP
        have hD : va_D A [(h, .inr (3, [.ref q1, .int (nI n), .ref q2, .ref q3, .ref q4, .int (nI ne), .int (nI (rn T n 4 (if ch T n (i + 1) = 45 then i + 2 else i + 1) 0).1), .int (-((rn T n 4 (if ch T n (i + 1) = 45 then i + 2 else i + 1) 0).2))])), (q1, .inl (g.2.1.1, 100, .inl T)), (q2, .inl (g.2.1.1, 100, .inl fk)), (q3, .inl (g.2.1.1, 100, .inl fv)), (q4, .inl (g.2.1.1, 100, .inl fr))] := hD
        refine lv_iconst (v := 1) hx hb dX1_readValue_47 (by decide) ?_
        exact kretz hx hb hRt hlk hK hP hD hS rfl dX1_readValue_48 (Or.inr rfl) (⟨_, _, Or.inr ⟨by rw [rV, if_pos f1, if_neg f2, show (if ch T n (i + 1) = 45 then -(rn T n 4 (if ch T n (i + 1) = 45 then i + 2 else i + 1) 0).2 else (rn T n 4 (if ch T n (i + 1) = 45 then i + 2 else i + 1) 0).2) = -(rn T n 4 (if ch T n (i + 1) = 45 then i + 2 else i + 1) 0).2 from if_pos f3], rfl⟩, by rw [if_pos f3]⟩)
    · skip
      have f2 : (rn T n 4 (if ch T n (i + 1) = 45 then i + 2 else i + 1) 0).1 = (if ch T n (i + 1) = 45 then i + 2 else i + 1) := Decidable.byContradiction (fun z => absurd c_22 (by rw [decide_eq_true z]; decide))
      refine lv_iconst (v := 0) hx hb dX1_readValue_25 (by decide) ?_
      exact kretz hx hb hRt hlk hK hP hD hS rfl dX1_readValue_26 (Or.inl rfl) (⟨_, _, Or.inl ⟨by rw [rV, if_pos f1, if_pos f2], rfl⟩, by rw [f2]⟩)
  · skip
    have f1 : ¬ ch T n i = 61 := fun z => absurd c_6 (by rw [decide_eq_true z]; decide)
    refine lv_iconst (v := 0) hx hb dX1_readValue_9 (by decide) ?_
    exact kretz hx hb hRt hlk hK hP hD hS rfl dX1_readValue_10 (Or.inl rfl) (⟨_, v, Or.inl ⟨by rw [rV, if_neg f1], rfl⟩, by rw [if_neg f1]⟩)
set_option maxRecDepth 20000 in
theorem ggX1_readEntry_X1_readNumber : GoodIn wsX1_readEntry wsX1_readNumber := goodIn_ca (goodIn_r _ [10, 3, 11, 12, 13, 14, 9, 15, 16, 17, 18, 19, 20, 21, 22, 23, 34, 35, 36, 37, 38, 39, 40, 41] (by decide +kernel) (by decide +kernel)) (goodIn_sub (fun _ h => List.mem_cons_of_mem _ (List.mem_append_right _ h)) (by decide +kernel))
set_option maxRecDepth 20000 in
theorem gX1_readEntry_X1_readNumber : GoodIn wsX1_readEntry (wsV RX1 56 RX1 yX1_readNumber wsX1_readNumber) := goodIn_app (goodIn_of _ (by decide +kernel)) ggX1_readEntry_X1_readNumber
set_option maxRecDepth 20000 in
theorem ggX1_readEntry_X6_store : GoodIn wsX1_readEntry wsX6_store := goodIn_ca (goodIn_r _ [25] (by decide +kernel) (by decide +kernel)) (goodIn_sub (fun _ h => List.mem_cons_of_mem _ (List.mem_append_right _ h)) (by decide +kernel))
set_option maxRecDepth 20000 in
theorem gX1_readEntry_X6_store_n28 : GoodIn wsX1_readEntry (wsX6_store) := ggX1_readEntry_X6_store
set_option maxRecDepth 20000 in
theorem ggX1_readEntry_X1_take : GoodIn wsX1_readEntry wsX1_take := goodIn_ca (goodIn_r _ [29, 11, 12, 13, 14, 9, 15, 16, 17, 18, 19, 20, 34, 35, 36, 37, 38, 39, 40, 41] (by decide +kernel) (by decide +kernel)) (goodIn_sub (fun _ h => List.mem_cons_of_mem _ (List.mem_append_right _ h)) (by decide +kernel))
set_option maxRecDepth 20000 in
theorem gX1_readEntry_X1_take : GoodIn wsX1_readEntry (wsV RX1 52 RX1 yX1_take wsX1_take) := goodIn_app (goodIn_of _ (by decide +kernel)) ggX1_readEntry_X1_take
set_option maxRecDepth 20000 in
theorem ggX1_readEntry_X1_readValue : GoodIn wsX1_readEntry wsX1_readValue := goodIn_ca (goodIn_r _ [33, 3, 26, 27, 28, 9, 29, 11, 12, 13, 14, 15, 16, 17, 18, 19, 20, 6, 7, 8, 10, 21, 22, 23, 34, 35, 36, 37, 38, 39, 40, 41] (by decide +kernel) (by decide +kernel)) (goodIn_sub (fun _ h => List.mem_cons_of_mem _ (List.mem_append_right _ h)) (by decide +kernel))
set_option maxRecDepth 20000 in
theorem gX1_readEntry_X1_readValue : GoodIn wsX1_readEntry (wsV RX1 62 RX1 yX1_readValue wsX1_readValue) := goodIn_app (goodIn_of _ (by decide +kernel)) ggX1_readEntry_X1_readValue
theorem dX1_readEntry_0 : decode cX1_readEntry 0 = .ok (.aload_n 0, 1) := by decide +kernel
theorem dX1_readEntry_1 : decode cX1_readEntry 1 = .ok (.invokevirtual 56, 3) := by decide +kernel
theorem dX1_readEntry_4 : decode cX1_readEntry 4 = .ok (.ifCond .ne 5, 3) := by decide +kernel
theorem dX1_readEntry_7 : decode cX1_readEntry 7 = .ok (.iconst 0, 1) := by decide +kernel
theorem dX1_readEntry_8 : decode cX1_readEntry 8 = .ok (.ireturn, 1) := by decide +kernel
theorem dX1_readEntry_9 : decode cX1_readEntry 9 = .ok (.aload_n 0, 1) := by decide +kernel
theorem dX1_readEntry_10 : decode cX1_readEntry 10 = .ok (.getfield 15, 3) := by decide +kernel
theorem dX1_readEntry_13 : decode cX1_readEntry 13 = .ok (.aload_n 0, 1) := by decide +kernel
theorem dX1_readEntry_14 : decode cX1_readEntry 14 = .ok (.getfield 45, 3) := by decide +kernel
theorem dX1_readEntry_17 : decode cX1_readEntry 17 = .ok (.aload_n 0, 1) := by decide +kernel
theorem dX1_readEntry_18 : decode cX1_readEntry 18 = .ok (.getfield 59, 3) := by decide +kernel
theorem dX1_readEntry_21 : decode cX1_readEntry 21 = .ok (.invokestatic 28, 3) := by decide +kernel
theorem dX1_readEntry_24 : decode cX1_readEntry 24 = .ok (.aload_n 0, 1) := by decide +kernel
theorem dX1_readEntry_25 : decode cX1_readEntry 25 = .ok (.bipush 33, 2) := by decide +kernel
theorem dX1_readEntry_27 : decode cX1_readEntry 27 = .ok (.invokevirtual 52, 3) := by decide +kernel
theorem dX1_readEntry_30 : decode cX1_readEntry 30 = .ok (.istore_n 1, 1) := by decide +kernel
theorem dX1_readEntry_31 : decode cX1_readEntry 31 = .ok (.aload_n 0, 1) := by decide +kernel
theorem dX1_readEntry_32 : decode cX1_readEntry 32 = .ok (.getfield 21, 3) := by decide +kernel
theorem dX1_readEntry_35 : decode cX1_readEntry 35 = .ok (.aload_n 0, 1) := by decide +kernel
theorem dX1_readEntry_36 : decode cX1_readEntry 36 = .ok (.getfield 45, 3) := by decide +kernel
theorem dX1_readEntry_39 : decode cX1_readEntry 39 = .ok (.iload_n 1, 1) := by decide +kernel
theorem dX1_readEntry_40 : decode cX1_readEntry 40 = .ok (.ifCond .eq 7, 3) := by decide +kernel
theorem dX1_readEntry_43 : decode cX1_readEntry 43 = .ok (.iconst 1, 1) := by decide +kernel
theorem dX1_readEntry_44 : decode cX1_readEntry 44 = .ok (.goto 4, 3) := by decide +kernel
theorem dX1_readEntry_47 : decode cX1_readEntry 47 = .ok (.iconst 0, 1) := by decide +kernel
theorem dX1_readEntry_48 : decode cX1_readEntry 48 = .ok (.invokestatic 28, 3) := by decide +kernel
theorem dX1_readEntry_51 : decode cX1_readEntry 51 = .ok (.iload_n 1, 1) := by decide +kernel
theorem dX1_readEntry_52 : decode cX1_readEntry 52 = .ok (.ifCond .ne 12, 3) := by decide +kernel
theorem dX1_readEntry_55 : decode cX1_readEntry 55 = .ok (.aload_n 0, 1) := by decide +kernel
theorem dX1_readEntry_56 : decode cX1_readEntry 56 = .ok (.invokevirtual 62, 3) := by decide +kernel
theorem dX1_readEntry_59 : decode cX1_readEntry 59 = .ok (.ifCond .ne 5, 3) := by decide +kernel
theorem dX1_readEntry_62 : decode cX1_readEntry 62 = .ok (.iconst 0, 1) := by decide +kernel
theorem dX1_readEntry_63 : decode cX1_readEntry 63 = .ok (.ireturn, 1) := by decide +kernel
theorem dX1_readEntry_64 : decode cX1_readEntry 64 = .ok (.aload_n 0, 1) := by decide +kernel
theorem dX1_readEntry_65 : decode cX1_readEntry 65 = .ok (.getfield 18, 3) := by decide +kernel
theorem dX1_readEntry_68 : decode cX1_readEntry 68 = .ok (.aload_n 0, 1) := by decide +kernel
theorem dX1_readEntry_69 : decode cX1_readEntry 69 = .ok (.getfield 45, 3) := by decide +kernel
theorem dX1_readEntry_72 : decode cX1_readEntry 72 = .ok (.iload_n 1, 1) := by decide +kernel
theorem dX1_readEntry_73 : decode cX1_readEntry 73 = .ok (.ifCond .eq 7, 3) := by decide +kernel
theorem dX1_readEntry_76 : decode cX1_readEntry 76 = .ok (.iconst 0, 1) := by decide +kernel
theorem dX1_readEntry_77 : decode cX1_readEntry 77 = .ok (.goto 7, 3) := by decide +kernel
theorem dX1_readEntry_80 : decode cX1_readEntry 80 = .ok (.aload_n 0, 1) := by decide +kernel
theorem dX1_readEntry_81 : decode cX1_readEntry 81 = .ok (.getfield 59, 3) := by decide +kernel
theorem dX1_readEntry_84 : decode cX1_readEntry 84 = .ok (.invokestatic 28, 3) := by decide +kernel
theorem dX1_readEntry_87 : decode cX1_readEntry 87 = .ok (.aload_n 0, 1) := by decide +kernel
theorem dX1_readEntry_88 : decode cX1_readEntry 88 = .ok (.dup, 1) := by decide +kernel
theorem dX1_readEntry_89 : decode cX1_readEntry 89 = .ok (.getfield 45, 3) := by decide +kernel
theorem dX1_readEntry_92 : decode cX1_readEntry 92 = .ok (.iconst 1, 1) := by decide +kernel
theorem dX1_readEntry_93 : decode cX1_readEntry 93 = .ok (.iadd, 1) := by decide +kernel
theorem dX1_readEntry_94 : decode cX1_readEntry 94 = .ok (.putfield 45, 3) := by decide +kernel
theorem dX1_readEntry_97 : decode cX1_readEntry 97 = .ok (.iconst 1, 1) := by decide +kernel
theorem dX1_readEntry_98 : decode cX1_readEntry 98 = .ok (.ireturn, 1) := by decide +kernel
def rm_X1_readEntry : Room := { frames := 4, cells := 0, slots := 0, locals := 83 }
abbrev p_X1_readEntry (g : kG) (h : Nat) (q1 : Nat) (q2 : Nat) (q3 : Nat) (q4 : Nat) (n : Nat) (T : Nat → Int32) (fk : Nat → Int32) (fv : Nat → Int32) (fr : Nat → Int32) (ne : Nat) (i : Nat) (v : Int32) : Int32 → va_W → Prop := fun r w1 => ∃ (j : Nat), ∃ (ne2 : Nat), ∃ (gk : Nat → Int32), ∃ (gv : Nat → Int32), ∃ (gr : Nat → Int32), ∃ (v2 : Int32), ((rE T n i = (j, none) ∧ r = 0 ∧ ne2 = ne ∧ EL ne gk gv gr = EL ne fk fv fr) ∨ (∃ e : kE3, rE T n i = (j, some e) ∧ r = 1 ∧ ne2 = ne + 1 ∧ EL (ne + 1) gk gv gr = EL ne fk fv fr ++ [e])) ∧ w1 = [(h, .inr (3, [.ref q1, .int (nI n), .ref q2, .ref q3, .ref q4, .int (nI ne2), .int (nI j), .int v2])), (q1, .inl (g.2.1.1, 100, .inl T)), (q2, .inl (g.2.1.1, 100, .inl gk)), (q3, .inl (g.2.1.1, 100, .inl gv)), (q4, .inl (g.2.1.1, 100, .inl gr))]
set_option maxHeartbeats 4000000 in
set_option maxRecDepth 100000 in
theorem c_X1_readEntry (l : Launch) (g : kG) (h : Nat) (q1 : Nat) (q2 : Nat) (q3 : Nat) (q4 : Nat) (n : Nat) (T : Nat → Int32) (fk : Nat → Int32) (fv : Nat → Int32) (fr : Nat → Int32) (ne : Nat) (i : Nat) (v : Int32) (hn : n ≤ 100) (hi : i ≤ n) (hne : ne < 100) : KI l yX1_readEntry wsX1_readEntry rm_X1_readEntry g [.ref h] [(h, .inr (3, [.ref q1, .int (nI n), .ref q2, .ref q3, .ref q4, .int (nI ne), .int (nI i), .int v])), (q1, .inl (g.2.1.1, 100, .inl T)), (q2, .inl (g.2.1.1, 100, .inl fk)), (q3, .inl (g.2.1.1, 100, .inl fv)), (q4, .inl (g.2.1.1, 100, .inl fr))] (p_X1_readEntry g h q1 q2 q3 q4 n T fk fv fr ne i v) := by
  refine kbodyI (cc := cX1_readEntry) (n := 2) (k := 5) (own := RX1) (plainFor_of_name (by decide)) rfl rfl rfl rfl ?_
  intro p e s m below meth cd A ls hcx
  obtain ⟨hx, hb, hRt, hml, hts, hown, hlk, hA, hP, hK, hD, hE, hS, hl⟩ := hcx
  have hl : lv_has ls 2 [(0, .ref h)] := hl
  refine lv_aload_n hx hb dX1_readEntry_0 rfl (lv_at hl 0 rfl) ?_
  refine kcalli (wc := [(h, .inr (3, [.ref q1, .int (nI n), .ref q2, .ref q3, .ref q4, .int (nI ne), .int (nI i), .int v])), (q1, .inl (g.2.1.1, 100, .inl T)), (q2, .inl (g.2.1.1, 100, .inl fk)), (q3, .inl (g.2.1.1, 100, .inl fv)), (q4, .inl (g.2.1.1, 100, .inl fr))]) [0, 1, 2, 3, 4] (va_runV (C := RX1) (As := []) (rest := []) ⟨hx, hb, hml, hown, hts⟩ ((c_X1_readNumber l g h q1 q2 q3 q4 n T fk fv fr ne i v hn hi) _) (cwV 0 hts gX1_readEntry_X1_readNumber rfl rfl rfl (by decide +kernel) ⟨Nat.le_of_ble_eq_true rfl, Nat.le_of_ble_eq_true rfl⟩) (kpreV (wc := [(h, .inr (3, [.ref q1, .int (nI n), .ref q2, .ref q3, .ref q4, .int (nI ne), .int (nI i), .int v])), (q1, .inl (g.2.1.1, 100, .inl T)), (q2, .inl (g.2.1.1, 100, .inl fk)), (q3, .inl (g.2.1.1, 100, .inl fv)), (q4, .inl (g.2.1.1, 100, .inl fr))]) (ci := 3) hK hP hD hS hA hE [0, 1, 2, 3, 4] rfl rfl rfl rfl) rfl rfl hl.1 rfl (lv_room (Nat.le_of_ble_eq_true rfl)) dX1_readEntry_1 ⟨Nat.zero_le _, Nat.zero_le _⟩) hP hD hS hA rfl (fun r_1 w_1 H locs hp hP hD hS => ?_)
  obtain ⟨rfl, rfl⟩ := hp
  have hP : va_P g.1 vwCl [(h, .inr (3, [.ref q1, .int (nI n), .ref q2, .ref q3, .ref q4, .int (nI ne), .int (nI (rn T n 4 i 0).1), .int ((rn T n 4 i 0).2)])), (q1, .inl (g.2.1.1, 100, .inl T)), (q2, .inl (g.2.1.1, 100, .inl fk)), (q3, .inl (g.2.1.1, 100, .inl fv)), (q4, .inl (g.2.1.1, 100, .inl fr))] H := hP
  have hD : va_D A [(h, .inr (3, [.ref q1, .int (nI n), .ref q2, .ref q3, .ref q4, .int (nI ne), .int (nI (rn T n 4 i 0).1), .int ((rn T n 4 i 0).2)])), (q1, .inl (g.2.1.1, 100, .inl T)), (q2, .inl (g.2.1.1, 100, .inl fk)), (q3, .inl (g.2.1.1, 100, .inl fv)), (q4, .inl (g.2.1.1, 100, .inl fr))] := hD
  have hle := rn_le (T := T) (n := n) 4 i 0
  refine lv_if_ne (tgt := 9) hx hb dX1_readEntry_4 (by decide) (fun c_4 => ?_) (fun c_4 => ?_)
  · skip
    have f1 : ¬ (rn T n 4 i 0).1 = i := fun z => c_4 (by rw [decide_eq_false (fun z2 => z2 z)]; rfl)
    refine lv_aload_n hx hb dX1_readEntry_9 rfl (lv_at hl 0 rfl) ?_
    refine va_get (D := g.1) (ci := 3) (v := .ref q2) (C := RX1) (T := TX1) (N := 8) hx hb hts (by decide +kernel) hown hK hP 0 rfl rfl 2 (by decide) (hts (.fieldLink RX1 15 "LearnedIndex$Input" "keys" "[I") (by decide +kernel)) (fun _ h9 => h9) rfl dX1_readEntry_10 ?_
    refine lv_aload_n hx hb dX1_readEntry_13 rfl (lv_at hl 0 rfl) ?_
    refine va_get (D := g.1) (ci := 3) (v := .int (nI ne)) (C := RX1) (T := TX1) (N := 8) hx hb hts (by decide +kernel) hown hK hP 0 rfl rfl 5 (by decide) (hts (.fieldLink RX1 45 "LearnedIndex$Input" "entries" "I") (by decide +kernel)) (fun _ h9 => h9) rfl dX1_readEntry_14 ?_
    refine lv_aload_n hx hb dX1_readEntry_17 rfl (lv_at hl 0 rfl) ?_
    refine va_get (D := g.1) (ci := 3) (v := .int ((rn T n 4 i 0).2)) (C := RX1) (T := TX1) (N := 8) hx hb hts (by decide +kernel) hown hK hP 0 rfl rfl 7 (by decide) (hts (.fieldLink RX1 59 "LearnedIndex$Input" "number" "I") (by decide +kernel)) (fun _ h9 => h9) rfl dX1_readEntry_18 ?_
    refine kcallv (wc := [(q2, .inl (g.2.1.1, 100, .inl fk))]) [2] (va_runSN (As := [.ref q2, .int (nI ne), .int ((rn T n 4 i 0).2)]) (rest := []) ⟨hx, hb, hml, hown, hts⟩ ((c_X6_store l g q2 100 fk (nI ne) ((rn T n 4 i 0).2) (by decide)) _) ⟨va_cnB 3 hts gX1_readEntry_X6_store_n28 rfl rfl rfl (hE.1 _ (List.mem_of_getElem? (i := 27) rfl)) (hts (.initialized RX6) (by decide +kernel)) (by decide +kernel) ⟨Nat.le_of_ble_eq_true rfl, Nat.le_of_ble_eq_true rfl⟩, hts (.static yX6_store) (by decide +kernel), trivial⟩ (kpreS (wc := [(q2, .inl (g.2.1.1, 100, .inl fk))]) hK hP hD hS hA hE [2] rfl rfl) rfl rfl hl.1 rfl (lv_room (Nat.le_of_ble_eq_true rfl)) dX1_readEntry_21 ⟨Nat.zero_le _, Nat.zero_le _⟩) hP hD hS hA rfl (fun w_2 H locs hp hP hD hS => ?_)
    obtain rfl := hp
    have hP : va_P g.1 vwCl [(h, .inr (3, [.ref q1, .int (nI n), .ref q2, .ref q3, .ref q4, .int (nI ne), .int (nI (rn T n 4 i 0).1), .int ((rn T n 4 i 0).2)])), (q1, .inl (g.2.1.1, 100, .inl T)), (q2, .inl (g.2.1.1, 100, .inl (kstore 100 fk (nI ne) ((rn T n 4 i 0).2)))), (q3, .inl (g.2.1.1, 100, .inl fv)), (q4, .inl (g.2.1.1, 100, .inl fr))] H := hP
    have hD : va_D A [(h, .inr (3, [.ref q1, .int (nI n), .ref q2, .ref q3, .ref q4, .int (nI ne), .int (nI (rn T n 4 i 0).1), .int ((rn T n 4 i 0).2)])), (q1, .inl (g.2.1.1, 100, .inl T)), (q2, .inl (g.2.1.1, 100, .inl (kstore 100 fk (nI ne) ((rn T n 4 i 0).2)))), (q3, .inl (g.2.1.1, 100, .inl fv)), (q4, .inl (g.2.1.1, 100, .inl fr))] := hD
    refine lv_aload_n hx hb dX1_readEntry_24 rfl (lv_at hl 0 rfl) ?_
    refine lv_bipush (v := 33) hx hb dX1_readEntry_25 (by decide) ?_
    refine kcalli (wc := [(h, .inr (3, [.ref q1, .int (nI n), .ref q2, .ref q3, .ref q4, .int (nI ne), .int (nI ((rn T n 4 i 0).1)), .int ((rn T n 4 i 0).2)])), (q1, .inl (g.2.1.1, 100, .inl T)), (q2, .inl (g.2.1.1, 100, .inl (kstore 100 fk (nI ne) ((rn T n 4 i 0).2)))), (q3, .inl (g.2.1.1, 100, .inl fv)), (q4, .inl (g.2.1.1, 100, .inl fr))]) [0, 1, 2, 3, 4] (va_runV (C := RX1) (As := [.int 33]) (rest := []) ⟨hx, hb, hml, hown, hts⟩ ((c_X1_take l g h q1 q2 q3 q4 n T (kstore 100 fk (nI ne) ((rn T n 4 i 0).2)) fv fr ne ((rn T n 4 i 0).1) ((rn T n 4 i 0).2) 33 hn (hle.2.2 hi)) _) (cwV 1 hts gX1_readEntry_X1_take rfl rfl rfl (by decide +kernel) ⟨Nat.le_of_ble_eq_true rfl, Nat.le_of_ble_eq_true rfl⟩) (kpreV (wc := [(h, .inr (3, [.ref q1, .int (nI n), .ref q2, .ref q3, .ref q4, .int (nI ne), .int (nI ((rn T n 4 i 0).1)), .int ((rn T n 4 i 0).2)])), (q1, .inl (g.2.1.1, 100, .inl T)), (q2, .inl (g.2.1.1, 100, .inl (kstore 100 fk (nI ne) ((rn T n 4 i 0).2)))), (q3, .inl (g.2.1.1, 100, .inl fv)), (q4, .inl (g.2.1.1, 100, .inl fr))]) (ci := 3) hK hP hD hS hA hE [0, 1, 2, 3, 4] rfl rfl rfl rfl) rfl rfl hl.1 rfl (lv_room (Nat.le_of_ble_eq_true rfl)) dX1_readEntry_27 ⟨Nat.zero_le _, Nat.zero_le _⟩) hP hD hS hA rfl (fun r_3 w_3 H locs hp hP hD hS => ?_)
    obtain ⟨rfl, rfl⟩ := hp
    have hP : va_P g.1 vwCl [(h, .inr (3, [.ref q1, .int (nI n), .ref q2, .ref q3, .ref q4, .int (nI ne), .int (nI (if ch T n ((rn T n 4 i 0).1) = 33 then ((rn T n 4 i 0).1) + 1 else ((rn T n 4 i 0).1))), .int ((rn T n 4 i 0).2)])), (q1, .inl (g.2.1.1, 100, .inl T)), (q2, .inl (g.2.1.1, 100, .inl (kstore 100 fk (nI ne) ((rn T n 4 i 0).2)))), (q3, .inl (g.2.1.1, 100, .inl fv)), (q4, .inl (g.2.1.1, 100, .inl fr))] H := hP
    have hD : va_D A [(h, .inr (3, [.ref q1, .int (nI n), .ref q2, .ref q3, .ref q4, .int (nI ne), .int (nI (if ch T n ((rn T n 4 i 0).1) = 33 then ((rn T n 4 i 0).1) + 1 else ((rn T n 4 i 0).1))), .int ((rn T n 4 i 0).2)])), (q1, .inl (g.2.1.1, 100, .inl T)), (q2, .inl (g.2.1.1, 100, .inl (kstore 100 fk (nI ne) ((rn T n 4 i 0).2)))), (q3, .inl (g.2.1.1, 100, .inl fv)), (q4, .inl (g.2.1.1, 100, .inl fr))] := hD
    refine lv_istore_n (lv' := [(1, .int (kbool (decide (ch T n ((rn T n 4 i 0).1) = 33)))), (0, .ref h)]) hx hb dX1_readEntry_30 rfl hl (by decide) rfl (fun ls hl => ?_)
    refine lv_aload_n hx hb dX1_readEntry_31 rfl (lv_at hl 1 rfl) ?_
    refine va_get (D := g.1) (ci := 3) (v := .ref q4) (C := RX1) (T := TX1) (N := 8) hx hb hts (by decide +kernel) hown hK hP 0 rfl rfl 4 (by decide) (hts (.fieldLink RX1 21 "LearnedIndex$Input" "removals" "[I") (by decide +kernel)) (fun _ h9 => h9) rfl dX1_readEntry_32 ?_
    refine lv_aload_n hx hb dX1_readEntry_35 rfl (lv_at hl 1 rfl) ?_
    refine va_get (D := g.1) (ci := 3) (v := .int (nI ne)) (C := RX1) (T := TX1) (N := 8) hx hb hts (by decide +kernel) hown hK hP 0 rfl rfl 5 (by decide) (hts (.fieldLink RX1 45 "LearnedIndex$Input" "entries" "I") (by decide +kernel)) (fun _ h9 => h9) rfl dX1_readEntry_36 ?_
    refine lv_iload_n hx hb dX1_readEntry_39 rfl (lv_at hl 0 rfl) ?_
    refine lv_if_eq (tgt := 47) hx hb dX1_readEntry_40 (by decide) (fun c_40 => ?_) (fun c_40 => ?_)
    · skip
      have f2 : ¬ ch T n (rn T n 4 i 0).1 = 33 := fun z => absurd c_40 (by rw [decide_eq_true z]; decide)
      refine lv_iconst (v := 0) hx hb dX1_readEntry_47 (by decide) ?_
      refine kcallv (wc := [(q4, .inl (g.2.1.1, 100, .inl fr))]) [4] (va_runSN (As := [.ref q4, .int (nI ne), .int 0]) (rest := []) ⟨hx, hb, hml, hown, hts⟩ ((c_X6_store l g q4 100 fr (nI ne) 0 (by decide)) _) ⟨va_cnB 3 hts gX1_readEntry_X6_store_n28 rfl rfl rfl (hE.1 _ (List.mem_of_getElem? (i := 27) rfl)) (hts (.initialized RX6) (by decide +kernel)) (by decide +kernel) ⟨Nat.le_of_ble_eq_true rfl, Nat.le_of_ble_eq_true rfl⟩, hts (.static yX6_store) (by decide +kernel), trivial⟩ (kpreS (wc := [(q4, .inl (g.2.1.1, 100, .inl fr))]) hK hP hD hS hA hE [4] rfl rfl) rfl rfl hl.1 rfl (lv_room (Nat.le_of_ble_eq_true rfl)) dX1_readEntry_48 ⟨Nat.zero_le _, Nat.zero_le _⟩) hP hD hS hA rfl (fun w_4 H locs hp hP hD hS => ?_)
      obtain rfl := hp
      have hP : va_P g.1 vwCl [(h, .inr (3, [.ref q1, .int (nI n), .ref q2, .ref q3, .ref q4, .int (nI ne), .int (nI (if ch T n ((rn T n 4 i 0).1) = 33 then ((rn T n 4 i 0).1) + 1 else ((rn T n 4 i 0).1))), .int ((rn T n 4 i 0).2)])), (q1, .inl (g.2.1.1, 100, .inl T)), (q2, .inl (g.2.1.1, 100, .inl (kstore 100 fk (nI ne) ((rn T n 4 i 0).2)))), (q3, .inl (g.2.1.1, 100, .inl fv)), (q4, .inl (g.2.1.1, 100, .inl (kstore 100 fr (nI ne) 0)))] H := hP
      have hD : va_D A [(h, .inr (3, [.ref q1, .int (nI n), .ref q2, .ref q3, .ref q4, .int (nI ne), .int (nI (if ch T n ((rn T n 4 i 0).1) = 33 then ((rn T n 4 i 0).1) + 1 else ((rn T n 4 i 0).1))), .int ((rn T n 4 i 0).2)])), (q1, .inl (g.2.1.1, 100, .inl T)), (q2, .inl (g.2.1.1, 100, .inl (kstore 100 fk (nI ne) ((rn T n 4 i 0).2)))), (q3, .inl (g.2.1.1, 100, .inl fv)), (q4, .inl (g.2.1.1, 100, .inl (kstore 100 fr (nI ne) 0)))] := hD
      refine lv_iload_n hx hb dX1_readEntry_51 rfl (lv_at hl 0 rfl) ?_
      refine lv_if_ne (tgt := 64) hx hb dX1_readEntry_52 (by decide) (fun c_52 => absurd c_52 (fun z => z c_40)) (fun c_52 => ?_)
      rw [if_neg f2] at hP hD
      have hP : va_P g.1 vwCl [(h, .inr (3, [.ref q1, .int (nI n), .ref q2, .ref q3, .ref q4, .int (nI ne), .int (nI (rn T n 4 i 0).1), .int ((rn T n 4 i 0).2)])), (q1, .inl (g.2.1.1, 100, .inl T)), (q2, .inl (g.2.1.1, 100, .inl (kstore 100 fk (nI ne) ((rn T n 4 i 0).2)))), (q3, .inl (g.2.1.1, 100, .inl fv)), (q4, .inl (g.2.1.1, 100, .inl (kstore 100 fr (nI ne) 0)))] H := hP
      have hD : va_D A [(h, .inr (3, [.ref q1, .int (nI n), .ref q2, .ref q3, .ref q4, .int (nI ne), .int (nI (rn T n 4 i 0).1), .int ((rn T n 4 i 0).2)])), (q1, .inl (g.2.1.1, 100, .inl T)), (q2, .inl (g.2.1.1, 100, .inl (kstore 100 fk (nI ne) ((rn T n 4 i 0).2)))), (q3, .inl (g.2.1.1, 100, .inl fv)), (q4, .inl (g.2.1.1, 100, .inl (kstore 100 fr (nI ne) 0)))] := hD
      refine lv_aload_n hx hb dX1_readEntry_55 rfl (lv_at hl 1 rfl) ?_
      refine kcalli (wc := [(h, .inr (3, [.ref q1, .int (nI n), .ref q2, .ref q3, .ref q4, .int (nI ne), .int (nI ((rn T n 4 i 0).1)), .int ((rn T n 4 i 0).2)])), (q1, .inl (g.2.1.1, 100, .inl T)), (q2, .inl (g.2.1.1, 100, .inl (kstore 100 fk (nI ne) ((rn T n 4 i 0).2)))), (q3, .inl (g.2.1.1, 100, .inl fv)), (q4, .inl (g.2.1.1, 100, .inl (kstore 100 fr (nI ne) 0)))]) [0, 1, 2, 3, 4] (va_runV (C := RX1) (As := []) (rest := []) ⟨hx, hb, hml, hown, hts⟩ ((c_X1_readValue l g h q1 q2 q3 q4 n T (kstore 100 fk (nI ne) ((rn T n 4 i 0).2)) fv (kstore 100 fr (nI ne) 0) ne ((rn T n 4 i 0).1) ((rn T n 4 i 0).2) hn (hle.2.2 hi)) _) (cwV 0 hts gX1_readEntry_X1_readValue rfl rfl rfl (by decide +kernel) ⟨Nat.le_of_ble_eq_true rfl, Nat.le_of_ble_eq_true rfl⟩) (kpreV (wc := [(h, .inr (3, [.ref q1, .int (nI n), .ref q2, .ref q3, .ref q4, .int (nI ne), .int (nI ((rn T n 4 i 0).1)), .int ((rn T n 4 i 0).2)])), (q1, .inl (g.2.1.1, 100, .inl T)), (q2, .inl (g.2.1.1, 100, .inl (kstore 100 fk (nI ne) ((rn T n 4 i 0).2)))), (q3, .inl (g.2.1.1, 100, .inl fv)), (q4, .inl (g.2.1.1, 100, .inl (kstore 100 fr (nI ne) 0)))]) (ci := 3) hK hP hD hS hA hE [0, 1, 2, 3, 4] rfl rfl rfl rfl) rfl rfl hl.1 rfl (lv_room (Nat.le_of_ble_eq_true rfl)) dX1_readEntry_56 ⟨Nat.zero_le _, Nat.zero_le _⟩) hP hD hS hA rfl (fun rt w_5 H locs hp hP hD hS => ?_)
      obtain ⟨j2, v2, hV, rfl⟩ := hp
      have hP : va_P g.1 vwCl [(h, .inr (3, [.ref q1, .int (nI n), .ref q2, .ref q3, .ref q4, .int (nI ne), .int (nI j2), .int v2])), (q1, .inl (g.2.1.1, 100, .inl T)), (q2, .inl (g.2.1.1, 100, .inl (kstore 100 fk (nI ne) ((rn T n 4 i 0).2)))), (q3, .inl (g.2.1.1, 100, .inl fv)), (q4, .inl (g.2.1.1, 100, .inl (kstore 100 fr (nI ne) 0)))] H := hP
      have hD : va_D A [(h, .inr (3, [.ref q1, .int (nI n), .ref q2, .ref q3, .ref q4, .int (nI ne), .int (nI j2), .int v2])), (q1, .inl (g.2.1.1, 100, .inl T)), (q2, .inl (g.2.1.1, 100, .inl (kstore 100 fk (nI ne) ((rn T n 4 i 0).2)))), (q3, .inl (g.2.1.1, 100, .inl fv)), (q4, .inl (g.2.1.1, 100, .inl (kstore 100 fr (nI ne) 0)))] := hD
      refine lv_if_ne (tgt := 64) hx hb dX1_readEntry_59 (by decide) (fun c_59 => ?_) (fun c_59 => ?_)
      · skip
        have hVs : rV T n (rn T n 4 i 0).1 = (j2, some v2) := hV.elim (fun z => absurd z.2 c_59) (fun z => z.1)
        refine lv_aload_n hx hb dX1_readEntry_64 rfl (lv_at hl 1 rfl) ?_
        refine va_get (D := g.1) (ci := 3) (v := .ref q3) (C := RX1) (T := TX1) (N := 8) hx hb hts (by decide +kernel) hown hK hP 0 rfl rfl 3 (by decide) (hts (.fieldLink RX1 18 "LearnedIndex$Input" "values" "[I") (by decide +kernel)) (fun _ h9 => h9) rfl dX1_readEntry_65 ?_
        refine lv_aload_n hx hb dX1_readEntry_68 rfl (lv_at hl 1 rfl) ?_
        refine va_get (D := g.1) (ci := 3) (v := .int (nI ne)) (C := RX1) (T := TX1) (N := 8) hx hb hts (by decide +kernel) hown hK hP 0 rfl rfl 5 (by decide) (hts (.fieldLink RX1 45 "LearnedIndex$Input" "entries" "I") (by decide +kernel)) (fun _ h9 => h9) rfl dX1_readEntry_69 ?_
        refine lv_iload_n hx hb dX1_readEntry_72 rfl (lv_at hl 0 rfl) ?_
        refine lv_if_eq (tgt := 80) hx hb dX1_readEntry_73 (by decide) (fun c_73 => ?_) (fun c_73 => absurd c_40 c_73)
        refine lv_aload_n hx hb dX1_readEntry_80 rfl (lv_at hl 1 rfl) ?_
        refine va_get (D := g.1) (ci := 3) (v := .int v2) (C := RX1) (T := TX1) (N := 8) hx hb hts (by decide +kernel) hown hK hP 0 rfl rfl 7 (by decide) (hts (.fieldLink RX1 59 "LearnedIndex$Input" "number" "I") (by decide +kernel)) (fun _ h9 => h9) rfl dX1_readEntry_81 ?_
        refine kcallv (wc := [(q3, .inl (g.2.1.1, 100, .inl fv))]) [3] (va_runSN (As := [.ref q3, .int (nI ne), .int v2]) (rest := []) ⟨hx, hb, hml, hown, hts⟩ ((c_X6_store l g q3 100 fv (nI ne) v2 (by decide)) _) ⟨va_cnB 3 hts gX1_readEntry_X6_store_n28 rfl rfl rfl (hE.1 _ (List.mem_of_getElem? (i := 27) rfl)) (hts (.initialized RX6) (by decide +kernel)) (by decide +kernel) ⟨Nat.le_of_ble_eq_true rfl, Nat.le_of_ble_eq_true rfl⟩, hts (.static yX6_store) (by decide +kernel), trivial⟩ (kpreS (wc := [(q3, .inl (g.2.1.1, 100, .inl fv))]) hK hP hD hS hA hE [3] rfl rfl) rfl rfl hl.1 rfl (lv_room (Nat.le_of_ble_eq_true rfl)) dX1_readEntry_84 ⟨Nat.zero_le _, Nat.zero_le _⟩) hP hD hS hA rfl (fun w_6 H locs hp hP hD hS => ?_)
        obtain rfl := hp
        have hP : va_P g.1 vwCl [(h, .inr (3, [.ref q1, .int (nI n), .ref q2, .ref q3, .ref q4, .int (nI ne), .int (nI j2), .int v2])), (q1, .inl (g.2.1.1, 100, .inl T)), (q2, .inl (g.2.1.1, 100, .inl (kstore 100 fk (nI ne) ((rn T n 4 i 0).2)))), (q3, .inl (g.2.1.1, 100, .inl (kstore 100 fv (nI ne) v2))), (q4, .inl (g.2.1.1, 100, .inl (kstore 100 fr (nI ne) 0)))] H := hP
        have hD : va_D A [(h, .inr (3, [.ref q1, .int (nI n), .ref q2, .ref q3, .ref q4, .int (nI ne), .int (nI j2), .int v2])), (q1, .inl (g.2.1.1, 100, .inl T)), (q2, .inl (g.2.1.1, 100, .inl (kstore 100 fk (nI ne) ((rn T n 4 i 0).2)))), (q3, .inl (g.2.1.1, 100, .inl (kstore 100 fv (nI ne) v2))), (q4, .inl (g.2.1.1, 100, .inl (kstore 100 fr (nI ne) 0)))] := hD
        refine lv_aload_n hx hb dX1_readEntry_87 rfl (lv_at hl 1 rfl) ?_
        refine lv_dup hx hb dX1_readEntry_88 rfl ?_
        refine va_get (D := g.1) (ci := 3) (v := .int (nI ne)) (C := RX1) (T := TX1) (N := 8) hx hb hts (by decide +kernel) hown hK hP 0 rfl rfl 5 (by decide) (hts (.fieldLink RX1 45 "LearnedIndex$Input" "entries" "I") (by decide +kernel)) (fun _ h9 => h9) rfl dX1_readEntry_89 ?_
        refine lv_iconst (v := 1) hx hb dX1_readEntry_92 (by decide) ?_
        refine lv_iadd hx hb dX1_readEntry_93 ?_
        rw [show ((nI ne) + 1 : Int32) = nI (ne + 1) from nI_1 _]
        refine va_put (D := g.1) (ci := 3) (v := .int (nI (ne + 1))) (ty := .int) (C := RX1) (T := TX1) (N := 8) hx hb hts (by decide +kernel) tyX1 tyX1_ok nmX1 hown hK hP hD hS 0 rfl rfl 5 (by decide) (hts (.fieldLink RX1 45 "LearnedIndex$Input" "entries" "I") (by decide +kernel)) (fun _ h9 => h9) rfl (by decide +kernel) rfl rfl (Nat.le_of_ble_eq_true rfl) dX1_readEntry_94 (fun H locs hP hD hS => ?_)
        have hP : va_P g.1 vwCl [(h, .inr (3, [.ref q1, .int (nI n), .ref q2, .ref q3, .ref q4, .int (nI (ne + 1)), .int (nI j2), .int v2])), (q1, .inl (g.2.1.1, 100, .inl T)), (q2, .inl (g.2.1.1, 100, .inl (kstore 100 fk (nI ne) ((rn T n 4 i 0).2)))), (q3, .inl (g.2.1.1, 100, .inl (kstore 100 fv (nI ne) v2))), (q4, .inl (g.2.1.1, 100, .inl (kstore 100 fr (nI ne) 0)))] H := hP
        have hD : va_D A [(h, .inr (3, [.ref q1, .int (nI n), .ref q2, .ref q3, .ref q4, .int (nI (ne + 1)), .int (nI j2), .int v2])), (q1, .inl (g.2.1.1, 100, .inl T)), (q2, .inl (g.2.1.1, 100, .inl (kstore 100 fk (nI ne) ((rn T n 4 i 0).2)))), (q3, .inl (g.2.1.1, 100, .inl (kstore 100 fv (nI ne) v2))), (q4, .inl (g.2.1.1, 100, .inl (kstore 100 fr (nI ne) 0)))] := hD
        refine lv_iconst (v := 1) hx hb dX1_readEntry_97 (by decide) ?_
        exact kretz hx hb hRt hlk hK hP hD hS rfl dX1_readEntry_98 (Or.inr rfl) (⟨_, _, _, _, _, _, Or.inr ⟨_, by rw [rE, if_neg f1, if_neg f2, hVs]; rfl, rfl, rfl, EL_pushs hne⟩, rfl⟩)
      · skip
        have hVs : rV T n (rn T n 4 i 0).1 = (j2, none) := hV.elim (fun z => z.1) (fun z => absurd (z.2.symm.trans c_59) (by decide))
        refine lv_iconst (v := 0) hx hb dX1_readEntry_62 (by decide) ?_
        exact kretz hx hb hRt hlk hK hP hD hS rfl dX1_readEntry_63 (Or.inl rfl) (⟨_, ne, _, _, _, _, Or.inl ⟨by rw [rE, if_neg f1, if_neg f2, hVs]; rfl, rfl, rfl, EL_keep hne⟩, rfl⟩)
    · skip
      have f2 : ch T n (rn T n 4 i 0).1 = 33 := Decidable.byContradiction (fun z => c_40 (by rw [decide_eq_false z]; rfl))
      refine lv_iconst (v := 1) hx hb dX1_readEntry_43 (by decide) ?_
      refine lv_goto (tgt := 48) hx hb dX1_readEntry_44 (by decide) ?_
      refine kcallv (wc := [(q4, .inl (g.2.1.1, 100, .inl fr))]) [4] (va_runSN (As := [.ref q4, .int (nI ne), .int 1]) (rest := []) ⟨hx, hb, hml, hown, hts⟩ ((c_X6_store l g q4 100 fr (nI ne) 1 (by decide)) _) ⟨va_cnB 3 hts gX1_readEntry_X6_store_n28 rfl rfl rfl (hE.1 _ (List.mem_of_getElem? (i := 27) rfl)) (hts (.initialized RX6) (by decide +kernel)) (by decide +kernel) ⟨Nat.le_of_ble_eq_true rfl, Nat.le_of_ble_eq_true rfl⟩, hts (.static yX6_store) (by decide +kernel), trivial⟩ (kpreS (wc := [(q4, .inl (g.2.1.1, 100, .inl fr))]) hK hP hD hS hA hE [4] rfl rfl) rfl rfl hl.1 rfl (lv_room (Nat.le_of_ble_eq_true rfl)) dX1_readEntry_48 ⟨Nat.zero_le _, Nat.zero_le _⟩) hP hD hS hA rfl (fun w_7 H locs hp hP hD hS => ?_)
      obtain rfl := hp
      have hP : va_P g.1 vwCl [(h, .inr (3, [.ref q1, .int (nI n), .ref q2, .ref q3, .ref q4, .int (nI ne), .int (nI (if ch T n ((rn T n 4 i 0).1) = 33 then ((rn T n 4 i 0).1) + 1 else ((rn T n 4 i 0).1))), .int ((rn T n 4 i 0).2)])), (q1, .inl (g.2.1.1, 100, .inl T)), (q2, .inl (g.2.1.1, 100, .inl (kstore 100 fk (nI ne) ((rn T n 4 i 0).2)))), (q3, .inl (g.2.1.1, 100, .inl fv)), (q4, .inl (g.2.1.1, 100, .inl (kstore 100 fr (nI ne) 1)))] H := hP
      have hD : va_D A [(h, .inr (3, [.ref q1, .int (nI n), .ref q2, .ref q3, .ref q4, .int (nI ne), .int (nI (if ch T n ((rn T n 4 i 0).1) = 33 then ((rn T n 4 i 0).1) + 1 else ((rn T n 4 i 0).1))), .int ((rn T n 4 i 0).2)])), (q1, .inl (g.2.1.1, 100, .inl T)), (q2, .inl (g.2.1.1, 100, .inl (kstore 100 fk (nI ne) ((rn T n 4 i 0).2)))), (q3, .inl (g.2.1.1, 100, .inl fv)), (q4, .inl (g.2.1.1, 100, .inl (kstore 100 fr (nI ne) 1)))] := hD
      refine lv_iload_n hx hb dX1_readEntry_51 rfl (lv_at hl 0 rfl) ?_
      refine lv_if_ne (tgt := 64) hx hb dX1_readEntry_52 (by decide) (fun c_52 => ?_) (fun c_52 => absurd c_52 c_40)
      refine lv_aload_n hx hb dX1_readEntry_64 rfl (lv_at hl 1 rfl) ?_
      refine va_get (D := g.1) (ci := 3) (v := .ref q3) (C := RX1) (T := TX1) (N := 8) hx hb hts (by decide +kernel) hown hK hP 0 rfl rfl 3 (by decide) (hts (.fieldLink RX1 18 "LearnedIndex$Input" "values" "[I") (by decide +kernel)) (fun _ h9 => h9) rfl dX1_readEntry_65 ?_
      refine lv_aload_n hx hb dX1_readEntry_68 rfl (lv_at hl 1 rfl) ?_
      refine va_get (D := g.1) (ci := 3) (v := .int (nI ne)) (C := RX1) (T := TX1) (N := 8) hx hb hts (by decide +kernel) hown hK hP 0 rfl rfl 5 (by decide) (hts (.fieldLink RX1 45 "LearnedIndex$Input" "entries" "I") (by decide +kernel)) (fun _ h9 => h9) rfl dX1_readEntry_69 ?_
      refine lv_iload_n hx hb dX1_readEntry_72 rfl (lv_at hl 0 rfl) ?_
      refine lv_if_eq (tgt := 80) hx hb dX1_readEntry_73 (by decide) (fun c_73 => absurd c_73 c_40) (fun c_73 => ?_)
      refine lv_iconst (v := 0) hx hb dX1_readEntry_76 (by decide) ?_
      refine lv_goto (tgt := 84) hx hb dX1_readEntry_77 (by decide) ?_
      refine kcallv (wc := [(q3, .inl (g.2.1.1, 100, .inl fv))]) [3] (va_runSN (As := [.ref q3, .int (nI ne), .int 0]) (rest := []) ⟨hx, hb, hml, hown, hts⟩ ((c_X6_store l g q3 100 fv (nI ne) 0 (by decide)) _) ⟨va_cnB 3 hts gX1_readEntry_X6_store_n28 rfl rfl rfl (hE.1 _ (List.mem_of_getElem? (i := 27) rfl)) (hts (.initialized RX6) (by decide +kernel)) (by decide +kernel) ⟨Nat.le_of_ble_eq_true rfl, Nat.le_of_ble_eq_true rfl⟩, hts (.static yX6_store) (by decide +kernel), trivial⟩ (kpreS (wc := [(q3, .inl (g.2.1.1, 100, .inl fv))]) hK hP hD hS hA hE [3] rfl rfl) rfl rfl hl.1 rfl (lv_room (Nat.le_of_ble_eq_true rfl)) dX1_readEntry_84 ⟨Nat.zero_le _, Nat.zero_le _⟩) hP hD hS hA rfl (fun w_8 H locs hp hP hD hS => ?_)
      obtain rfl := hp
      have hP : va_P g.1 vwCl [(h, .inr (3, [.ref q1, .int (nI n), .ref q2, .ref q3, .ref q4, .int (nI ne), .int (nI (if ch T n ((rn T n 4 i 0).1) = 33 then ((rn T n 4 i 0).1) + 1 else ((rn T n 4 i 0).1))), .int ((rn T n 4 i 0).2)])), (q1, .inl (g.2.1.1, 100, .inl T)), (q2, .inl (g.2.1.1, 100, .inl (kstore 100 fk (nI ne) ((rn T n 4 i 0).2)))), (q3, .inl (g.2.1.1, 100, .inl (kstore 100 fv (nI ne) 0))), (q4, .inl (g.2.1.1, 100, .inl (kstore 100 fr (nI ne) 1)))] H := hP
      have hD : va_D A [(h, .inr (3, [.ref q1, .int (nI n), .ref q2, .ref q3, .ref q4, .int (nI ne), .int (nI (if ch T n ((rn T n 4 i 0).1) = 33 then ((rn T n 4 i 0).1) + 1 else ((rn T n 4 i 0).1))), .int ((rn T n 4 i 0).2)])), (q1, .inl (g.2.1.1, 100, .inl T)), (q2, .inl (g.2.1.1, 100, .inl (kstore 100 fk (nI ne) ((rn T n 4 i 0).2)))), (q3, .inl (g.2.1.1, 100, .inl (kstore 100 fv (nI ne) 0))), (q4, .inl (g.2.1.1, 100, .inl (kstore 100 fr (nI ne) 1)))] := hD
      refine lv_aload_n hx hb dX1_readEntry_87 rfl (lv_at hl 1 rfl) ?_
      refine lv_dup hx hb dX1_readEntry_88 rfl ?_
      refine va_get (D := g.1) (ci := 3) (v := .int (nI ne)) (C := RX1) (T := TX1) (N := 8) hx hb hts (by decide +kernel) hown hK hP 0 rfl rfl 5 (by decide) (hts (.fieldLink RX1 45 "LearnedIndex$Input" "entries" "I") (by decide +kernel)) (fun _ h9 => h9) rfl dX1_readEntry_89 ?_
      refine lv_iconst (v := 1) hx hb dX1_readEntry_92 (by decide) ?_
      refine lv_iadd hx hb dX1_readEntry_93 ?_
      rw [show ((nI ne) + 1 : Int32) = nI (ne + 1) from nI_1 _]
      refine va_put (D := g.1) (ci := 3) (v := .int (nI (ne + 1))) (ty := .int) (C := RX1) (T := TX1) (N := 8) hx hb hts (by decide +kernel) tyX1 tyX1_ok nmX1 hown hK hP hD hS 0 rfl rfl 5 (by decide) (hts (.fieldLink RX1 45 "LearnedIndex$Input" "entries" "I") (by decide +kernel)) (fun _ h9 => h9) rfl (by decide +kernel) rfl rfl (Nat.le_of_ble_eq_true rfl) dX1_readEntry_94 (fun H locs hP hD hS => ?_)
      have hP : va_P g.1 vwCl [(h, .inr (3, [.ref q1, .int (nI n), .ref q2, .ref q3, .ref q4, .int (nI (ne + 1)), .int (nI (if ch T n ((rn T n 4 i 0).1) = 33 then ((rn T n 4 i 0).1) + 1 else ((rn T n 4 i 0).1))), .int ((rn T n 4 i 0).2)])), (q1, .inl (g.2.1.1, 100, .inl T)), (q2, .inl (g.2.1.1, 100, .inl (kstore 100 fk (nI ne) ((rn T n 4 i 0).2)))), (q3, .inl (g.2.1.1, 100, .inl (kstore 100 fv (nI ne) 0))), (q4, .inl (g.2.1.1, 100, .inl (kstore 100 fr (nI ne) 1)))] H := hP
      have hD : va_D A [(h, .inr (3, [.ref q1, .int (nI n), .ref q2, .ref q3, .ref q4, .int (nI (ne + 1)), .int (nI (if ch T n ((rn T n 4 i 0).1) = 33 then ((rn T n 4 i 0).1) + 1 else ((rn T n 4 i 0).1))), .int ((rn T n 4 i 0).2)])), (q1, .inl (g.2.1.1, 100, .inl T)), (q2, .inl (g.2.1.1, 100, .inl (kstore 100 fk (nI ne) ((rn T n 4 i 0).2)))), (q3, .inl (g.2.1.1, 100, .inl (kstore 100 fv (nI ne) 0))), (q4, .inl (g.2.1.1, 100, .inl (kstore 100 fr (nI ne) 1)))] := hD
      refine lv_iconst (v := 1) hx hb dX1_readEntry_97 (by decide) ?_
      exact kretz hx hb hRt hlk hK hP hD hS rfl dX1_readEntry_98 (Or.inr rfl) (⟨_, _, _, _, _, _, Or.inr ⟨_, by rw [rE, if_neg f1, if_pos f2], rfl, rfl, EL_pushs hne⟩, by rw [if_pos f2]⟩)
  · skip
    have f1 : (rn T n 4 i 0).1 = i := Decidable.byContradiction (fun z => absurd c_4 (by rw [decide_eq_true z]; decide))
    refine lv_iconst (v := 0) hx hb dX1_readEntry_7 (by decide) ?_
    exact kretz hx hb hRt hlk hK hP hD hS rfl dX1_readEntry_8 (Or.inl rfl) (⟨i, ne, fk, fv, fr, _, Or.inl ⟨by rw [rE, if_pos f1], rfl, rfl, rfl⟩, by rw [f1]⟩)
set_option maxRecDepth 20000 in
theorem ggX1_parse_X1_readEntry : GoodIn wsX1_parse wsX1_readEntry := goodIn_ca (goodIn_r _ [8, 9, 2, 10, 11, 12, 13, 14, 15, 7, 16, 1, 17, 18, 19, 20, 3, 21, 22, 23, 24, 25, 26, 27, 28, 29, 30, 31, 32, 33, 34, 35, 36, 37, 38, 39, 40, 41, 42, 43, 44, 45] (by decide +kernel) (by decide +kernel)) (goodIn_sub (fun _ h => List.mem_cons_of_mem _ (List.mem_append_right _ h)) (by decide +kernel))
set_option maxRecDepth 20000 in
theorem gX1_parse_X1_readEntry : GoodIn wsX1_parse (wsV RX1 48 RX1 yX1_readEntry wsX1_readEntry) := goodIn_app (goodIn_of _ (by decide +kernel)) ggX1_parse_X1_readEntry
set_option maxRecDepth 20000 in
theorem ggX1_parse_X1_take : GoodIn wsX1_parse wsX1_take := goodIn_ca (goodIn_r _ [33, 1, 17, 18, 19, 7, 20, 3, 21, 22, 23, 24, 38, 39, 40, 41, 42, 43, 44, 45] (by decide +kernel) (by decide +kernel)) (goodIn_sub (fun _ h => List.mem_cons_of_mem _ (List.mem_append_right _ h)) (by decide +kernel))
set_option maxRecDepth 20000 in
theorem gX1_parse_X1_take : GoodIn wsX1_parse (wsV RX1 52 RX1 yX1_take wsX1_take) := goodIn_app (goodIn_of _ (by decide +kernel)) ggX1_parse_X1_take
theorem dX1_parse_0 : decode cX1_parse 0 = .ok (.aload_n 0, 1) := by decide +kernel
theorem dX1_parse_1 : decode cX1_parse 1 = .ok (.iconst 0, 1) := by decide +kernel
theorem dX1_parse_2 : decode cX1_parse 2 = .ok (.putfield 42, 3) := by decide +kernel
theorem dX1_parse_5 : decode cX1_parse 5 = .ok (.aload_n 0, 1) := by decide +kernel
theorem dX1_parse_6 : decode cX1_parse 6 = .ok (.iconst 0, 1) := by decide +kernel
theorem dX1_parse_7 : decode cX1_parse 7 = .ok (.putfield 45, 3) := by decide +kernel
theorem dX1_parse_10 : decode cX1_parse 10 = .ok (.aload_n 0, 1) := by decide +kernel
theorem dX1_parse_11 : decode cX1_parse 11 = .ok (.getfield 24, 3) := by decide +kernel
theorem dX1_parse_14 : decode cX1_parse 14 = .ok (.ifCond .eq 10, 3) := by decide +kernel
theorem dX1_parse_17 : decode cX1_parse 17 = .ok (.aload_n 0, 1) := by decide +kernel
theorem dX1_parse_18 : decode cX1_parse 18 = .ok (.invokevirtual 48, 3) := by decide +kernel
theorem dX1_parse_21 : decode cX1_parse 21 = .ok (.ifCond .eq 7, 3) := by decide +kernel
theorem dX1_parse_24 : decode cX1_parse 24 = .ok (.iconst 1, 1) := by decide +kernel
theorem dX1_parse_25 : decode cX1_parse 25 = .ok (.goto 4, 3) := by decide +kernel
theorem dX1_parse_28 : decode cX1_parse 28 = .ok (.iconst 0, 1) := by decide +kernel
theorem dX1_parse_29 : decode cX1_parse 29 = .ok (.istore_n 1, 1) := by decide +kernel
theorem dX1_parse_30 : decode cX1_parse 30 = .ok (.iconst 0, 1) := by decide +kernel
theorem dX1_parse_31 : decode cX1_parse 31 = .ok (.istore_n 2, 1) := by decide +kernel
theorem dX1_parse_32 : decode cX1_parse 32 = .ok (.iload_n 2, 1) := by decide +kernel
theorem dX1_parse_33 : decode cX1_parse 33 = .ok (.bipush 100, 2) := by decide +kernel
theorem dX1_parse_35 : decode cX1_parse 35 = .ok (.if_icmp .ge 46, 3) := by decide +kernel
theorem dX1_parse_38 : decode cX1_parse 38 = .ok (.iload_n 1, 1) := by decide +kernel
theorem dX1_parse_39 : decode cX1_parse 39 = .ok (.ifCond .eq 42, 3) := by decide +kernel
theorem dX1_parse_42 : decode cX1_parse 42 = .ok (.aload_n 0, 1) := by decide +kernel
theorem dX1_parse_43 : decode cX1_parse 43 = .ok (.getfield 42, 3) := by decide +kernel
theorem dX1_parse_46 : decode cX1_parse 46 = .ok (.aload_n 0, 1) := by decide +kernel
theorem dX1_parse_47 : decode cX1_parse 47 = .ok (.getfield 24, 3) := by decide +kernel
theorem dX1_parse_50 : decode cX1_parse 50 = .ok (.if_icmp .ge 31, 3) := by decide +kernel
theorem dX1_parse_53 : decode cX1_parse 53 = .ok (.aload_n 0, 1) := by decide +kernel
theorem dX1_parse_54 : decode cX1_parse 54 = .ok (.bipush 59, 2) := by decide +kernel
theorem dX1_parse_56 : decode cX1_parse 56 = .ok (.invokevirtual 52, 3) := by decide +kernel
theorem dX1_parse_59 : decode cX1_parse 59 = .ok (.ifCond .eq 14, 3) := by decide +kernel
theorem dX1_parse_62 : decode cX1_parse 62 = .ok (.aload_n 0, 1) := by decide +kernel
theorem dX1_parse_63 : decode cX1_parse 63 = .ok (.invokevirtual 48, 3) := by decide +kernel
theorem dX1_parse_66 : decode cX1_parse 66 = .ok (.ifCond .eq 7, 3) := by decide +kernel
theorem dX1_parse_69 : decode cX1_parse 69 = .ok (.iconst 1, 1) := by decide +kernel
theorem dX1_parse_70 : decode cX1_parse 70 = .ok (.goto 4, 3) := by decide +kernel
theorem dX1_parse_73 : decode cX1_parse 73 = .ok (.iconst 0, 1) := by decide +kernel
theorem dX1_parse_74 : decode cX1_parse 74 = .ok (.istore_n 1, 1) := by decide +kernel
theorem dX1_parse_75 : decode cX1_parse 75 = .ok (.iinc 2 1, 3) := by decide +kernel
theorem dX1_parse_78 : decode cX1_parse 78 = .ok (.goto (-46), 3) := by decide +kernel
theorem dX1_parse_81 : decode cX1_parse 81 = .ok (.iload_n 1, 1) := by decide +kernel
theorem dX1_parse_82 : decode cX1_parse 82 = .ok (.ireturn, 1) := by decide +kernel
def rm_X1_parse : Room := { frames := 5, cells := 0, slots := 0, locals := 104 }
abbrev p_X1_parse (g : kG) (h : Nat) (q1 : Nat) (q2 : Nat) (q3 : Nat) (q4 : Nat) (n : Nat) (T : Nat → Int32) (fk : Nat → Int32) (fv : Nat → Int32) (fr : Nat → Int32) (v : Int32) (e0 : Int32) (a0 : Int32) : Int32 → va_W → Prop := fun r w1 => ∃ (j : Nat), ∃ (ne2 : Nat), ∃ (gk : Nat → Int32), ∃ (gv : Nat → Int32), ∃ (gr : Nat → Int32), ∃ (v2 : Int32), ((r = 1 ∧ pT T n = (true, j, EL ne2 gk gv gr)) ∨ (r = 0 ∧ (pT T n).1 = false ∧ (pT T n).2.1 = j)) ∧ w1 = [(h, .inr (3, [.ref q1, .int (nI n), .ref q2, .ref q3, .ref q4, .int (nI ne2), .int (nI j), .int v2])), (q1, .inl (g.2.1.1, 100, .inl T)), (q2, .inl (g.2.1.1, 100, .inl gk)), (q3, .inl (g.2.1.1, 100, .inl gv)), (q4, .inl (g.2.1.1, 100, .inl gr))]
set_option maxHeartbeats 4000000 in
set_option maxRecDepth 100000 in
theorem c_X1_parse (l : Launch) (g : kG) (h : Nat) (q1 : Nat) (q2 : Nat) (q3 : Nat) (q4 : Nat) (n : Nat) (T : Nat → Int32) (fk : Nat → Int32) (fv : Nat → Int32) (fr : Nat → Int32) (v : Int32) (e0 : Int32) (a0 : Int32) (hn : n ≤ 100) : KI l yX1_parse wsX1_parse rm_X1_parse g [.ref h] [(h, .inr (3, [.ref q1, .int (nI n), .ref q2, .ref q3, .ref q4, .int e0, .int a0, .int v])), (q1, .inl (g.2.1.1, 100, .inl T)), (q2, .inl (g.2.1.1, 100, .inl fk)), (q3, .inl (g.2.1.1, 100, .inl fv)), (q4, .inl (g.2.1.1, 100, .inl fr))] (p_X1_parse g h q1 q2 q3 q4 n T fk fv fr v e0 a0) := by
  refine kbodyI (cc := cX1_parse) (n := 3) (k := 5) (own := RX1) (plainFor_of_name (by decide)) rfl rfl rfl rfl ?_
  intro p e s m below meth cd A ls hcx
  obtain ⟨hx, hb, hRt, hml, hts, hown, hlk, hA, hP, hK, hD, hE, hS, hl⟩ := hcx
  have hl : lv_has ls 3 [(0, .ref h)] := hl
  refine lv_aload_n hx hb dX1_parse_0 rfl (lv_at hl 0 rfl) ?_
  refine lv_iconst (v := 0) hx hb dX1_parse_1 (by decide) ?_
  refine va_put (D := g.1) (ci := 3) (v := .int 0) (ty := .int) (C := RX1) (T := TX1) (N := 8) hx hb hts (by decide +kernel) tyX1 tyX1_ok nmX1 hown hK hP hD hS 0 rfl rfl 6 (by decide) (hts (.fieldLink RX1 42 "LearnedIndex$Input" "at" "I") (by decide +kernel)) (fun _ h9 => h9) rfl (by decide +kernel) rfl rfl (Nat.le_of_ble_eq_true rfl) dX1_parse_2 (fun H locs hP hD hS => ?_)
  have hP : va_P g.1 vwCl [(h, .inr (3, [.ref q1, .int (nI n), .ref q2, .ref q3, .ref q4, .int e0, .int 0, .int v])), (q1, .inl (g.2.1.1, 100, .inl T)), (q2, .inl (g.2.1.1, 100, .inl fk)), (q3, .inl (g.2.1.1, 100, .inl fv)), (q4, .inl (g.2.1.1, 100, .inl fr))] H := hP
  have hD : va_D A [(h, .inr (3, [.ref q1, .int (nI n), .ref q2, .ref q3, .ref q4, .int e0, .int 0, .int v])), (q1, .inl (g.2.1.1, 100, .inl T)), (q2, .inl (g.2.1.1, 100, .inl fk)), (q3, .inl (g.2.1.1, 100, .inl fv)), (q4, .inl (g.2.1.1, 100, .inl fr))] := hD
  refine lv_aload_n hx hb dX1_parse_5 rfl (lv_at hl 0 rfl) ?_
  refine lv_iconst (v := 0) hx hb dX1_parse_6 (by decide) ?_
  refine va_put (D := g.1) (ci := 3) (v := .int 0) (ty := .int) (C := RX1) (T := TX1) (N := 8) hx hb hts (by decide +kernel) tyX1 tyX1_ok nmX1 hown hK hP hD hS 0 rfl rfl 5 (by decide) (hts (.fieldLink RX1 45 "LearnedIndex$Input" "entries" "I") (by decide +kernel)) (fun _ h9 => h9) rfl (by decide +kernel) rfl rfl (Nat.le_of_ble_eq_true rfl) dX1_parse_7 (fun H locs hP hD hS => ?_)
  have hP : va_P g.1 vwCl [(h, .inr (3, [.ref q1, .int (nI n), .ref q2, .ref q3, .ref q4, .int 0, .int 0, .int v])), (q1, .inl (g.2.1.1, 100, .inl T)), (q2, .inl (g.2.1.1, 100, .inl fk)), (q3, .inl (g.2.1.1, 100, .inl fv)), (q4, .inl (g.2.1.1, 100, .inl fr))] H := hP
  have hD : va_D A [(h, .inr (3, [.ref q1, .int (nI n), .ref q2, .ref q3, .ref q4, .int 0, .int 0, .int v])), (q1, .inl (g.2.1.1, 100, .inl T)), (q2, .inl (g.2.1.1, 100, .inl fk)), (q3, .inl (g.2.1.1, 100, .inl fv)), (q4, .inl (g.2.1.1, 100, .inl fr))] := hD
  refine lv_aload_n hx hb dX1_parse_10 rfl (lv_at hl 0 rfl) ?_
  refine va_get (D := g.1) (ci := 3) (v := .int (nI n)) (C := RX1) (T := TX1) (N := 8) hx hb hts (by decide +kernel) hown hK hP 0 rfl rfl 1 (by decide) (hts (.fieldLink RX1 24 "LearnedIndex$Input" "length" "I") (by decide +kernel)) (fun _ h9 => h9) rfl dX1_parse_11 ?_
  refine lv_if_eq (tgt := 24) hx hb dX1_parse_14 (by decide) (fun c_14 => ?_) (fun c_14 => ?_)
  · skip
    have hn0 : n = 0 := Decidable.byContradiction (fun z => nI_ne0 (Nat.pos_of_ne_zero z) (by omega) c_14)
    have hst0 : ((1 : Int32) = 1 ∧ pl T n (100 - 0) 0 (EL 0 fk fv fr) = pT T n) ∨ ((1 : Int32) = 0 ∧ (pT T n).1 = false ∧ (pT T n).2.1 = 0) := Or.inl ⟨rfl, by rw [pl_e (Nat.le_of_eq hn0), pT, if_pos hn0, show EL 0 fk fv fr = [] from rfl]⟩
    have hj0 : 0 ≤ n ∧ 0 ≤ 0 := ⟨Nat.zero_le _, Nat.le_refl _⟩
    refine lv_iconst (v := 1) hx hb dX1_parse_24 (by decide) ?_
    refine lv_goto (tgt := 29) hx hb dX1_parse_25 (by decide) ?_
    refine lv_istore_n (lv' := [(1, .int 1), (0, .ref h)]) hx hb dX1_parse_29 rfl hl (by decide) rfl (fun ls hl => ?_)
    refine lv_iconst (v := 0) hx hb dX1_parse_30 (by decide) ?_
    refine lv_istore_n (lv' := [(2, .int 0), (1, .int 1), (0, .ref h)]) hx hb dX1_parse_31 rfl hl (by decide) rfl (fun ls hl => ?_)
    have L32 : ∀ (n9 : Nat) (k : Nat) (fl : Int32) (j : Nat) (ne : Nat) (fk : Nat → Int32) (fv : Nat → Int32) (fr : Nat → Int32) (v : Int32) (H : Heap) (locs : List Loc) (ls : Array Slot), (k ≤ 100) → (j ≤ n ∧ ne ≤ j) → ((fl = 1 ∧ pl T n (100 - k) j (EL ne fk fv fr) = pT T n) ∨ (fl = 0 ∧ (pT T n).1 = false ∧ (pT T n).2.1 = j)) → 100 - k < n9 → va_P g.1 vwCl [(h, .inr (3, [.ref q1, .int (nI n), .ref q2, .ref q3, .ref q4, .int (nI ne), .int (nI j), .int v])), (q1, .inl (g.2.1.1, 100, .inl T)), (q2, .inl (g.2.1.1, 100, .inl fk)), (q3, .inl (g.2.1.1, 100, .inl fv)), (q4, .inl (g.2.1.1, 100, .inl fr))] H → va_D A [(h, .inr (3, [.ref q1, .int (nI n), .ref q2, .ref q3, .ref q4, .int (nI ne), .int (nI j), .int v])), (q1, .inl (g.2.1.1, 100, .inl T)), (q2, .inl (g.2.1.1, 100, .inl fk)), (q3, .inl (g.2.1.1, 100, .inl fv)), (q4, .inl (g.2.1.1, 100, .inl fr))] → va_S A s.heap H locs → lv_has ls 3 [(2, .int (nI k)), (1, .int fl), (0, .ref h)] → W p l e rm_X1_parse s m ([.ref h] : List Value).toArray below meth cd H locs 0 0 (kQi g 5 A (p_X1_parse g h q1 q2 q3 q4 n T fk fv fr v e0 a0) below ([.ref h] : List Value).toArray s) (F0 m 32 ls []) := by
      intro n9
      induction n9 with
      | zero => intro k fl j ne fk fv fr v H locs ls hk0 hj hst h9; exact absurd h9 (Nat.not_lt_zero _)
      | succ n9 ih32 =>
        intro k fl j ne fk fv fr v H locs ls hk0 hj hst hn32 hP hD hS hl
        refine lv_iload_n hx hb dX1_parse_32 rfl (lv_at hl 0 rfl) ?_
        refine lv_bipush (v := 100) hx hb dX1_parse_33 (by decide) ?_
        refine lv_icmp_ge (tgt := 81) hx hb dX1_parse_35 (by decide) (fun c_35 => ?_) (fun c_35 => ?_)
        · skip
          have hk : 100 ≤ k := by rw [show (100 : Int32) = nI 100 from rfl, nI_leI (by decide) (by omega)] at c_35; exact c_35
          have hres : (fl = 1 ∧ pT T n = (true, j, EL ne fk fv fr)) ∨ (fl = 0 ∧ (pT T n).1 = false ∧ (pT T n).2.1 = j) := hst.elim (fun z => Or.inl ⟨z.1, by rw [← z.2, show 100 - k = 0 by omega]; rfl⟩) Or.inr
          refine lv_iload_n hx hb dX1_parse_81 rfl (lv_at hl 1 rfl) ?_
          exact kretz hx hb hRt hlk hK hP hD hS rfl dX1_parse_82 (hres.elim (fun z => Or.inr z.1) (fun z => Or.inl z.1)) (⟨j, ne, fk, fv, fr, v, hres, rfl⟩)
        · skip
          have hk : k < 100 := by rw [show (100 : Int32) = nI 100 from rfl, nI_leI (by decide) (by omega)] at c_35; omega
          refine lv_iload_n hx hb dX1_parse_38 rfl (lv_at hl 1 rfl) ?_
          refine lv_if_eq (tgt := 81) hx hb dX1_parse_39 (by decide) (fun c_39 => ?_) (fun c_39 => ?_)
          · skip
            have hres : (fl = 1 ∧ pT T n = (true, j, EL ne fk fv fr)) ∨ (fl = 0 ∧ (pT T n).1 = false ∧ (pT T n).2.1 = j) := hst.elim (fun z => absurd (z.1.symm.trans c_39) (by decide)) Or.inr
            refine lv_iload_n hx hb dX1_parse_81 rfl (lv_at hl 1 rfl) ?_
            exact kretz hx hb hRt hlk hK hP hD hS rfl dX1_parse_82 (hres.elim (fun z => Or.inr z.1) (fun z => Or.inl z.1)) (⟨j, ne, fk, fv, fr, v, hres, rfl⟩)
          · skip
            obtain ⟨hfl, hpl⟩ : fl = 1 ∧ pl T n (100 - k) j (EL ne fk fv fr) = pT T n := hst.elim (fun z => z) (fun z => absurd z.1 c_39)
            refine lv_aload_n hx hb dX1_parse_42 rfl (lv_at hl 2 rfl) ?_
            refine va_get (D := g.1) (ci := 3) (v := .int (nI j)) (C := RX1) (T := TX1) (N := 8) hx hb hts (by decide +kernel) hown hK hP 0 rfl rfl 6 (by decide) (hts (.fieldLink RX1 42 "LearnedIndex$Input" "at" "I") (by decide +kernel)) (fun _ h9 => h9) rfl dX1_parse_43 ?_
            refine lv_aload_n hx hb dX1_parse_46 rfl (lv_at hl 2 rfl) ?_
            refine va_get (D := g.1) (ci := 3) (v := .int (nI n)) (C := RX1) (T := TX1) (N := 8) hx hb hts (by decide +kernel) hown hK hP 0 rfl rfl 1 (by decide) (hts (.fieldLink RX1 24 "LearnedIndex$Input" "length" "I") (by decide +kernel)) (fun _ h9 => h9) rfl dX1_parse_47 ?_
            refine lv_icmp_ge (tgt := 81) hx hb dX1_parse_50 (by decide) (fun c_50 => ?_) (fun c_50 => ?_)
            · skip
              have hjn : n ≤ j := kg (by omega) (by omega) c_50
              have hres : (fl = 1 ∧ pT T n = (true, j, EL ne fk fv fr)) ∨ (fl = 0 ∧ (pT T n).1 = false ∧ (pT T n).2.1 = j) := Or.inl ⟨hfl, by rw [← hpl, pl_e hjn]⟩
              refine lv_iload_n hx hb dX1_parse_81 rfl (lv_at hl 1 rfl) ?_
              exact kretz hx hb hRt hlk hK hP hD hS rfl dX1_parse_82 (hres.elim (fun z => Or.inr z.1) (fun z => Or.inl z.1)) (⟨j, ne, fk, fv, fr, v, hres, rfl⟩)
            · skip
              have hjn : j < n := kl (by omega) (by omega) c_50
              rw [show 100 - k = (99 - k) + 1 by omega] at hpl
              have hle := rE_le (T := T) (n := n) (i := j + 1) (by omega)
              refine lv_aload_n hx hb dX1_parse_53 rfl (lv_at hl 2 rfl) ?_
              refine lv_bipush (v := 59) hx hb dX1_parse_54 (by decide) ?_
              refine kcalli (wc := [(h, .inr (3, [.ref q1, .int (nI n), .ref q2, .ref q3, .ref q4, .int (nI ne), .int (nI j), .int v])), (q1, .inl (g.2.1.1, 100, .inl T)), (q2, .inl (g.2.1.1, 100, .inl fk)), (q3, .inl (g.2.1.1, 100, .inl fv)), (q4, .inl (g.2.1.1, 100, .inl fr))]) [0, 1, 2, 3, 4] (va_runV (C := RX1) (As := [.int 59]) (rest := []) ⟨hx, hb, hml, hown, hts⟩ ((c_X1_take l g h q1 q2 q3 q4 n T fk fv fr ne j v 59 hn hj.1) _) (cwV 1 hts gX1_parse_X1_take rfl rfl rfl (by decide +kernel) ⟨Nat.le_of_ble_eq_true rfl, Nat.le_of_ble_eq_true rfl⟩) (kpreV (wc := [(h, .inr (3, [.ref q1, .int (nI n), .ref q2, .ref q3, .ref q4, .int (nI ne), .int (nI j), .int v])), (q1, .inl (g.2.1.1, 100, .inl T)), (q2, .inl (g.2.1.1, 100, .inl fk)), (q3, .inl (g.2.1.1, 100, .inl fv)), (q4, .inl (g.2.1.1, 100, .inl fr))]) (ci := 3) hK hP hD hS hA hE [0, 1, 2, 3, 4] rfl rfl rfl rfl) rfl rfl hl.1 rfl (lv_room (Nat.le_of_ble_eq_true rfl)) dX1_parse_56 ⟨Nat.zero_le _, Nat.zero_le _⟩) hP hD hS hA rfl (fun r_1 w_1 H locs hp hP hD hS => ?_)
              obtain ⟨rfl, rfl⟩ := hp
              have hP : va_P g.1 vwCl [(h, .inr (3, [.ref q1, .int (nI n), .ref q2, .ref q3, .ref q4, .int (nI ne), .int (nI (if ch T n j = 59 then j + 1 else j)), .int v])), (q1, .inl (g.2.1.1, 100, .inl T)), (q2, .inl (g.2.1.1, 100, .inl fk)), (q3, .inl (g.2.1.1, 100, .inl fv)), (q4, .inl (g.2.1.1, 100, .inl fr))] H := hP
              have hD : va_D A [(h, .inr (3, [.ref q1, .int (nI n), .ref q2, .ref q3, .ref q4, .int (nI ne), .int (nI (if ch T n j = 59 then j + 1 else j)), .int v])), (q1, .inl (g.2.1.1, 100, .inl T)), (q2, .inl (g.2.1.1, 100, .inl fk)), (q3, .inl (g.2.1.1, 100, .inl fv)), (q4, .inl (g.2.1.1, 100, .inl fr))] := hD
              refine lv_if_eq (tgt := 73) hx hb dX1_parse_59 (by decide) (fun c_59 => ?_) (fun c_59 => ?_)
              · skip
                have f1 : ¬ ch T n j = 59 := fun z => absurd c_59 (by rw [decide_eq_true z]; decide)
                have hst2 : ((0 : Int32) = 1 ∧ pl T n (100 - (k + 1)) j (EL ne fk fv fr) = pT T n) ∨ ((0 : Int32) = 0 ∧ (pT T n).1 = false ∧ (pT T n).2.1 = j) := Or.inr ⟨rfl, by rw [← hpl, pl_n hjn f1], by rw [← hpl, pl_n hjn f1]⟩
                have hj2 : j ≤ n ∧ ne ≤ j := hj
                rw [if_neg f1] at hP hD
                have hP : va_P g.1 vwCl [(h, .inr (3, [.ref q1, .int (nI n), .ref q2, .ref q3, .ref q4, .int (nI ne), .int (nI j), .int v])), (q1, .inl (g.2.1.1, 100, .inl T)), (q2, .inl (g.2.1.1, 100, .inl fk)), (q3, .inl (g.2.1.1, 100, .inl fv)), (q4, .inl (g.2.1.1, 100, .inl fr))] H := hP
                have hD : va_D A [(h, .inr (3, [.ref q1, .int (nI n), .ref q2, .ref q3, .ref q4, .int (nI ne), .int (nI j), .int v])), (q1, .inl (g.2.1.1, 100, .inl T)), (q2, .inl (g.2.1.1, 100, .inl fk)), (q3, .inl (g.2.1.1, 100, .inl fv)), (q4, .inl (g.2.1.1, 100, .inl fr))] := hD
                refine lv_iconst (v := 0) hx hb dX1_parse_73 (by decide) ?_
                refine lv_istore_n (lv' := [(1, .int 0), (2, .int (nI k)), (0, .ref h)]) hx hb dX1_parse_74 rfl hl (by decide) rfl (fun ls hl => ?_)
                refine lv_iinc (v := nI (k + 1)) (lv' := [(2, .int (nI (k + 1))), (1, .int 0), (0, .ref h)]) hx hb dX1_parse_75 hl (k := 1) rfl (nI_1 k) (by decide) rfl (fun ls hl => ?_)
                refine lv_goto (tgt := 32) hx hb dX1_parse_78 (by decide) ?_
                exact ih32 (k + 1) 0 j ne fk fv fr v _ _ ls (by omega) hj2 hst2 (by omega) hP hD hS (lv_sub hl [0, 1, 2] rfl)
              · skip
                have f1 : ch T n j = 59 := Decidable.byContradiction (fun z => c_59 (by rw [decide_eq_false z]; rfl))
                rw [if_pos f1] at hP hD
                have hP : va_P g.1 vwCl [(h, .inr (3, [.ref q1, .int (nI n), .ref q2, .ref q3, .ref q4, .int (nI ne), .int (nI (j + 1)), .int v])), (q1, .inl (g.2.1.1, 100, .inl T)), (q2, .inl (g.2.1.1, 100, .inl fk)), (q3, .inl (g.2.1.1, 100, .inl fv)), (q4, .inl (g.2.1.1, 100, .inl fr))] H := hP
                have hD : va_D A [(h, .inr (3, [.ref q1, .int (nI n), .ref q2, .ref q3, .ref q4, .int (nI ne), .int (nI (j + 1)), .int v])), (q1, .inl (g.2.1.1, 100, .inl T)), (q2, .inl (g.2.1.1, 100, .inl fk)), (q3, .inl (g.2.1.1, 100, .inl fv)), (q4, .inl (g.2.1.1, 100, .inl fr))] := hD
                refine lv_aload_n hx hb dX1_parse_62 rfl (lv_at hl 2 rfl) ?_
                refine kcalli (wc := [(h, .inr (3, [.ref q1, .int (nI n), .ref q2, .ref q3, .ref q4, .int (nI ne), .int (nI (j + 1)), .int v])), (q1, .inl (g.2.1.1, 100, .inl T)), (q2, .inl (g.2.1.1, 100, .inl fk)), (q3, .inl (g.2.1.1, 100, .inl fv)), (q4, .inl (g.2.1.1, 100, .inl fr))]) [0, 1, 2, 3, 4] (va_runV (C := RX1) (As := []) (rest := []) ⟨hx, hb, hml, hown, hts⟩ ((c_X1_readEntry l g h q1 q2 q3 q4 n T fk fv fr ne (j + 1) v hn (by omega) (by omega)) _) (cwV 0 hts gX1_parse_X1_readEntry rfl rfl rfl (by decide +kernel) ⟨Nat.le_of_ble_eq_true rfl, Nat.le_of_ble_eq_true rfl⟩) (kpreV (wc := [(h, .inr (3, [.ref q1, .int (nI n), .ref q2, .ref q3, .ref q4, .int (nI ne), .int (nI (j + 1)), .int v])), (q1, .inl (g.2.1.1, 100, .inl T)), (q2, .inl (g.2.1.1, 100, .inl fk)), (q3, .inl (g.2.1.1, 100, .inl fv)), (q4, .inl (g.2.1.1, 100, .inl fr))]) (ci := 3) hK hP hD hS hA hE [0, 1, 2, 3, 4] rfl rfl rfl rfl) rfl rfl hl.1 rfl (lv_room (Nat.le_of_ble_eq_true rfl)) dX1_parse_63 ⟨Nat.zero_le _, Nat.zero_le _⟩) hP hD hS hA rfl (fun rt w_2 H locs hp hP hD hS => ?_)
                obtain ⟨j2, ne2, gk2, gv2, gr2, v2, hEn, rfl⟩ := hp
                have hP : va_P g.1 vwCl [(h, .inr (3, [.ref q1, .int (nI n), .ref q2, .ref q3, .ref q4, .int (nI ne2), .int (nI j2), .int v2])), (q1, .inl (g.2.1.1, 100, .inl T)), (q2, .inl (g.2.1.1, 100, .inl gk2)), (q3, .inl (g.2.1.1, 100, .inl gv2)), (q4, .inl (g.2.1.1, 100, .inl gr2))] H := hP
                have hD : va_D A [(h, .inr (3, [.ref q1, .int (nI n), .ref q2, .ref q3, .ref q4, .int (nI ne2), .int (nI j2), .int v2])), (q1, .inl (g.2.1.1, 100, .inl T)), (q2, .inl (g.2.1.1, 100, .inl gk2)), (q3, .inl (g.2.1.1, 100, .inl gv2)), (q4, .inl (g.2.1.1, 100, .inl gr2))] := hD
                refine lv_if_eq (tgt := 73) hx hb dX1_parse_66 (by decide) (fun c_66 => ?_) (fun c_66 => ?_)
                · skip
                  obtain ⟨t1, -, t3, t4⟩ : rE T n (j + 1) = (j2, none) ∧ rt = 0 ∧ ne2 = ne ∧ EL ne gk2 gv2 gr2 = EL ne fk fv fr := hEn.elim (fun z => z) (fun ⟨_, z⟩ => absurd (z.2.1.symm.trans c_66) (by decide))
                  have hst2 : ((0 : Int32) = 1 ∧ pl T n (100 - (k + 1)) j2 (EL ne2 gk2 gv2 gr2) = pT T n) ∨ ((0 : Int32) = 0 ∧ (pT T n).1 = false ∧ (pT T n).2.1 = j2) := Or.inr ⟨rfl, by rw [← hpl, pl_f hjn f1 (by rw [t1])], by rw [← hpl, pl_f hjn f1 (by rw [t1]), t1]⟩
                  have hj2 : j2 ≤ n ∧ ne2 ≤ j2 := by rw [t1] at hle; simp at hle; omega
                  refine lv_iconst (v := 0) hx hb dX1_parse_73 (by decide) ?_
                  refine lv_istore_n (lv' := [(1, .int 0), (2, .int (nI k)), (0, .ref h)]) hx hb dX1_parse_74 rfl hl (by decide) rfl (fun ls hl => ?_)
                  refine lv_iinc (v := nI (k + 1)) (lv' := [(2, .int (nI (k + 1))), (1, .int 0), (0, .ref h)]) hx hb dX1_parse_75 hl (k := 1) rfl (nI_1 k) (by decide) rfl (fun ls hl => ?_)
                  refine lv_goto (tgt := 32) hx hb dX1_parse_78 (by decide) ?_
                  exact ih32 (k + 1) 0 j2 ne2 gk2 gv2 gr2 v2 _ _ ls (by omega) hj2 hst2 (by omega) hP hD hS (lv_sub hl [0, 1, 2] rfl)
                · skip
                  obtain ⟨e9, t1, -, t3, t4⟩ : ∃ e9 : kE3, rE T n (j + 1) = (j2, some e9) ∧ rt = 1 ∧ ne2 = ne + 1 ∧ EL (ne + 1) gk2 gv2 gr2 = EL ne fk fv fr ++ [e9] := hEn.elim (fun z => absurd z.2.1 c_66) (fun z => z)
                  have hst2 : ((1 : Int32) = 1 ∧ pl T n (100 - (k + 1)) j2 (EL ne2 gk2 gv2 gr2) = pT T n) ∨ ((1 : Int32) = 0 ∧ (pT T n).1 = false ∧ (pT T n).2.1 = j2) := Or.inl ⟨rfl, by rw [t3, t4, ← hpl, pl_s hjn f1 (by rw [t1]), t1, show 100 - (k + 1) = 99 - k by omega]⟩
                  have hj2 : j2 ≤ n ∧ ne2 ≤ j2 := by rw [t1] at hle; simp at hle; omega
                  refine lv_iconst (v := 1) hx hb dX1_parse_69 (by decide) ?_
                  refine lv_goto (tgt := 74) hx hb dX1_parse_70 (by decide) ?_
                  refine lv_istore_n (lv' := [(1, .int 1), (2, .int (nI k)), (0, .ref h)]) hx hb dX1_parse_74 rfl hl (by decide) rfl (fun ls hl => ?_)
                  refine lv_iinc (v := nI (k + 1)) (lv' := [(2, .int (nI (k + 1))), (1, .int 1), (0, .ref h)]) hx hb dX1_parse_75 hl (k := 1) rfl (nI_1 k) (by decide) rfl (fun ls hl => ?_)
                  refine lv_goto (tgt := 32) hx hb dX1_parse_78 (by decide) ?_
                  exact ih32 (k + 1) 1 j2 ne2 gk2 gv2 gr2 v2 _ _ ls (by omega) hj2 hst2 (by omega) hP hD hS (lv_sub hl [0, 1, 2] rfl)
    exact L32 _ 0 1 0 0 fk fv fr v _ _ ls (Nat.zero_le _) hj0 hst0 (Nat.lt_succ_self _) hP hD hS (lv_sub hl [0, 1, 2] rfl)
  · skip
    have hn0 : ¬ n = 0 := fun z => c_14 (by rw [z]; rfl)
    have hle := rE_le (T := T) (n := n) (i := 0) (Nat.zero_le _)
    refine lv_aload_n hx hb dX1_parse_17 rfl (lv_at hl 0 rfl) ?_
    refine kcalli (wc := [(h, .inr (3, [.ref q1, .int (nI n), .ref q2, .ref q3, .ref q4, .int (nI 0), .int (nI 0), .int v])), (q1, .inl (g.2.1.1, 100, .inl T)), (q2, .inl (g.2.1.1, 100, .inl fk)), (q3, .inl (g.2.1.1, 100, .inl fv)), (q4, .inl (g.2.1.1, 100, .inl fr))]) [0, 1, 2, 3, 4] (va_runV (C := RX1) (As := []) (rest := []) ⟨hx, hb, hml, hown, hts⟩ ((c_X1_readEntry l g h q1 q2 q3 q4 n T fk fv fr 0 0 v hn (Nat.zero_le _) (by decide)) _) (cwV 0 hts gX1_parse_X1_readEntry rfl rfl rfl (by decide +kernel) ⟨Nat.le_of_ble_eq_true rfl, Nat.le_of_ble_eq_true rfl⟩) (kpreV (wc := [(h, .inr (3, [.ref q1, .int (nI n), .ref q2, .ref q3, .ref q4, .int (nI 0), .int (nI 0), .int v])), (q1, .inl (g.2.1.1, 100, .inl T)), (q2, .inl (g.2.1.1, 100, .inl fk)), (q3, .inl (g.2.1.1, 100, .inl fv)), (q4, .inl (g.2.1.1, 100, .inl fr))]) (ci := 3) hK hP hD hS hA hE [0, 1, 2, 3, 4] rfl rfl rfl rfl) rfl rfl hl.1 rfl (lv_room (Nat.le_of_ble_eq_true rfl)) dX1_parse_18 ⟨Nat.zero_le _, Nat.zero_le _⟩) hP hD hS hA rfl (fun rt w_3 H locs hp hP hD hS => ?_)
    obtain ⟨j2, ne2, gk2, gv2, gr2, v2, hEn, rfl⟩ := hp
    have hP : va_P g.1 vwCl [(h, .inr (3, [.ref q1, .int (nI n), .ref q2, .ref q3, .ref q4, .int (nI ne2), .int (nI j2), .int v2])), (q1, .inl (g.2.1.1, 100, .inl T)), (q2, .inl (g.2.1.1, 100, .inl gk2)), (q3, .inl (g.2.1.1, 100, .inl gv2)), (q4, .inl (g.2.1.1, 100, .inl gr2))] H := hP
    have hD : va_D A [(h, .inr (3, [.ref q1, .int (nI n), .ref q2, .ref q3, .ref q4, .int (nI ne2), .int (nI j2), .int v2])), (q1, .inl (g.2.1.1, 100, .inl T)), (q2, .inl (g.2.1.1, 100, .inl gk2)), (q3, .inl (g.2.1.1, 100, .inl gv2)), (q4, .inl (g.2.1.1, 100, .inl gr2))] := hD
    refine lv_if_eq (tgt := 28) hx hb dX1_parse_21 (by decide) (fun c_21 => ?_) (fun c_21 => ?_)
    · skip
      obtain ⟨t1, -, t3, -⟩ : rE T n 0 = (j2, none) ∧ rt = 0 ∧ ne2 = 0 ∧ EL 0 gk2 gv2 gr2 = EL 0 fk fv fr := hEn.elim (fun z => z) (fun ⟨_, z⟩ => absurd (z.2.1.symm.trans c_21) (by decide))
      have hst0 : ((0 : Int32) = 1 ∧ pl T n (100 - 0) j2 (EL ne2 gk2 gv2 gr2) = pT T n) ∨ ((0 : Int32) = 0 ∧ (pT T n).1 = false ∧ (pT T n).2.1 = j2) := Or.inr ⟨rfl, by rw [pT_f hn0 t1], by rw [pT_f hn0 t1]⟩
      have hj0 : j2 ≤ n ∧ ne2 ≤ j2 := by rw [t1] at hle; simp at hle; omega
      refine lv_iconst (v := 0) hx hb dX1_parse_28 (by decide) ?_
      refine lv_istore_n (lv' := [(1, .int 0), (0, .ref h)]) hx hb dX1_parse_29 rfl hl (by decide) rfl (fun ls hl => ?_)
      refine lv_iconst (v := 0) hx hb dX1_parse_30 (by decide) ?_
      refine lv_istore_n (lv' := [(2, .int 0), (1, .int 0), (0, .ref h)]) hx hb dX1_parse_31 rfl hl (by decide) rfl (fun ls hl => ?_)
      have L32 : ∀ (n9 : Nat) (k : Nat) (fl : Int32) (j : Nat) (ne : Nat) (fk : Nat → Int32) (fv : Nat → Int32) (fr : Nat → Int32) (v : Int32) (H : Heap) (locs : List Loc) (ls : Array Slot), (k ≤ 100) → (j ≤ n ∧ ne ≤ j) → ((fl = 1 ∧ pl T n (100 - k) j (EL ne fk fv fr) = pT T n) ∨ (fl = 0 ∧ (pT T n).1 = false ∧ (pT T n).2.1 = j)) → 100 - k < n9 → va_P g.1 vwCl [(h, .inr (3, [.ref q1, .int (nI n), .ref q2, .ref q3, .ref q4, .int (nI ne), .int (nI j), .int v])), (q1, .inl (g.2.1.1, 100, .inl T)), (q2, .inl (g.2.1.1, 100, .inl fk)), (q3, .inl (g.2.1.1, 100, .inl fv)), (q4, .inl (g.2.1.1, 100, .inl fr))] H → va_D A [(h, .inr (3, [.ref q1, .int (nI n), .ref q2, .ref q3, .ref q4, .int (nI ne), .int (nI j), .int v])), (q1, .inl (g.2.1.1, 100, .inl T)), (q2, .inl (g.2.1.1, 100, .inl fk)), (q3, .inl (g.2.1.1, 100, .inl fv)), (q4, .inl (g.2.1.1, 100, .inl fr))] → va_S A s.heap H locs → lv_has ls 3 [(2, .int (nI k)), (1, .int fl), (0, .ref h)] → W p l e rm_X1_parse s m ([.ref h] : List Value).toArray below meth cd H locs 0 0 (kQi g 5 A (p_X1_parse g h q1 q2 q3 q4 n T fk fv fr v e0 a0) below ([.ref h] : List Value).toArray s) (F0 m 32 ls []) := by
        intro n9
        induction n9 with
        | zero => intro k fl j ne fk fv fr v H locs ls hk0 hj hst h9; exact absurd h9 (Nat.not_lt_zero _)
        | succ n9 ih32 =>
          intro k fl j ne fk fv fr v H locs ls hk0 hj hst hn32 hP hD hS hl
          refine lv_iload_n hx hb dX1_parse_32 rfl (lv_at hl 0 rfl) ?_
          refine lv_bipush (v := 100) hx hb dX1_parse_33 (by decide) ?_
          refine lv_icmp_ge (tgt := 81) hx hb dX1_parse_35 (by decide) (fun c_35 => ?_) (fun c_35 => ?_)
          · skip
            have hk : 100 ≤ k := by rw [show (100 : Int32) = nI 100 from rfl, nI_leI (by decide) (by omega)] at c_35; exact c_35
            have hres : (fl = 1 ∧ pT T n = (true, j, EL ne fk fv fr)) ∨ (fl = 0 ∧ (pT T n).1 = false ∧ (pT T n).2.1 = j) := hst.elim (fun z => Or.inl ⟨z.1, by rw [← z.2, show 100 - k = 0 by omega]; rfl⟩) Or.inr
            refine lv_iload_n hx hb dX1_parse_81 rfl (lv_at hl 1 rfl) ?_
            exact kretz hx hb hRt hlk hK hP hD hS rfl dX1_parse_82 (hres.elim (fun z => Or.inr z.1) (fun z => Or.inl z.1)) (⟨j, ne, fk, fv, fr, v, hres, rfl⟩)
          · skip
            have hk : k < 100 := by rw [show (100 : Int32) = nI 100 from rfl, nI_leI (by decide) (by omega)] at c_35; omega
            refine lv_iload_n hx hb dX1_parse_38 rfl (lv_at hl 1 rfl) ?_
            refine lv_if_eq (tgt := 81) hx hb dX1_parse_39 (by decide) (fun c_39 => ?_) (fun c_39 => ?_)
            · skip
              have hres : (fl = 1 ∧ pT T n = (true, j, EL ne fk fv fr)) ∨ (fl = 0 ∧ (pT T n).1 = false ∧ (pT T n).2.1 = j) := hst.elim (fun z => absurd (z.1.symm.trans c_39) (by decide)) Or.inr
              refine lv_iload_n hx hb dX1_parse_81 rfl (lv_at hl 1 rfl) ?_
              exact kretz hx hb hRt hlk hK hP hD hS rfl dX1_parse_82 (hres.elim (fun z => Or.inr z.1) (fun z => Or.inl z.1)) (⟨j, ne, fk, fv, fr, v, hres, rfl⟩)
            · skip
              obtain ⟨hfl, hpl⟩ : fl = 1 ∧ pl T n (100 - k) j (EL ne fk fv fr) = pT T n := hst.elim (fun z => z) (fun z => absurd z.1 c_39)
              refine lv_aload_n hx hb dX1_parse_42 rfl (lv_at hl 2 rfl) ?_
              refine va_get (D := g.1) (ci := 3) (v := .int (nI j)) (C := RX1) (T := TX1) (N := 8) hx hb hts (by decide +kernel) hown hK hP 0 rfl rfl 6 (by decide) (hts (.fieldLink RX1 42 "LearnedIndex$Input" "at" "I") (by decide +kernel)) (fun _ h9 => h9) rfl dX1_parse_43 ?_
              refine lv_aload_n hx hb dX1_parse_46 rfl (lv_at hl 2 rfl) ?_
              refine va_get (D := g.1) (ci := 3) (v := .int (nI n)) (C := RX1) (T := TX1) (N := 8) hx hb hts (by decide +kernel) hown hK hP 0 rfl rfl 1 (by decide) (hts (.fieldLink RX1 24 "LearnedIndex$Input" "length" "I") (by decide +kernel)) (fun _ h9 => h9) rfl dX1_parse_47 ?_
              refine lv_icmp_ge (tgt := 81) hx hb dX1_parse_50 (by decide) (fun c_50 => ?_) (fun c_50 => ?_)
              · skip
                have hjn : n ≤ j := kg (by omega) (by omega) c_50
                have hres : (fl = 1 ∧ pT T n = (true, j, EL ne fk fv fr)) ∨ (fl = 0 ∧ (pT T n).1 = false ∧ (pT T n).2.1 = j) := Or.inl ⟨hfl, by rw [← hpl, pl_e hjn]⟩
                refine lv_iload_n hx hb dX1_parse_81 rfl (lv_at hl 1 rfl) ?_
                exact kretz hx hb hRt hlk hK hP hD hS rfl dX1_parse_82 (hres.elim (fun z => Or.inr z.1) (fun z => Or.inl z.1)) (⟨j, ne, fk, fv, fr, v, hres, rfl⟩)
              · skip
                have hjn : j < n := kl (by omega) (by omega) c_50
                rw [show 100 - k = (99 - k) + 1 by omega] at hpl
                have hle := rE_le (T := T) (n := n) (i := j + 1) (by omega)
                refine lv_aload_n hx hb dX1_parse_53 rfl (lv_at hl 2 rfl) ?_
                refine lv_bipush (v := 59) hx hb dX1_parse_54 (by decide) ?_
                refine kcalli (wc := [(h, .inr (3, [.ref q1, .int (nI n), .ref q2, .ref q3, .ref q4, .int (nI ne), .int (nI j), .int v])), (q1, .inl (g.2.1.1, 100, .inl T)), (q2, .inl (g.2.1.1, 100, .inl fk)), (q3, .inl (g.2.1.1, 100, .inl fv)), (q4, .inl (g.2.1.1, 100, .inl fr))]) [0, 1, 2, 3, 4] (va_runV (C := RX1) (As := [.int 59]) (rest := []) ⟨hx, hb, hml, hown, hts⟩ ((c_X1_take l g h q1 q2 q3 q4 n T fk fv fr ne j v 59 hn hj.1) _) (cwV 1 hts gX1_parse_X1_take rfl rfl rfl (by decide +kernel) ⟨Nat.le_of_ble_eq_true rfl, Nat.le_of_ble_eq_true rfl⟩) (kpreV (wc := [(h, .inr (3, [.ref q1, .int (nI n), .ref q2, .ref q3, .ref q4, .int (nI ne), .int (nI j), .int v])), (q1, .inl (g.2.1.1, 100, .inl T)), (q2, .inl (g.2.1.1, 100, .inl fk)), (q3, .inl (g.2.1.1, 100, .inl fv)), (q4, .inl (g.2.1.1, 100, .inl fr))]) (ci := 3) hK hP hD hS hA hE [0, 1, 2, 3, 4] rfl rfl rfl rfl) rfl rfl hl.1 rfl (lv_room (Nat.le_of_ble_eq_true rfl)) dX1_parse_56 ⟨Nat.zero_le _, Nat.zero_le _⟩) hP hD hS hA rfl (fun r_4 w_4 H locs hp hP hD hS => ?_)
                obtain ⟨rfl, rfl⟩ := hp
                have hP : va_P g.1 vwCl [(h, .inr (3, [.ref q1, .int (nI n), .ref q2, .ref q3, .ref q4, .int (nI ne), .int (nI (if ch T n j = 59 then j + 1 else j)), .int v])), (q1, .inl (g.2.1.1, 100, .inl T)), (q2, .inl (g.2.1.1, 100, .inl fk)), (q3, .inl (g.2.1.1, 100, .inl fv)), (q4, .inl (g.2.1.1, 100, .inl fr))] H := hP
                have hD : va_D A [(h, .inr (3, [.ref q1, .int (nI n), .ref q2, .ref q3, .ref q4, .int (nI ne), .int (nI (if ch T n j = 59 then j + 1 else j)), .int v])), (q1, .inl (g.2.1.1, 100, .inl T)), (q2, .inl (g.2.1.1, 100, .inl fk)), (q3, .inl (g.2.1.1, 100, .inl fv)), (q4, .inl (g.2.1.1, 100, .inl fr))] := hD
                refine lv_if_eq (tgt := 73) hx hb dX1_parse_59 (by decide) (fun c_59 => ?_) (fun c_59 => ?_)
                · skip
                  have f1 : ¬ ch T n j = 59 := fun z => absurd c_59 (by rw [decide_eq_true z]; decide)
                  have hst2 : ((0 : Int32) = 1 ∧ pl T n (100 - (k + 1)) j (EL ne fk fv fr) = pT T n) ∨ ((0 : Int32) = 0 ∧ (pT T n).1 = false ∧ (pT T n).2.1 = j) := Or.inr ⟨rfl, by rw [← hpl, pl_n hjn f1], by rw [← hpl, pl_n hjn f1]⟩
                  have hj2 : j ≤ n ∧ ne ≤ j := hj
                  rw [if_neg f1] at hP hD
                  have hP : va_P g.1 vwCl [(h, .inr (3, [.ref q1, .int (nI n), .ref q2, .ref q3, .ref q4, .int (nI ne), .int (nI j), .int v])), (q1, .inl (g.2.1.1, 100, .inl T)), (q2, .inl (g.2.1.1, 100, .inl fk)), (q3, .inl (g.2.1.1, 100, .inl fv)), (q4, .inl (g.2.1.1, 100, .inl fr))] H := hP
                  have hD : va_D A [(h, .inr (3, [.ref q1, .int (nI n), .ref q2, .ref q3, .ref q4, .int (nI ne), .int (nI j), .int v])), (q1, .inl (g.2.1.1, 100, .inl T)), (q2, .inl (g.2.1.1, 100, .inl fk)), (q3, .inl (g.2.1.1, 100, .inl fv)), (q4, .inl (g.2.1.1, 100, .inl fr))] := hD
                  refine lv_iconst (v := 0) hx hb dX1_parse_73 (by decide) ?_
                  refine lv_istore_n (lv' := [(1, .int 0), (2, .int (nI k)), (0, .ref h)]) hx hb dX1_parse_74 rfl hl (by decide) rfl (fun ls hl => ?_)
                  refine lv_iinc (v := nI (k + 1)) (lv' := [(2, .int (nI (k + 1))), (1, .int 0), (0, .ref h)]) hx hb dX1_parse_75 hl (k := 1) rfl (nI_1 k) (by decide) rfl (fun ls hl => ?_)
                  refine lv_goto (tgt := 32) hx hb dX1_parse_78 (by decide) ?_
                  exact ih32 (k + 1) 0 j ne fk fv fr v _ _ ls (by omega) hj2 hst2 (by omega) hP hD hS (lv_sub hl [0, 1, 2] rfl)
                · skip
                  have f1 : ch T n j = 59 := Decidable.byContradiction (fun z => c_59 (by rw [decide_eq_false z]; rfl))
                  rw [if_pos f1] at hP hD
                  have hP : va_P g.1 vwCl [(h, .inr (3, [.ref q1, .int (nI n), .ref q2, .ref q3, .ref q4, .int (nI ne), .int (nI (j + 1)), .int v])), (q1, .inl (g.2.1.1, 100, .inl T)), (q2, .inl (g.2.1.1, 100, .inl fk)), (q3, .inl (g.2.1.1, 100, .inl fv)), (q4, .inl (g.2.1.1, 100, .inl fr))] H := hP
                  have hD : va_D A [(h, .inr (3, [.ref q1, .int (nI n), .ref q2, .ref q3, .ref q4, .int (nI ne), .int (nI (j + 1)), .int v])), (q1, .inl (g.2.1.1, 100, .inl T)), (q2, .inl (g.2.1.1, 100, .inl fk)), (q3, .inl (g.2.1.1, 100, .inl fv)), (q4, .inl (g.2.1.1, 100, .inl fr))] := hD
                  refine lv_aload_n hx hb dX1_parse_62 rfl (lv_at hl 2 rfl) ?_
                  refine kcalli (wc := [(h, .inr (3, [.ref q1, .int (nI n), .ref q2, .ref q3, .ref q4, .int (nI ne), .int (nI (j + 1)), .int v])), (q1, .inl (g.2.1.1, 100, .inl T)), (q2, .inl (g.2.1.1, 100, .inl fk)), (q3, .inl (g.2.1.1, 100, .inl fv)), (q4, .inl (g.2.1.1, 100, .inl fr))]) [0, 1, 2, 3, 4] (va_runV (C := RX1) (As := []) (rest := []) ⟨hx, hb, hml, hown, hts⟩ ((c_X1_readEntry l g h q1 q2 q3 q4 n T fk fv fr ne (j + 1) v hn (by omega) (by omega)) _) (cwV 0 hts gX1_parse_X1_readEntry rfl rfl rfl (by decide +kernel) ⟨Nat.le_of_ble_eq_true rfl, Nat.le_of_ble_eq_true rfl⟩) (kpreV (wc := [(h, .inr (3, [.ref q1, .int (nI n), .ref q2, .ref q3, .ref q4, .int (nI ne), .int (nI (j + 1)), .int v])), (q1, .inl (g.2.1.1, 100, .inl T)), (q2, .inl (g.2.1.1, 100, .inl fk)), (q3, .inl (g.2.1.1, 100, .inl fv)), (q4, .inl (g.2.1.1, 100, .inl fr))]) (ci := 3) hK hP hD hS hA hE [0, 1, 2, 3, 4] rfl rfl rfl rfl) rfl rfl hl.1 rfl (lv_room (Nat.le_of_ble_eq_true rfl)) dX1_parse_63 ⟨Nat.zero_le _, Nat.zero_le _⟩) hP hD hS hA rfl (fun rt w_5 H locs hp hP hD hS => ?_)
                  obtain ⟨j2, ne2, gk2, gv2, gr2, v2, hEn, rfl⟩ := hp
                  have hP : va_P g.1 vwCl [(h, .inr (3, [.ref q1, .int (nI n), .ref q2, .ref q3, .ref q4, .int (nI ne2), .int (nI j2), .int v2])), (q1, .inl (g.2.1.1, 100, .inl T)), (q2, .inl (g.2.1.1, 100, .inl gk2)), (q3, .inl (g.2.1.1, 100, .inl gv2)), (q4, .inl (g.2.1.1, 100, .inl gr2))] H := hP
                  have hD : va_D A [(h, .inr (3, [.ref q1, .int (nI n), .ref q2, .ref q3, .ref q4, .int (nI ne2), .int (nI j2), .int v2])), (q1, .inl (g.2.1.1, 100, .inl T)), (q2, .inl (g.2.1.1, 100, .inl gk2)), (q3, .inl (g.2.1.1, 100, .inl gv2)), (q4, .inl (g.2.1.1, 100, .inl gr2))] := hD
                  refine lv_if_eq (tgt := 73) hx hb dX1_parse_66 (by decide) (fun c_66 => ?_) (fun c_66 => ?_)
                  · skip
                    obtain ⟨t1, -, t3, t4⟩ : rE T n (j + 1) = (j2, none) ∧ rt = 0 ∧ ne2 = ne ∧ EL ne gk2 gv2 gr2 = EL ne fk fv fr := hEn.elim (fun z => z) (fun ⟨_, z⟩ => absurd (z.2.1.symm.trans c_66) (by decide))
                    have hst2 : ((0 : Int32) = 1 ∧ pl T n (100 - (k + 1)) j2 (EL ne2 gk2 gv2 gr2) = pT T n) ∨ ((0 : Int32) = 0 ∧ (pT T n).1 = false ∧ (pT T n).2.1 = j2) := Or.inr ⟨rfl, by rw [← hpl, pl_f hjn f1 (by rw [t1])], by rw [← hpl, pl_f hjn f1 (by rw [t1]), t1]⟩
                    have hj2 : j2 ≤ n ∧ ne2 ≤ j2 := by rw [t1] at hle; simp at hle; omega
                    refine lv_iconst (v := 0) hx hb dX1_parse_73 (by decide) ?_
                    refine lv_istore_n (lv' := [(1, .int 0), (2, .int (nI k)), (0, .ref h)]) hx hb dX1_parse_74 rfl hl (by decide) rfl (fun ls hl => ?_)
                    refine lv_iinc (v := nI (k + 1)) (lv' := [(2, .int (nI (k + 1))), (1, .int 0), (0, .ref h)]) hx hb dX1_parse_75 hl (k := 1) rfl (nI_1 k) (by decide) rfl (fun ls hl => ?_)
                    refine lv_goto (tgt := 32) hx hb dX1_parse_78 (by decide) ?_
                    exact ih32 (k + 1) 0 j2 ne2 gk2 gv2 gr2 v2 _ _ ls (by omega) hj2 hst2 (by omega) hP hD hS (lv_sub hl [0, 1, 2] rfl)
                  · skip
                    obtain ⟨e9, t1, -, t3, t4⟩ : ∃ e9 : kE3, rE T n (j + 1) = (j2, some e9) ∧ rt = 1 ∧ ne2 = ne + 1 ∧ EL (ne + 1) gk2 gv2 gr2 = EL ne fk fv fr ++ [e9] := hEn.elim (fun z => absurd z.2.1 c_66) (fun z => z)
                    have hst2 : ((1 : Int32) = 1 ∧ pl T n (100 - (k + 1)) j2 (EL ne2 gk2 gv2 gr2) = pT T n) ∨ ((1 : Int32) = 0 ∧ (pT T n).1 = false ∧ (pT T n).2.1 = j2) := Or.inl ⟨rfl, by rw [t3, t4, ← hpl, pl_s hjn f1 (by rw [t1]), t1, show 100 - (k + 1) = 99 - k by omega]⟩
                    have hj2 : j2 ≤ n ∧ ne2 ≤ j2 := by rw [t1] at hle; simp at hle; omega
                    refine lv_iconst (v := 1) hx hb dX1_parse_69 (by decide) ?_
                    refine lv_goto (tgt := 74) hx hb dX1_parse_70 (by decide) ?_
                    refine lv_istore_n (lv' := [(1, .int 1), (2, .int (nI k)), (0, .ref h)]) hx hb dX1_parse_74 rfl hl (by decide) rfl (fun ls hl => ?_)
                    refine lv_iinc (v := nI (k + 1)) (lv' := [(2, .int (nI (k + 1))), (1, .int 1), (0, .ref h)]) hx hb dX1_parse_75 hl (k := 1) rfl (nI_1 k) (by decide) rfl (fun ls hl => ?_)
                    refine lv_goto (tgt := 32) hx hb dX1_parse_78 (by decide) ?_
                    exact ih32 (k + 1) 1 j2 ne2 gk2 gv2 gr2 v2 _ _ ls (by omega) hj2 hst2 (by omega) hP hD hS (lv_sub hl [0, 1, 2] rfl)
      exact L32 _ 0 0 j2 ne2 gk2 gv2 gr2 v2 _ _ ls (Nat.zero_le _) hj0 hst0 (Nat.lt_succ_self _) hP hD hS (lv_sub hl [0, 1, 2] rfl)
    · skip
      obtain ⟨e9, t1, -, t3, t4⟩ : ∃ e9 : kE3, rE T n 0 = (j2, some e9) ∧ rt = 1 ∧ ne2 = 0 + 1 ∧ EL (0 + 1) gk2 gv2 gr2 = EL 0 fk fv fr ++ [e9] := hEn.elim (fun z => absurd z.2.1 c_21) (fun z => z)
      have hst0 : ((1 : Int32) = 1 ∧ pl T n (100 - 0) j2 (EL ne2 gk2 gv2 gr2) = pT T n) ∨ ((1 : Int32) = 0 ∧ (pT T n).1 = false ∧ (pT T n).2.1 = j2) := Or.inl ⟨rfl, by rw [t3, t4, pT_s hn0 t1, show EL 0 fk fv fr = [] from rfl, List.nil_append, Nat.sub_zero]⟩
      have hj0 : j2 ≤ n ∧ ne2 ≤ j2 := by rw [t1] at hle; simp at hle; omega
      refine lv_iconst (v := 1) hx hb dX1_parse_24 (by decide) ?_
      refine lv_goto (tgt := 29) hx hb dX1_parse_25 (by decide) ?_
      refine lv_istore_n (lv' := [(1, .int 1), (0, .ref h)]) hx hb dX1_parse_29 rfl hl (by decide) rfl (fun ls hl => ?_)
      refine lv_iconst (v := 0) hx hb dX1_parse_30 (by decide) ?_
      refine lv_istore_n (lv' := [(2, .int 0), (1, .int 1), (0, .ref h)]) hx hb dX1_parse_31 rfl hl (by decide) rfl (fun ls hl => ?_)
      have L32 : ∀ (n9 : Nat) (k : Nat) (fl : Int32) (j : Nat) (ne : Nat) (fk : Nat → Int32) (fv : Nat → Int32) (fr : Nat → Int32) (v : Int32) (H : Heap) (locs : List Loc) (ls : Array Slot), (k ≤ 100) → (j ≤ n ∧ ne ≤ j) → ((fl = 1 ∧ pl T n (100 - k) j (EL ne fk fv fr) = pT T n) ∨ (fl = 0 ∧ (pT T n).1 = false ∧ (pT T n).2.1 = j)) → 100 - k < n9 → va_P g.1 vwCl [(h, .inr (3, [.ref q1, .int (nI n), .ref q2, .ref q3, .ref q4, .int (nI ne), .int (nI j), .int v])), (q1, .inl (g.2.1.1, 100, .inl T)), (q2, .inl (g.2.1.1, 100, .inl fk)), (q3, .inl (g.2.1.1, 100, .inl fv)), (q4, .inl (g.2.1.1, 100, .inl fr))] H → va_D A [(h, .inr (3, [.ref q1, .int (nI n), .ref q2, .ref q3, .ref q4, .int (nI ne), .int (nI j), .int v])), (q1, .inl (g.2.1.1, 100, .inl T)), (q2, .inl (g.2.1.1, 100, .inl fk)), (q3, .inl (g.2.1.1, 100, .inl fv)), (q4, .inl (g.2.1.1, 100, .inl fr))] → va_S A s.heap H locs → lv_has ls 3 [(2, .int (nI k)), (1, .int fl), (0, .ref h)] → W p l e rm_X1_parse s m ([.ref h] : List Value).toArray below meth cd H locs 0 0 (kQi g 5 A (p_X1_parse g h q1 q2 q3 q4 n T fk fv fr v e0 a0) below ([.ref h] : List Value).toArray s) (F0 m 32 ls []) := by
        intro n9
        induction n9 with
        | zero => intro k fl j ne fk fv fr v H locs ls hk0 hj hst h9; exact absurd h9 (Nat.not_lt_zero _)
        | succ n9 ih32 =>
          intro k fl j ne fk fv fr v H locs ls hk0 hj hst hn32 hP hD hS hl
          refine lv_iload_n hx hb dX1_parse_32 rfl (lv_at hl 0 rfl) ?_
          refine lv_bipush (v := 100) hx hb dX1_parse_33 (by decide) ?_
          refine lv_icmp_ge (tgt := 81) hx hb dX1_parse_35 (by decide) (fun c_35 => ?_) (fun c_35 => ?_)
          · skip
            have hk : 100 ≤ k := by rw [show (100 : Int32) = nI 100 from rfl, nI_leI (by decide) (by omega)] at c_35; exact c_35
            have hres : (fl = 1 ∧ pT T n = (true, j, EL ne fk fv fr)) ∨ (fl = 0 ∧ (pT T n).1 = false ∧ (pT T n).2.1 = j) := hst.elim (fun z => Or.inl ⟨z.1, by rw [← z.2, show 100 - k = 0 by omega]; rfl⟩) Or.inr
            refine lv_iload_n hx hb dX1_parse_81 rfl (lv_at hl 1 rfl) ?_
            exact kretz hx hb hRt hlk hK hP hD hS rfl dX1_parse_82 (hres.elim (fun z => Or.inr z.1) (fun z => Or.inl z.1)) (⟨j, ne, fk, fv, fr, v, hres, rfl⟩)
          · skip
            have hk : k < 100 := by rw [show (100 : Int32) = nI 100 from rfl, nI_leI (by decide) (by omega)] at c_35; omega
            refine lv_iload_n hx hb dX1_parse_38 rfl (lv_at hl 1 rfl) ?_
            refine lv_if_eq (tgt := 81) hx hb dX1_parse_39 (by decide) (fun c_39 => ?_) (fun c_39 => ?_)
            · skip
              have hres : (fl = 1 ∧ pT T n = (true, j, EL ne fk fv fr)) ∨ (fl = 0 ∧ (pT T n).1 = false ∧ (pT T n).2.1 = j) := hst.elim (fun z => absurd (z.1.symm.trans c_39) (by decide)) Or.inr
              refine lv_iload_n hx hb dX1_parse_81 rfl (lv_at hl 1 rfl) ?_
              exact kretz hx hb hRt hlk hK hP hD hS rfl dX1_parse_82 (hres.elim (fun z => Or.inr z.1) (fun z => Or.inl z.1)) (⟨j, ne, fk, fv, fr, v, hres, rfl⟩)
            · skip
              obtain ⟨hfl, hpl⟩ : fl = 1 ∧ pl T n (100 - k) j (EL ne fk fv fr) = pT T n := hst.elim (fun z => z) (fun z => absurd z.1 c_39)
              refine lv_aload_n hx hb dX1_parse_42 rfl (lv_at hl 2 rfl) ?_
              refine va_get (D := g.1) (ci := 3) (v := .int (nI j)) (C := RX1) (T := TX1) (N := 8) hx hb hts (by decide +kernel) hown hK hP 0 rfl rfl 6 (by decide) (hts (.fieldLink RX1 42 "LearnedIndex$Input" "at" "I") (by decide +kernel)) (fun _ h9 => h9) rfl dX1_parse_43 ?_
              refine lv_aload_n hx hb dX1_parse_46 rfl (lv_at hl 2 rfl) ?_
              refine va_get (D := g.1) (ci := 3) (v := .int (nI n)) (C := RX1) (T := TX1) (N := 8) hx hb hts (by decide +kernel) hown hK hP 0 rfl rfl 1 (by decide) (hts (.fieldLink RX1 24 "LearnedIndex$Input" "length" "I") (by decide +kernel)) (fun _ h9 => h9) rfl dX1_parse_47 ?_
              refine lv_icmp_ge (tgt := 81) hx hb dX1_parse_50 (by decide) (fun c_50 => ?_) (fun c_50 => ?_)
              · skip
                have hjn : n ≤ j := kg (by omega) (by omega) c_50
                have hres : (fl = 1 ∧ pT T n = (true, j, EL ne fk fv fr)) ∨ (fl = 0 ∧ (pT T n).1 = false ∧ (pT T n).2.1 = j) := Or.inl ⟨hfl, by rw [← hpl, pl_e hjn]⟩
                refine lv_iload_n hx hb dX1_parse_81 rfl (lv_at hl 1 rfl) ?_
                exact kretz hx hb hRt hlk hK hP hD hS rfl dX1_parse_82 (hres.elim (fun z => Or.inr z.1) (fun z => Or.inl z.1)) (⟨j, ne, fk, fv, fr, v, hres, rfl⟩)
              · skip
                have hjn : j < n := kl (by omega) (by omega) c_50
                rw [show 100 - k = (99 - k) + 1 by omega] at hpl
                have hle := rE_le (T := T) (n := n) (i := j + 1) (by omega)
                refine lv_aload_n hx hb dX1_parse_53 rfl (lv_at hl 2 rfl) ?_
                refine lv_bipush (v := 59) hx hb dX1_parse_54 (by decide) ?_
                refine kcalli (wc := [(h, .inr (3, [.ref q1, .int (nI n), .ref q2, .ref q3, .ref q4, .int (nI ne), .int (nI j), .int v])), (q1, .inl (g.2.1.1, 100, .inl T)), (q2, .inl (g.2.1.1, 100, .inl fk)), (q3, .inl (g.2.1.1, 100, .inl fv)), (q4, .inl (g.2.1.1, 100, .inl fr))]) [0, 1, 2, 3, 4] (va_runV (C := RX1) (As := [.int 59]) (rest := []) ⟨hx, hb, hml, hown, hts⟩ ((c_X1_take l g h q1 q2 q3 q4 n T fk fv fr ne j v 59 hn hj.1) _) (cwV 1 hts gX1_parse_X1_take rfl rfl rfl (by decide +kernel) ⟨Nat.le_of_ble_eq_true rfl, Nat.le_of_ble_eq_true rfl⟩) (kpreV (wc := [(h, .inr (3, [.ref q1, .int (nI n), .ref q2, .ref q3, .ref q4, .int (nI ne), .int (nI j), .int v])), (q1, .inl (g.2.1.1, 100, .inl T)), (q2, .inl (g.2.1.1, 100, .inl fk)), (q3, .inl (g.2.1.1, 100, .inl fv)), (q4, .inl (g.2.1.1, 100, .inl fr))]) (ci := 3) hK hP hD hS hA hE [0, 1, 2, 3, 4] rfl rfl rfl rfl) rfl rfl hl.1 rfl (lv_room (Nat.le_of_ble_eq_true rfl)) dX1_parse_56 ⟨Nat.zero_le _, Nat.zero_le _⟩) hP hD hS hA rfl (fun r_6 w_6 H locs hp hP hD hS => ?_)
                obtain ⟨rfl, rfl⟩ := hp
                have hP : va_P g.1 vwCl [(h, .inr (3, [.ref q1, .int (nI n), .ref q2, .ref q3, .ref q4, .int (nI ne), .int (nI (if ch T n j = 59 then j + 1 else j)), .int v])), (q1, .inl (g.2.1.1, 100, .inl T)), (q2, .inl (g.2.1.1, 100, .inl fk)), (q3, .inl (g.2.1.1, 100, .inl fv)), (q4, .inl (g.2.1.1, 100, .inl fr))] H := hP
                have hD : va_D A [(h, .inr (3, [.ref q1, .int (nI n), .ref q2, .ref q3, .ref q4, .int (nI ne), .int (nI (if ch T n j = 59 then j + 1 else j)), .int v])), (q1, .inl (g.2.1.1, 100, .inl T)), (q2, .inl (g.2.1.1, 100, .inl fk)), (q3, .inl (g.2.1.1, 100, .inl fv)), (q4, .inl (g.2.1.1, 100, .inl fr))] := hD
                refine lv_if_eq (tgt := 73) hx hb dX1_parse_59 (by decide) (fun c_59 => ?_) (fun c_59 => ?_)
                · skip
                  have f1 : ¬ ch T n j = 59 := fun z => absurd c_59 (by rw [decide_eq_true z]; decide)
                  have hst2 : ((0 : Int32) = 1 ∧ pl T n (100 - (k + 1)) j (EL ne fk fv fr) = pT T n) ∨ ((0 : Int32) = 0 ∧ (pT T n).1 = false ∧ (pT T n).2.1 = j) := Or.inr ⟨rfl, by rw [← hpl, pl_n hjn f1], by rw [← hpl, pl_n hjn f1]⟩
                  have hj2 : j ≤ n ∧ ne ≤ j := hj
                  rw [if_neg f1] at hP hD
                  have hP : va_P g.1 vwCl [(h, .inr (3, [.ref q1, .int (nI n), .ref q2, .ref q3, .ref q4, .int (nI ne), .int (nI j), .int v])), (q1, .inl (g.2.1.1, 100, .inl T)), (q2, .inl (g.2.1.1, 100, .inl fk)), (q3, .inl (g.2.1.1, 100, .inl fv)), (q4, .inl (g.2.1.1, 100, .inl fr))] H := hP
                  have hD : va_D A [(h, .inr (3, [.ref q1, .int (nI n), .ref q2, .ref q3, .ref q4, .int (nI ne), .int (nI j), .int v])), (q1, .inl (g.2.1.1, 100, .inl T)), (q2, .inl (g.2.1.1, 100, .inl fk)), (q3, .inl (g.2.1.1, 100, .inl fv)), (q4, .inl (g.2.1.1, 100, .inl fr))] := hD
                  refine lv_iconst (v := 0) hx hb dX1_parse_73 (by decide) ?_
                  refine lv_istore_n (lv' := [(1, .int 0), (2, .int (nI k)), (0, .ref h)]) hx hb dX1_parse_74 rfl hl (by decide) rfl (fun ls hl => ?_)
                  refine lv_iinc (v := nI (k + 1)) (lv' := [(2, .int (nI (k + 1))), (1, .int 0), (0, .ref h)]) hx hb dX1_parse_75 hl (k := 1) rfl (nI_1 k) (by decide) rfl (fun ls hl => ?_)
                  refine lv_goto (tgt := 32) hx hb dX1_parse_78 (by decide) ?_
                  exact ih32 (k + 1) 0 j ne fk fv fr v _ _ ls (by omega) hj2 hst2 (by omega) hP hD hS (lv_sub hl [0, 1, 2] rfl)
                · skip
                  have f1 : ch T n j = 59 := Decidable.byContradiction (fun z => c_59 (by rw [decide_eq_false z]; rfl))
                  rw [if_pos f1] at hP hD
                  have hP : va_P g.1 vwCl [(h, .inr (3, [.ref q1, .int (nI n), .ref q2, .ref q3, .ref q4, .int (nI ne), .int (nI (j + 1)), .int v])), (q1, .inl (g.2.1.1, 100, .inl T)), (q2, .inl (g.2.1.1, 100, .inl fk)), (q3, .inl (g.2.1.1, 100, .inl fv)), (q4, .inl (g.2.1.1, 100, .inl fr))] H := hP
                  have hD : va_D A [(h, .inr (3, [.ref q1, .int (nI n), .ref q2, .ref q3, .ref q4, .int (nI ne), .int (nI (j + 1)), .int v])), (q1, .inl (g.2.1.1, 100, .inl T)), (q2, .inl (g.2.1.1, 100, .inl fk)), (q3, .inl (g.2.1.1, 100, .inl fv)), (q4, .inl (g.2.1.1, 100, .inl fr))] := hD
                  refine lv_aload_n hx hb dX1_parse_62 rfl (lv_at hl 2 rfl) ?_
                  refine kcalli (wc := [(h, .inr (3, [.ref q1, .int (nI n), .ref q2, .ref q3, .ref q4, .int (nI ne), .int (nI (j + 1)), .int v])), (q1, .inl (g.2.1.1, 100, .inl T)), (q2, .inl (g.2.1.1, 100, .inl fk)), (q3, .inl (g.2.1.1, 100, .inl fv)), (q4, .inl (g.2.1.1, 100, .inl fr))]) [0, 1, 2, 3, 4] (va_runV (C := RX1) (As := []) (rest := []) ⟨hx, hb, hml, hown, hts⟩ ((c_X1_readEntry l g h q1 q2 q3 q4 n T fk fv fr ne (j + 1) v hn (by omega) (by omega)) _) (cwV 0 hts gX1_parse_X1_readEntry rfl rfl rfl (by decide +kernel) ⟨Nat.le_of_ble_eq_true rfl, Nat.le_of_ble_eq_true rfl⟩) (kpreV (wc := [(h, .inr (3, [.ref q1, .int (nI n), .ref q2, .ref q3, .ref q4, .int (nI ne), .int (nI (j + 1)), .int v])), (q1, .inl (g.2.1.1, 100, .inl T)), (q2, .inl (g.2.1.1, 100, .inl fk)), (q3, .inl (g.2.1.1, 100, .inl fv)), (q4, .inl (g.2.1.1, 100, .inl fr))]) (ci := 3) hK hP hD hS hA hE [0, 1, 2, 3, 4] rfl rfl rfl rfl) rfl rfl hl.1 rfl (lv_room (Nat.le_of_ble_eq_true rfl)) dX1_parse_63 ⟨Nat.zero_le _, Nat.zero_le _⟩) hP hD hS hA rfl (fun rt w_7 H locs hp hP hD hS => ?_)
                  obtain ⟨j2, ne2, gk2, gv2, gr2, v2, hEn, rfl⟩ := hp
                  have hP : va_P g.1 vwCl [(h, .inr (3, [.ref q1, .int (nI n), .ref q2, .ref q3, .ref q4, .int (nI ne2), .int (nI j2), .int v2])), (q1, .inl (g.2.1.1, 100, .inl T)), (q2, .inl (g.2.1.1, 100, .inl gk2)), (q3, .inl (g.2.1.1, 100, .inl gv2)), (q4, .inl (g.2.1.1, 100, .inl gr2))] H := hP
                  have hD : va_D A [(h, .inr (3, [.ref q1, .int (nI n), .ref q2, .ref q3, .ref q4, .int (nI ne2), .int (nI j2), .int v2])), (q1, .inl (g.2.1.1, 100, .inl T)), (q2, .inl (g.2.1.1, 100, .inl gk2)), (q3, .inl (g.2.1.1, 100, .inl gv2)), (q4, .inl (g.2.1.1, 100, .inl gr2))] := hD
                  refine lv_if_eq (tgt := 73) hx hb dX1_parse_66 (by decide) (fun c_66 => ?_) (fun c_66 => ?_)
                  · skip
                    obtain ⟨t1, -, t3, t4⟩ : rE T n (j + 1) = (j2, none) ∧ rt = 0 ∧ ne2 = ne ∧ EL ne gk2 gv2 gr2 = EL ne fk fv fr := hEn.elim (fun z => z) (fun ⟨_, z⟩ => absurd (z.2.1.symm.trans c_66) (by decide))
                    have hst2 : ((0 : Int32) = 1 ∧ pl T n (100 - (k + 1)) j2 (EL ne2 gk2 gv2 gr2) = pT T n) ∨ ((0 : Int32) = 0 ∧ (pT T n).1 = false ∧ (pT T n).2.1 = j2) := Or.inr ⟨rfl, by rw [← hpl, pl_f hjn f1 (by rw [t1])], by rw [← hpl, pl_f hjn f1 (by rw [t1]), t1]⟩
                    have hj2 : j2 ≤ n ∧ ne2 ≤ j2 := by rw [t1] at hle; simp at hle; omega
                    refine lv_iconst (v := 0) hx hb dX1_parse_73 (by decide) ?_
                    refine lv_istore_n (lv' := [(1, .int 0), (2, .int (nI k)), (0, .ref h)]) hx hb dX1_parse_74 rfl hl (by decide) rfl (fun ls hl => ?_)
                    refine lv_iinc (v := nI (k + 1)) (lv' := [(2, .int (nI (k + 1))), (1, .int 0), (0, .ref h)]) hx hb dX1_parse_75 hl (k := 1) rfl (nI_1 k) (by decide) rfl (fun ls hl => ?_)
                    refine lv_goto (tgt := 32) hx hb dX1_parse_78 (by decide) ?_
                    exact ih32 (k + 1) 0 j2 ne2 gk2 gv2 gr2 v2 _ _ ls (by omega) hj2 hst2 (by omega) hP hD hS (lv_sub hl [0, 1, 2] rfl)
                  · skip
                    obtain ⟨e9, t1, -, t3, t4⟩ : ∃ e9 : kE3, rE T n (j + 1) = (j2, some e9) ∧ rt = 1 ∧ ne2 = ne + 1 ∧ EL (ne + 1) gk2 gv2 gr2 = EL ne fk fv fr ++ [e9] := hEn.elim (fun z => absurd z.2.1 c_66) (fun z => z)
                    have hst2 : ((1 : Int32) = 1 ∧ pl T n (100 - (k + 1)) j2 (EL ne2 gk2 gv2 gr2) = pT T n) ∨ ((1 : Int32) = 0 ∧ (pT T n).1 = false ∧ (pT T n).2.1 = j2) := Or.inl ⟨rfl, by rw [t3, t4, ← hpl, pl_s hjn f1 (by rw [t1]), t1, show 100 - (k + 1) = 99 - k by omega]⟩
                    have hj2 : j2 ≤ n ∧ ne2 ≤ j2 := by rw [t1] at hle; simp at hle; omega
                    refine lv_iconst (v := 1) hx hb dX1_parse_69 (by decide) ?_
                    refine lv_goto (tgt := 74) hx hb dX1_parse_70 (by decide) ?_
                    refine lv_istore_n (lv' := [(1, .int 1), (2, .int (nI k)), (0, .ref h)]) hx hb dX1_parse_74 rfl hl (by decide) rfl (fun ls hl => ?_)
                    refine lv_iinc (v := nI (k + 1)) (lv' := [(2, .int (nI (k + 1))), (1, .int 1), (0, .ref h)]) hx hb dX1_parse_75 hl (k := 1) rfl (nI_1 k) (by decide) rfl (fun ls hl => ?_)
                    refine lv_goto (tgt := 32) hx hb dX1_parse_78 (by decide) ?_
                    exact ih32 (k + 1) 1 j2 ne2 gk2 gv2 gr2 v2 _ _ ls (by omega) hj2 hst2 (by omega) hP hD hS (lv_sub hl [0, 1, 2] rfl)
      exact L32 _ 0 1 j2 ne2 gk2 gv2 gr2 v2 _ _ ls (Nat.zero_le _) hj0 hst0 (Nat.lt_succ_self _) hP hD hS (lv_sub hl [0, 1, 2] rfl)
