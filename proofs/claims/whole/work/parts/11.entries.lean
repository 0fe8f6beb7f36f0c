/-! ===== Entries ===== -/
set_option maxRecDepth 20000 in
theorem ggX0_key_X6_cell : GoodIn wsX0_key wsX6_cell := goodIn_ca (goodIn_r _ [4] (by decide +kernel) (by decide +kernel)) (goodIn_sub (fun _ h => List.mem_cons_of_mem _ (List.mem_append_right _ h)) (by decide +kernel))
set_option maxRecDepth 20000 in
theorem gX0_key_X6_cell_n25 : GoodIn wsX0_key (wsX6_cell) := ggX0_key_X6_cell
theorem dX0_key_0 : decode cX0_key 0 = .ok (.aload_n 0, 1) := by decide +kernel
theorem dX0_key_1 : decode cX0_key 1 = .ok (.getfield 9, 3) := by decide +kernel
theorem dX0_key_4 : decode cX0_key 4 = .ok (.iload_n 1, 1) := by decide +kernel
theorem dX0_key_5 : decode cX0_key 5 = .ok (.invokestatic 25, 3) := by decide +kernel
theorem dX0_key_8 : decode cX0_key 8 = .ok (.ireturn, 1) := by decide +kernel
def rm_X0_key : Room := { frames := 1, cells := 0, slots := 0, locals := 21 }
abbrev p_X0_key (g : kG) (h : Nat) (hk : Nat) (hv : Nat) (hr : Nat) (n : Nat) (fk : Nat → Int32) (fv : Nat → Int32) (fr : Nat → Int32) (i : Int32) : Int32 → va_W → Prop := fun r w1 => r = kcell 160 fk i ∧ w1 = [(h, .inr (2, [.ref hk, .ref hv, .ref hr, .int (nI n)])), (hk, .inl (g.2.1.1, 160, .inl fk)), (hv, .inl (g.2.1.1, 160, .inl fv)), (hr, .inl (g.2.1.1, 160, .inl fr))]
set_option maxHeartbeats 4000000 in
set_option maxRecDepth 100000 in
theorem c_X0_key (l : Launch) (g : kG) (h : Nat) (hk : Nat) (hv : Nat) (hr : Nat) (n : Nat) (fk : Nat → Int32) (fv : Nat → Int32) (fr : Nat → Int32) (i : Int32) : KI l yX0_key wsX0_key rm_X0_key g [.ref h, .int i] [(h, .inr (2, [.ref hk, .ref hv, .ref hr, .int (nI n)])), (hk, .inl (g.2.1.1, 160, .inl fk)), (hv, .inl (g.2.1.1, 160, .inl fv)), (hr, .inl (g.2.1.1, 160, .inl fr))] (p_X0_key g h hk hv hr n fk fv fr i) := by
  refine kbodyI (cc := cX0_key) (n := 2) (k := 4) (own := RX0) (plainFor_of_name (by decide)) rfl rfl rfl rfl ?_
  intro p e s m below meth cd A ls hcx
  obtain ⟨hx, hb, hRt, hml, hts, hown, hlk, hA, hP, hK, hD, hE, hS, hl⟩ := hcx
  have hl : lv_has ls 2 [(0, .ref h), (1, .int i)] := hl
  refine lv_aload_n hx hb dX0_key_0 rfl (lv_at hl 0 rfl) ?_
  refine va_get (D := g.1) (ci := 2) (v := .ref hk) (C := RX0) (T := TX0) (N := 4) hx hb hts (by decide +kernel) hown hK hP 0 rfl rfl 0 (by decide) (hts (.fieldLink RX0 9 "LearnedIndex$Entries" "keys" "[I") (by decide +kernel)) (fun _ h9 => h9) rfl dX0_key_1 ?_
  refine lv_iload_n hx hb dX0_key_4 rfl (lv_at hl 1 rfl) ?_
  refine kcalli (wc := [(hk, .inl (g.2.1.1, 160, .inl fk))]) [1] (va_runSN (As := [.ref hk, .int i]) (rest := []) ⟨hx, hb, hml, hown, hts⟩ ((c_X6_cell l g hk 160 fk i (by decide)) _) ⟨va_cnB 2 hts gX0_key_X6_cell_n25 rfl rfl rfl (hE.1 _ (List.mem_of_getElem? (i := 24) rfl)) (hts (.initialized RX6) (by decide +kernel)) (by decide +kernel) ⟨Nat.le_of_ble_eq_true rfl, Nat.le_of_ble_eq_true rfl⟩, hts (.static yX6_cell) (by decide +kernel), trivial⟩ (kpreS (wc := [(hk, .inl (g.2.1.1, 160, .inl fk))]) hK hP hD hS hA hE [1] rfl rfl) rfl rfl hl.1 rfl (lv_room (Nat.le_of_ble_eq_true rfl)) dX0_key_5 ⟨Nat.zero_le _, Nat.zero_le _⟩) hP hD hS hA rfl (fun r_1 w_1 H locs hp hP hD hS => ?_)
  obtain ⟨rfl, rfl⟩ := hp
  have hP : va_P g.1 vwCl [(h, .inr (2, [.ref hk, .ref hv, .ref hr, .int (nI n)])), (hk, .inl (g.2.1.1, 160, .inl fk)), (hv, .inl (g.2.1.1, 160, .inl fv)), (hr, .inl (g.2.1.1, 160, .inl fr))] H := hP
  have hD : va_D A [(h, .inr (2, [.ref hk, .ref hv, .ref hr, .int (nI n)])), (hk, .inl (g.2.1.1, 160, .inl fk)), (hv, .inl (g.2.1.1, 160, .inl fv)), (hr, .inl (g.2.1.1, 160, .inl fr))] := hD
  exact kreti hx hb hRt hlk hK hP hD hS rfl dX0_key_8 (⟨rfl, rfl⟩)
set_option maxRecDepth 20000 in
theorem ggX0_value_X6_cell : GoodIn wsX0_value wsX6_cell := goodIn_ca (goodIn_r _ [4] (by decide +kernel) (by decide +kernel)) (goodIn_sub (fun _ h => List.mem_cons_of_mem _ (List.mem_append_right _ h)) (by decide +kernel))
set_option maxRecDepth 20000 in
theorem gX0_value_X6_cell_n25 : GoodIn wsX0_value (wsX6_cell) := ggX0_value_X6_cell
theorem dX0_value_0 : decode cX0_value 0 = .ok (.aload_n 0, 1) := by decide +kernel
theorem dX0_value_1 : decode cX0_value 1 = .ok (.getfield 15, 3) := by decide +kernel
theorem dX0_value_4 : decode cX0_value 4 = .ok (.iload_n 1, 1) := by decide +kernel
theorem dX0_value_5 : decode cX0_value 5 = .ok (.invokestatic 25, 3) := by decide +kernel
theorem dX0_value_8 : decode cX0_value 8 = .ok (.ireturn, 1) := by decide +kernel
def rm_X0_value : Room := { frames := 1, cells := 0, slots := 0, locals := 21 }
abbrev p_X0_value (g : kG) (h : Nat) (hk : Nat) (hv : Nat) (hr : Nat) (n : Nat) (fk : Nat → Int32) (fv : Nat → Int32) (fr : Nat → Int32) (i : Int32) : Int32 → va_W → Prop := fun r w1 => r = kcell 160 fv i ∧ w1 = [(h, .inr (2, [.ref hk, .ref hv, .ref hr, .int (nI n)])), (hk, .inl (g.2.1.1, 160, .inl fk)), (hv, .inl (g.2.1.1, 160, .inl fv)), (hr, .inl (g.2.1.1, 160, .inl fr))]
set_option maxHeartbeats 4000000 in
set_option maxRecDepth 100000 in
theorem c_X0_value (l : Launch) (g : kG) (h : Nat) (hk : Nat) (hv : Nat) (hr : Nat) (n : Nat) (fk : Nat → Int32) (fv : Nat → Int32) (fr : Nat → Int32) (i : Int32) : KI l yX0_value wsX0_value rm_X0_value g [.ref h, .int i] [(h, .inr (2, [.ref hk, .ref hv, .ref hr, .int (nI n)])), (hk, .inl (g.2.1.1, 160, .inl fk)), (hv, .inl (g.2.1.1, 160, .inl fv)), (hr, .inl (g.2.1.1, 160, .inl fr))] (p_X0_value g h hk hv hr n fk fv fr i) := by
  refine kbodyI (cc := cX0_value) (n := 2) (k := 4) (own := RX0) (plainFor_of_name (by decide)) rfl rfl rfl rfl ?_
  intro p e s m below meth cd A ls hcx
  obtain ⟨hx, hb, hRt, hml, hts, hown, hlk, hA, hP, hK, hD, hE, hS, hl⟩ := hcx
  have hl : lv_has ls 2 [(0, .ref h), (1, .int i)] := hl
  refine lv_aload_n hx hb dX0_value_0 rfl (lv_at hl 0 rfl) ?_
  refine va_get (D := g.1) (ci := 2) (v := .ref hv) (C := RX0) (T := TX0) (N := 4) hx hb hts (by decide +kernel) hown hK hP 0 rfl rfl 1 (by decide) (hts (.fieldLink RX0 15 "LearnedIndex$Entries" "values" "[I") (by decide +kernel)) (fun _ h9 => h9) rfl dX0_value_1 ?_
  refine lv_iload_n hx hb dX0_value_4 rfl (lv_at hl 1 rfl) ?_
  refine kcalli (wc := [(hv, .inl (g.2.1.1, 160, .inl fv))]) [2] (va_runSN (As := [.ref hv, .int i]) (rest := []) ⟨hx, hb, hml, hown, hts⟩ ((c_X6_cell l g hv 160 fv i (by decide)) _) ⟨va_cnB 2 hts gX0_value_X6_cell_n25 rfl rfl rfl (hE.1 _ (List.mem_of_getElem? (i := 24) rfl)) (hts (.initialized RX6) (by decide +kernel)) (by decide +kernel) ⟨Nat.le_of_ble_eq_true rfl, Nat.le_of_ble_eq_true rfl⟩, hts (.static yX6_cell) (by decide +kernel), trivial⟩ (kpreS (wc := [(hv, .inl (g.2.1.1, 160, .inl fv))]) hK hP hD hS hA hE [2] rfl rfl) rfl rfl hl.1 rfl (lv_room (Nat.le_of_ble_eq_true rfl)) dX0_value_5 ⟨Nat.zero_le _, Nat.zero_le _⟩) hP hD hS hA rfl (fun r_1 w_1 H locs hp hP hD hS => ?_)
  obtain ⟨rfl, rfl⟩ := hp
  have hP : va_P g.1 vwCl [(h, .inr (2, [.ref hk, .ref hv, .ref hr, .int (nI n)])), (hk, .inl (g.2.1.1, 160, .inl fk)), (hv, .inl (g.2.1.1, 160, .inl fv)), (hr, .inl (g.2.1.1, 160, .inl fr))] H := hP
  have hD : va_D A [(h, .inr (2, [.ref hk, .ref hv, .ref hr, .int (nI n)])), (hk, .inl (g.2.1.1, 160, .inl fk)), (hv, .inl (g.2.1.1, 160, .inl fv)), (hr, .inl (g.2.1.1, 160, .inl fr))] := hD
  exact kreti hx hb hRt hlk hK hP hD hS rfl dX0_value_8 (⟨rfl, rfl⟩)
set_option maxRecDepth 20000 in
theorem ggX0_isRemoval_X6_cell : GoodIn wsX0_isRemoval wsX6_cell := goodIn_ca (goodIn_r _ [4] (by decide +kernel) (by decide +kernel)) (goodIn_sub (fun _ h => List.mem_cons_of_mem _ (List.mem_append_right _ h)) (by decide +kernel))
set_option maxRecDepth 20000 in
theorem gX0_isRemoval_X6_cell_n25 : GoodIn wsX0_isRemoval (wsX6_cell) := ggX0_isRemoval_X6_cell
theorem dX0_isRemoval_0 : decode cX0_isRemoval 0 = .ok (.aload_n 0, 1) := by decide +kernel
theorem dX0_isRemoval_1 : decode cX0_isRemoval 1 = .ok (.getfield 18, 3) := by decide +kernel
theorem dX0_isRemoval_4 : decode cX0_isRemoval 4 = .ok (.iload_n 1, 1) := by decide +kernel
theorem dX0_isRemoval_5 : decode cX0_isRemoval 5 = .ok (.invokestatic 25, 3) := by decide +kernel
theorem dX0_isRemoval_8 : decode cX0_isRemoval 8 = .ok (.iconst 1, 1) := by decide +kernel
theorem dX0_isRemoval_9 : decode cX0_isRemoval 9 = .ok (.if_icmp .ne 7, 3) := by decide +kernel
theorem dX0_isRemoval_12 : decode cX0_isRemoval 12 = .ok (.iconst 1, 1) := by decide +kernel
theorem dX0_isRemoval_13 : decode cX0_isRemoval 13 = .ok (.goto 4, 3) := by decide +kernel
theorem dX0_isRemoval_16 : decode cX0_isRemoval 16 = .ok (.iconst 0, 1) := by decide +kernel
theorem dX0_isRemoval_17 : decode cX0_isRemoval 17 = .ok (.ireturn, 1) := by decide +kernel
def rm_X0_isRemoval : Room := { frames := 1, cells := 0, slots := 0, locals := 21 }
abbrev p_X0_isRemoval (g : kG) (h : Nat) (hk : Nat) (hv : Nat) (hr : Nat) (n : Nat) (fk : Nat → Int32) (fv : Nat → Int32) (fr : Nat → Int32) (i : Int32) : Int32 → va_W → Prop := fun r w1 => r = kis1 (kcell 160 fr i) ∧ w1 = [(h, .inr (2, [.ref hk, .ref hv, .ref hr, .int (nI n)])), (hk, .inl (g.2.1.1, 160, .inl fk)), (hv, .inl (g.2.1.1, 160, .inl fv)), (hr, .inl (g.2.1.1, 160, .inl fr))]
set_option maxHeartbeats 4000000 in
set_option maxRecDepth 100000 in
theorem c_X0_isRemoval (l : Launch) (g : kG) (h : Nat) (hk : Nat) (hv : Nat) (hr : Nat) (n : Nat) (fk : Nat → Int32) (fv : Nat → Int32) (fr : Nat → Int32) (i : Int32) : KI l yX0_isRemoval wsX0_isRemoval rm_X0_isRemoval g [.ref h, .int i] [(h, .inr (2, [.ref hk, .ref hv, .ref hr, .int (nI n)])), (hk, .inl (g.2.1.1, 160, .inl fk)), (hv, .inl (g.2.1.1, 160, .inl fv)), (hr, .inl (g.2.1.1, 160, .inl fr))] (p_X0_isRemoval g h hk hv hr n fk fv fr i) := by
  refine kbodyI (cc := cX0_isRemoval) (n := 2) (k := 4) (own := RX0) (plainFor_of_name (by decide)) rfl rfl rfl rfl ?_
  intro p e s m below meth cd A ls hcx
  obtain ⟨hx, hb, hRt, hml, hts, hown, hlk, hA, hP, hK, hD, hE, hS, hl⟩ := hcx
  have hl : lv_has ls 2 [(0, .ref h), (1, .int i)] := hl
  refine lv_aload_n hx hb dX0_isRemoval_0 rfl (lv_at hl 0 rfl) ?_
  refine va_get (D := g.1) (ci := 2) (v := .ref hr) (C := RX0) (T := TX0) (N := 4) hx hb hts (by decide +kernel) hown hK hP 0 rfl rfl 2 (by decide) (hts (.fieldLink RX0 18 "LearnedIndex$Entries" "removals" "[I") (by decide +kernel)) (fun _ h9 => h9) rfl dX0_isRemoval_1 ?_
  refine lv_iload_n hx hb dX0_isRemoval_4 rfl (lv_at hl 1 rfl) ?_
  refine kcalli (wc := [(hr, .inl (g.2.1.1, 160, .inl fr))]) [3] (va_runSN (As := [.ref hr, .int i]) (rest := []) ⟨hx, hb, hml, hown, hts⟩ ((c_X6_cell l g hr 160 fr i (by decide)) _) ⟨va_cnB 2 hts gX0_isRemoval_X6_cell_n25 rfl rfl rfl (hE.1 _ (List.mem_of_getElem? (i := 24) rfl)) (hts (.initialized RX6) (by decide +kernel)) (by decide +kernel) ⟨Nat.le_of_ble_eq_true rfl, Nat.le_of_ble_eq_true rfl⟩, hts (.static yX6_cell) (by decide +kernel), trivial⟩ (kpreS (wc := [(hr, .inl (g.2.1.1, 160, .inl fr))]) hK hP hD hS hA hE [3] rfl rfl) rfl rfl hl.1 rfl (lv_room (Nat.le_of_ble_eq_true rfl)) dX0_isRemoval_5 ⟨Nat.zero_le _, Nat.zero_le _⟩) hP hD hS hA rfl (fun r_1 w_1 H locs hp hP hD hS => ?_)
  obtain ⟨rfl, rfl⟩ := hp
  have hP : va_P g.1 vwCl [(h, .inr (2, [.ref hk, .ref hv, .ref hr, .int (nI n)])), (hk, .inl (g.2.1.1, 160, .inl fk)), (hv, .inl (g.2.1.1, 160, .inl fv)), (hr, .inl (g.2.1.1, 160, .inl fr))] H := hP
  have hD : va_D A [(h, .inr (2, [.ref hk, .ref hv, .ref hr, .int (nI n)])), (hk, .inl (g.2.1.1, 160, .inl fk)), (hv, .inl (g.2.1.1, 160, .inl fv)), (hr, .inl (g.2.1.1, 160, .inl fr))] := hD
  refine lv_iconst (v := 1) hx hb dX0_isRemoval_8 (by decide) ?_
  refine lv_icmp_ne (tgt := 16) hx hb dX0_isRemoval_9 (by decide) (fun c_9 => ?_) (fun c_9 => ?_)
  · skip
    refine lv_iconst (v := 0) hx hb dX0_isRemoval_16 (by decide) ?_
    exact kretz hx hb hRt hlk hK hP hD hS rfl dX0_isRemoval_17 (by decide) (⟨by simp [kis1, c_9], rfl⟩)
  · skip
    refine lv_iconst (v := 1) hx hb dX0_isRemoval_12 (by decide) ?_
    refine lv_goto (tgt := 17) hx hb dX0_isRemoval_13 (by decide) ?_
    exact kretz hx hb hRt hlk hK hP hD hS rfl dX0_isRemoval_17 (by decide) (⟨by simp [kis1, c_9], rfl⟩)
set_option maxRecDepth 20000 in
theorem ggX0_removalsIn_X6_cell : GoodIn wsX0_removalsIn wsX6_cell := goodIn_ca (goodIn_r _ [5] (by decide +kernel) (by decide +kernel)) (goodIn_sub (fun _ h => List.mem_cons_of_mem _ (List.mem_append_right _ h)) (by decide +kernel))
set_option maxRecDepth 20000 in
theorem gX0_removalsIn_X6_cell_n25 : GoodIn wsX0_removalsIn (wsX6_cell) := ggX0_removalsIn_X6_cell
theorem dX0_removalsIn_0 : decode cX0_removalsIn 0 = .ok (.iconst 0, 1) := by decide +kernel
theorem dX0_removalsIn_1 : decode cX0_removalsIn 1 = .ok (.istore_n 1, 1) := by decide +kernel
theorem dX0_removalsIn_2 : decode cX0_removalsIn 2 = .ok (.iconst 0, 1) := by decide +kernel
theorem dX0_removalsIn_3 : decode cX0_removalsIn 3 = .ok (.istore_n 2, 1) := by decide +kernel
theorem dX0_removalsIn_4 : decode cX0_removalsIn 4 = .ok (.iload_n 2, 1) := by decide +kernel
theorem dX0_removalsIn_5 : decode cX0_removalsIn 5 = .ok (.aload_n 0, 1) := by decide +kernel
theorem dX0_removalsIn_6 : decode cX0_removalsIn 6 = .ok (.getfield 21, 3) := by decide +kernel
theorem dX0_removalsIn_9 : decode cX0_removalsIn 9 = .ok (.if_icmp .ge 20, 3) := by decide +kernel
theorem dX0_removalsIn_12 : decode cX0_removalsIn 12 = .ok (.iload_n 1, 1) := by decide +kernel
theorem dX0_removalsIn_13 : decode cX0_removalsIn 13 = .ok (.aload_n 0, 1) := by decide +kernel
theorem dX0_removalsIn_14 : decode cX0_removalsIn 14 = .ok (.getfield 18, 3) := by decide +kernel
theorem dX0_removalsIn_17 : decode cX0_removalsIn 17 = .ok (.iload_n 2, 1) := by decide +kernel
theorem dX0_removalsIn_18 : decode cX0_removalsIn 18 = .ok (.invokestatic 25, 3) := by decide +kernel
theorem dX0_removalsIn_21 : decode cX0_removalsIn 21 = .ok (.iadd, 1) := by decide +kernel
theorem dX0_removalsIn_22 : decode cX0_removalsIn 22 = .ok (.istore_n 1, 1) := by decide +kernel
theorem dX0_removalsIn_23 : decode cX0_removalsIn 23 = .ok (.iinc 2 1, 3) := by decide +kernel
theorem dX0_removalsIn_26 : decode cX0_removalsIn 26 = .ok (.goto (-22), 3) := by decide +kernel
theorem dX0_removalsIn_29 : decode cX0_removalsIn 29 = .ok (.iload_n 1, 1) := by decide +kernel
theorem dX0_removalsIn_30 : decode cX0_removalsIn 30 = .ok (.ireturn, 1) := by decide +kernel
def rm_X0_removalsIn : Room := { frames := 1, cells := 0, slots := 0, locals := 21 }
abbrev p_X0_removalsIn (g : kG) (h : Nat) (hk : Nat) (hv : Nat) (hr : Nat) (n : Nat) (fk : Nat → Int32) (fv : Nat → Int32) (fr : Nat → Int32) : Int32 → va_W → Prop := fun r w1 => r = ksum fr n ∧ w1 = [(h, .inr (2, [.ref hk, .ref hv, .ref hr, .int (nI n)])), (hk, .inl (g.2.1.1, 160, .inl fk)), (hv, .inl (g.2.1.1, 160, .inl fv)), (hr, .inl (g.2.1.1, 160, .inl fr))]
set_option maxHeartbeats 4000000 in
set_option maxRecDepth 100000 in
theorem c_X0_removalsIn (l : Launch) (g : kG) (h : Nat) (hk : Nat) (hv : Nat) (hr : Nat) (n : Nat) (fk : Nat → Int32) (fv : Nat → Int32) (fr : Nat → Int32) (hn : n ≤ 160) : KI l yX0_removalsIn wsX0_removalsIn rm_X0_removalsIn g [.ref h] [(h, .inr (2, [.ref hk, .ref hv, .ref hr, .int (nI n)])), (hk, .inl (g.2.1.1, 160, .inl fk)), (hv, .inl (g.2.1.1, 160, .inl fv)), (hr, .inl (g.2.1.1, 160, .inl fr))] (p_X0_removalsIn g h hk hv hr n fk fv fr) := by
  refine kbodyI (cc := cX0_removalsIn) (n := 3) (k := 4) (own := RX0) (plainFor_of_name (by decide)) rfl rfl rfl rfl ?_
  intro p e s m below meth cd A ls hcx
  obtain ⟨hx, hb, hRt, hml, hts, hown, hlk, hA, hP, hK, hD, hE, hS, hl⟩ := hcx
  have hl : lv_has ls 3 [(0, .ref h)] := hl
  refine lv_iconst (v := 0) hx hb dX0_removalsIn_0 (by decide) ?_
  refine lv_istore_n (lv' := [(1, .int 0), (0, .ref h)]) hx hb dX0_removalsIn_1 rfl hl (by decide) rfl (fun ls hl => ?_)
  refine lv_iconst (v := 0) hx hb dX0_removalsIn_2 (by decide) ?_
  refine lv_istore_n (lv' := [(2, .int 0), (1, .int 0), (0, .ref h)]) hx hb dX0_removalsIn_3 rfl hl (by decide) rfl (fun ls hl => ?_)
  have L4 : ∀ (n9 : Nat) (i : Nat) (a : Int32) (H : Heap) (locs : List Loc) (ls : Array Slot), (i ≤ n) → (a = ksum fr i) → n - i < n9 → va_P g.1 vwCl [(h, .inr (2, [.ref hk, .ref hv, .ref hr, .int (nI n)])), (hk, .inl (g.2.1.1, 160, .inl fk)), (hv, .inl (g.2.1.1, 160, .inl fv)), (hr, .inl (g.2.1.1, 160, .inl fr))] H → va_D A [(h, .inr (2, [.ref hk, .ref hv, .ref hr, .int (nI n)])), (hk, .inl (g.2.1.1, 160, .inl fk)), (hv, .inl (g.2.1.1, 160, .inl fv)), (hr, .inl (g.2.1.1, 160, .inl fr))] → va_S A s.heap H locs → lv_has ls 3 [(2, .int (nI i)), (1, .int a), (0, .ref h)] → W p l e rm_X0_removalsIn s m ([.ref h] : List Value).toArray below meth cd H locs 0 0 (kQi g 4 A (p_X0_removalsIn g h hk hv hr n fk fv fr) below ([.ref h] : List Value).toArray s) (F0 m 4 ls []) := by
    intro n9
    induction n9 with
    | zero => intro i a H locs ls hi ha h9; exact absurd h9 (Nat.not_lt_zero _)
    | succ n9 ih4 =>
      intro i a H locs ls hi ha hn4 hP hD hS hl
      refine lv_iload_n hx hb dX0_removalsIn_4 rfl (lv_at hl 0 rfl) ?_
      refine lv_aload_n hx hb dX0_removalsIn_5 rfl (lv_at hl 2 rfl) ?_
      refine va_get (D := g.1) (ci := 2) (v := .int (nI n)) (C := RX0) (T := TX0) (N := 4) hx hb hts (by decide +kernel) hown hK hP 0 rfl rfl 3 (by decide) (hts (.fieldLink RX0 21 "LearnedIndex$Entries" "size" "I") (by decide +kernel)) (fun _ h9 => h9) rfl dX0_removalsIn_6 ?_
      refine lv_icmp_ge (tgt := 29) hx hb dX0_removalsIn_9 (by decide) (fun c_9 => ?_) (fun c_9 => ?_)
      · skip
        have hik : n ≤ i := kg (by omega) (by omega) c_9
        refine lv_iload_n hx hb dX0_removalsIn_29 rfl (lv_at hl 1 rfl) ?_
        exact kreti hx hb hRt hlk hK hP hD hS rfl dX0_removalsIn_30 (⟨by rw [ha, show i = n by omega], rfl⟩)
      · skip
        have hik : i < n := kl (by omega) (by omega) c_9
        refine lv_iload_n hx hb dX0_removalsIn_12 rfl (lv_at hl 1 rfl) ?_
        refine lv_aload_n hx hb dX0_removalsIn_13 rfl (lv_at hl 2 rfl) ?_
        refine va_get (D := g.1) (ci := 2) (v := .ref hr) (C := RX0) (T := TX0) (N := 4) hx hb hts (by decide +kernel) hown hK hP 0 rfl rfl 2 (by decide) (hts (.fieldLink RX0 18 "LearnedIndex$Entries" "removals" "[I") (by decide +kernel)) (fun _ h9 => h9) rfl dX0_removalsIn_14 ?_
        refine lv_iload_n hx hb dX0_removalsIn_17 rfl (lv_at hl 0 rfl) ?_
        refine kcalli (wc := [(hr, .inl (g.2.1.1, 160, .inl fr))]) [3] (va_runSN (As := [.ref hr, .int (nI i)]) (rest := [.int a]) ⟨hx, hb, hml, hown, hts⟩ ((c_X6_cell l g hr 160 fr (nI i) (by decide)) _) ⟨va_cnB 2 hts gX0_removalsIn_X6_cell_n25 rfl rfl rfl (hE.1 _ (List.mem_of_getElem? (i := 24) rfl)) (hts (.initialized RX6) (by decide +kernel)) (by decide +kernel) ⟨Nat.le_of_ble_eq_true rfl, Nat.le_of_ble_eq_true rfl⟩, hts (.static yX6_cell) (by decide +kernel), trivial⟩ (kpreS (wc := [(hr, .inl (g.2.1.1, 160, .inl fr))]) hK hP hD hS hA hE [3] rfl rfl) rfl rfl hl.1 rfl (lv_room (Nat.le_of_ble_eq_true rfl)) dX0_removalsIn_18 ⟨Nat.zero_le _, Nat.zero_le _⟩) hP hD hS hA rfl (fun r_1 w_1 H locs hp hP hD hS => ?_)
        obtain ⟨rfl, rfl⟩ := hp
        have hP : va_P g.1 vwCl [(h, .inr (2, [.ref hk, .ref hv, .ref hr, .int (nI n)])), (hk, .inl (g.2.1.1, 160, .inl fk)), (hv, .inl (g.2.1.1, 160, .inl fv)), (hr, .inl (g.2.1.1, 160, .inl fr))] H := hP
        have hD : va_D A [(h, .inr (2, [.ref hk, .ref hv, .ref hr, .int (nI n)])), (hk, .inl (g.2.1.1, 160, .inl fk)), (hv, .inl (g.2.1.1, 160, .inl fv)), (hr, .inl (g.2.1.1, 160, .inl fr))] := hD
        refine lv_iadd hx hb dX0_removalsIn_21 ?_
        refine lv_istore_n (lv' := [(1, .int (a + (kcell 160 fr (nI i)))), (2, .int (nI i)), (0, .ref h)]) hx hb dX0_removalsIn_22 rfl hl (by decide) rfl (fun ls hl => ?_)
        refine lv_iinc (v := nI (i + 1)) (lv' := [(2, .int (nI (i + 1))), (1, .int (a + (kcell 160 fr (nI i)))), (0, .ref h)]) hx hb dX0_removalsIn_23 hl (k := 1) rfl (nI_1 i) (by decide) rfl (fun ls hl => ?_)
        refine lv_goto (tgt := 4) hx hb dX0_removalsIn_26 (by decide) ?_
        exact ih4 (i + 1) (a + (kcell 160 fr (nI i))) _ _ ls hik (by rw [ha, kcell_nI fr (by decide) (by omega)]; rfl) (by omega) hP hD hS (lv_sub hl [0, 1, 2] rfl)
  exact L4 _ 0 0 _ _ ls (Nat.zero_le _) rfl (Nat.lt_succ_self _) hP hD hS (lv_sub hl [0, 1, 2] rfl)
set_option maxRecDepth 20000 in
theorem ggX0_lesserThan_X6_cell : GoodIn wsX0_lesserThan wsX6_cell := goodIn_ca (goodIn_r _ [5] (by decide +kernel) (by decide +kernel)) (goodIn_sub (fun _ h => List.mem_cons_of_mem _ (List.mem_append_right _ h)) (by decide +kernel))
set_option maxRecDepth 20000 in
theorem gX0_lesserThan_X6_cell_n25 : GoodIn wsX0_lesserThan (wsX6_cell) := ggX0_lesserThan_X6_cell
theorem dX0_lesserThan_0 : decode cX0_lesserThan 0 = .ok (.iconst 0, 1) := by decide +kernel
theorem dX0_lesserThan_1 : decode cX0_lesserThan 1 = .ok (.istore_n 2, 1) := by decide +kernel
theorem dX0_lesserThan_2 : decode cX0_lesserThan 2 = .ok (.iload_n 2, 1) := by decide +kernel
theorem dX0_lesserThan_3 : decode cX0_lesserThan 3 = .ok (.aload_n 0, 1) := by decide +kernel
theorem dX0_lesserThan_4 : decode cX0_lesserThan 4 = .ok (.getfield 21, 3) := by decide +kernel
theorem dX0_lesserThan_7 : decode cX0_lesserThan 7 = .ok (.if_icmp .ge 21, 3) := by decide +kernel
theorem dX0_lesserThan_10 : decode cX0_lesserThan 10 = .ok (.aload_n 0, 1) := by decide +kernel
theorem dX0_lesserThan_11 : decode cX0_lesserThan 11 = .ok (.getfield 9, 3) := by decide +kernel
theorem dX0_lesserThan_14 : decode cX0_lesserThan 14 = .ok (.iload_n 2, 1) := by decide +kernel
theorem dX0_lesserThan_15 : decode cX0_lesserThan 15 = .ok (.invokestatic 25, 3) := by decide +kernel
theorem dX0_lesserThan_18 : decode cX0_lesserThan 18 = .ok (.iload_n 1, 1) := by decide +kernel
theorem dX0_lesserThan_19 : decode cX0_lesserThan 19 = .ok (.if_icmp .ge 9, 3) := by decide +kernel
theorem dX0_lesserThan_22 : decode cX0_lesserThan 22 = .ok (.iinc 2 1, 3) := by decide +kernel
theorem dX0_lesserThan_25 : decode cX0_lesserThan 25 = .ok (.goto (-23), 3) := by decide +kernel
theorem dX0_lesserThan_28 : decode cX0_lesserThan 28 = .ok (.iload_n 2, 1) := by decide +kernel
theorem dX0_lesserThan_29 : decode cX0_lesserThan 29 = .ok (.ireturn, 1) := by decide +kernel
def rm_X0_lesserThan : Room := { frames := 1, cells := 0, slots := 0, locals := 21 }
abbrev p_X0_lesserThan (g : kG) (h : Nat) (hk : Nat) (hv : Nat) (hr : Nat) (n : Nat) (fk : Nat → Int32) (fv : Nat → Int32) (fr : Nat → Int32) (x : Int32) : Int32 → va_W → Prop := fun r w1 => ∃ (i : Nat), r = nI i ∧ (kfst n fk x i) ∧ w1 = [(h, .inr (2, [.ref hk, .ref hv, .ref hr, .int (nI n)])), (hk, .inl (g.2.1.1, 160, .inl fk)), (hv, .inl (g.2.1.1, 160, .inl fv)), (hr, .inl (g.2.1.1, 160, .inl fr))]
set_option maxHeartbeats 4000000 in
set_option maxRecDepth 100000 in
theorem c_X0_lesserThan (l : Launch) (g : kG) (h : Nat) (hk : Nat) (hv : Nat) (hr : Nat) (n : Nat) (fk : Nat → Int32) (fv : Nat → Int32) (fr : Nat → Int32) (x : Int32) (hn : n ≤ 160) : KI l yX0_lesserThan wsX0_lesserThan rm_X0_lesserThan g [.ref h, .int x] [(h, .inr (2, [.ref hk, .ref hv, .ref hr, .int (nI n)])), (hk, .inl (g.2.1.1, 160, .inl fk)), (hv, .inl (g.2.1.1, 160, .inl fv)), (hr, .inl (g.2.1.1, 160, .inl fr))] (p_X0_lesserThan g h hk hv hr n fk fv fr x) := by
  refine kbodyI (cc := cX0_lesserThan) (n := 3) (k := 4) (own := RX0) (plainFor_of_name (by decide)) rfl rfl rfl rfl ?_
  intro p e s m below meth cd A ls hcx
  obtain ⟨hx, hb, hRt, hml, hts, hown, hlk, hA, hP, hK, hD, hE, hS, hl⟩ := hcx
  have hl : lv_has ls 3 [(0, .ref h), (1, .int x)] := hl
  refine lv_iconst (v := 0) hx hb dX0_lesserThan_0 (by decide) ?_
  refine lv_istore_n (lv' := [(2, .int 0), (0, .ref h), (1, .int x)]) hx hb dX0_lesserThan_1 rfl hl (by decide) rfl (fun ls hl => ?_)
  have L2 : ∀ (n9 : Nat) (i : Nat) (H : Heap) (locs : List Loc) (ls : Array Slot), (i ≤ n) → (∀ j, j < i → fk j < x) → n - i < n9 → va_P g.1 vwCl [(h, .inr (2, [.ref hk, .ref hv, .ref hr, .int (nI n)])), (hk, .inl (g.2.1.1, 160, .inl fk)), (hv, .inl (g.2.1.1, 160, .inl fv)), (hr, .inl (g.2.1.1, 160, .inl fr))] H → va_D A [(h, .inr (2, [.ref hk, .ref hv, .ref hr, .int (nI n)])), (hk, .inl (g.2.1.1, 160, .inl fk)), (hv, .inl (g.2.1.1, 160, .inl fv)), (hr, .inl (g.2.1.1, 160, .inl fr))] → va_S A s.heap H locs → lv_has ls 3 [(2, .int (nI i)), (0, .ref h), (1, .int x)] → W p l e rm_X0_lesserThan s m ([.ref h, .int x] : List Value).toArray below meth cd H locs 0 0 (kQi g 4 A (p_X0_lesserThan g h hk hv hr n fk fv fr x) below ([.ref h, .int x] : List Value).toArray s) (F0 m 2 ls []) := by
    intro n9
    induction n9 with
    | zero => intro i H locs ls hi ha h9; exact absurd h9 (Nat.not_lt_zero _)
    | succ n9 ih2 =>
      intro i H locs ls hi ha hn2 hP hD hS hl
      refine lv_iload_n hx hb dX0_lesserThan_2 rfl (lv_at hl 0 rfl) ?_
      refine lv_aload_n hx hb dX0_lesserThan_3 rfl (lv_at hl 1 rfl) ?_
      refine va_get (D := g.1) (ci := 2) (v := .int (nI n)) (C := RX0) (T := TX0) (N := 4) hx hb hts (by decide +kernel) hown hK hP 0 rfl rfl 3 (by decide) (hts (.fieldLink RX0 21 "LearnedIndex$Entries" "size" "I") (by decide +kernel)) (fun _ h9 => h9) rfl dX0_lesserThan_4 ?_
      refine lv_icmp_ge (tgt := 28) hx hb dX0_lesserThan_7 (by decide) (fun c_7 => ?_) (fun c_7 => ?_)
      · skip
        have hik : n ≤ i := kg (by omega) (by omega) c_7
        refine lv_iload_n hx hb dX0_lesserThan_28 rfl (lv_at hl 0 rfl) ?_
        exact kreti hx hb hRt hlk hK hP hD hS rfl dX0_lesserThan_29 (⟨i, rfl, ⟨hi, ha, fun hh => absurd hh (by omega)⟩, rfl⟩)
      · skip
        have hik : i < n := kl (by omega) (by omega) c_7
        refine lv_aload_n hx hb dX0_lesserThan_10 rfl (lv_at hl 1 rfl) ?_
        refine va_get (D := g.1) (ci := 2) (v := .ref hk) (C := RX0) (T := TX0) (N := 4) hx hb hts (by decide +kernel) hown hK hP 0 rfl rfl 0 (by decide) (hts (.fieldLink RX0 9 "LearnedIndex$Entries" "keys" "[I") (by decide +kernel)) (fun _ h9 => h9) rfl dX0_lesserThan_11 ?_
        refine lv_iload_n hx hb dX0_lesserThan_14 rfl (lv_at hl 0 rfl) ?_
        refine kcalli (wc := [(hk, .inl (g.2.1.1, 160, .inl fk))]) [1] (va_runSN (As := [.ref hk, .int (nI i)]) (rest := []) ⟨hx, hb, hml, hown, hts⟩ ((c_X6_cell l g hk 160 fk (nI i) (by decide)) _) ⟨va_cnB 2 hts gX0_lesserThan_X6_cell_n25 rfl rfl rfl (hE.1 _ (List.mem_of_getElem? (i := 24) rfl)) (hts (.initialized RX6) (by decide +kernel)) (by decide +kernel) ⟨Nat.le_of_ble_eq_true rfl, Nat.le_of_ble_eq_true rfl⟩, hts (.static yX6_cell) (by decide +kernel), trivial⟩ (kpreS (wc := [(hk, .inl (g.2.1.1, 160, .inl fk))]) hK hP hD hS hA hE [1] rfl rfl) rfl rfl hl.1 rfl (lv_room (Nat.le_of_ble_eq_true rfl)) dX0_lesserThan_15 ⟨Nat.zero_le _, Nat.zero_le _⟩) hP hD hS hA rfl (fun r_1 w_1 H locs hp hP hD hS => ?_)
        obtain ⟨rfl, rfl⟩ := hp
        have hP : va_P g.1 vwCl [(h, .inr (2, [.ref hk, .ref hv, .ref hr, .int (nI n)])), (hk, .inl (g.2.1.1, 160, .inl fk)), (hv, .inl (g.2.1.1, 160, .inl fv)), (hr, .inl (g.2.1.1, 160, .inl fr))] H := hP
        have hD : va_D A [(h, .inr (2, [.ref hk, .ref hv, .ref hr, .int (nI n)])), (hk, .inl (g.2.1.1, 160, .inl fk)), (hv, .inl (g.2.1.1, 160, .inl fv)), (hr, .inl (g.2.1.1, 160, .inl fr))] := hD
        have e_15 := kcell_nI fk (show 160 < 2 ^ 31 by decide) (show i < 160 by omega)
        refine lv_iload_n hx hb dX0_lesserThan_18 rfl (lv_at hl 2 rfl) ?_
        refine lv_icmp_ge (tgt := 28) hx hb dX0_lesserThan_19 (by decide) (fun c_19 => ?_) (fun c_19 => ?_)
        · skip
          rw [e_15] at c_19
          refine lv_iload_n hx hb dX0_lesserThan_28 rfl (lv_at hl 0 rfl) ?_
          exact kreti hx hb hRt hlk hK hP hD hS rfl dX0_lesserThan_29 (⟨i, rfl, ⟨hi, ha, fun hh => by have c := c_19; exact Int32.not_lt.mpr c⟩, rfl⟩)
        · skip
          rw [e_15] at c_19
          refine lv_iinc (v := nI (i + 1)) (lv' := [(2, .int (nI (i + 1))), (0, .ref h), (1, .int x)]) hx hb dX0_lesserThan_22 hl (k := 0) rfl (nI_1 i) (by decide) rfl (fun ls hl => ?_)
          refine lv_goto (tgt := 2) hx hb dX0_lesserThan_25 (by decide) ?_
          exact ih2 (i + 1) _ _ ls hik (lt_s ha (Int32.not_le.mp c_19)) (by omega) hP hD hS (lv_sub hl [0, 1, 2] rfl)
  exact L2 _ 0 _ _ ls (Nat.zero_le _) (fun j hj => absurd hj (Nat.not_lt_zero _)) (Nat.lt_succ_self _) hP hD hS (lv_sub hl [0, 1, 2] rfl)
set_option maxRecDepth 20000 in
theorem ggX0_find_X0_lesserThan : GoodIn wsX0_find wsX0_lesserThan := goodIn_ca (goodIn_r _ [6, 1, 7, 8, 9, 10, 15, 16, 17, 18] (by decide +kernel) (by decide +kernel)) (goodIn_sub (fun _ h => List.mem_cons_of_mem _ (List.mem_append_right _ h)) (by decide +kernel))
set_option maxRecDepth 20000 in
theorem gX0_find_X0_lesserThan : GoodIn wsX0_find (wsV RX0 29 RX0 yX0_lesserThan wsX0_lesserThan) := goodIn_app (goodIn_of _ (by decide +kernel)) ggX0_find_X0_lesserThan
set_option maxRecDepth 20000 in
theorem ggX0_find_X0_key : GoodIn wsX0_find wsX0_key := goodIn_ca (goodIn_r _ [14, 7, 8, 9, 10, 15, 16, 17, 18] (by decide +kernel) (by decide +kernel)) (goodIn_sub (fun _ h => List.mem_cons_of_mem _ (List.mem_append_right _ h)) (by decide +kernel))
set_option maxRecDepth 20000 in
theorem gX0_find_X0_key : GoodIn wsX0_find (wsV RX0 33 RX0 yX0_key wsX0_key) := goodIn_app (goodIn_of _ (by decide +kernel)) ggX0_find_X0_key
theorem dX0_find_0 : decode cX0_find 0 = .ok (.aload_n 0, 1) := by decide +kernel
theorem dX0_find_1 : decode cX0_find 1 = .ok (.iload_n 1, 1) := by decide +kernel
theorem dX0_find_2 : decode cX0_find 2 = .ok (.invokevirtual 29, 3) := by decide +kernel
theorem dX0_find_5 : decode cX0_find 5 = .ok (.istore_n 2, 1) := by decide +kernel
theorem dX0_find_6 : decode cX0_find 6 = .ok (.iload_n 2, 1) := by decide +kernel
theorem dX0_find_7 : decode cX0_find 7 = .ok (.aload_n 0, 1) := by decide +kernel
theorem dX0_find_8 : decode cX0_find 8 = .ok (.getfield 21, 3) := by decide +kernel
theorem dX0_find_11 : decode cX0_find 11 = .ok (.if_icmp .ge 16, 3) := by decide +kernel
theorem dX0_find_14 : decode cX0_find 14 = .ok (.aload_n 0, 1) := by decide +kernel
theorem dX0_find_15 : decode cX0_find 15 = .ok (.iload_n 2, 1) := by decide +kernel
theorem dX0_find_16 : decode cX0_find 16 = .ok (.invokevirtual 33, 3) := by decide +kernel
theorem dX0_find_19 : decode cX0_find 19 = .ok (.iload_n 1, 1) := by decide +kernel
theorem dX0_find_20 : decode cX0_find 20 = .ok (.if_icmp .ne 7, 3) := by decide +kernel
theorem dX0_find_23 : decode cX0_find 23 = .ok (.iload_n 2, 1) := by decide +kernel
theorem dX0_find_24 : decode cX0_find 24 = .ok (.goto 4, 3) := by decide +kernel
theorem dX0_find_27 : decode cX0_find 27 = .ok (.iconst (-1), 1) := by decide +kernel
theorem dX0_find_28 : decode cX0_find 28 = .ok (.ireturn, 1) := by decide +kernel
def rm_X0_find : Room := { frames := 2, cells := 0, slots := 0, locals := 43 }
abbrev p_X0_find (g : kG) (h : Nat) (hk : Nat) (hv : Nat) (hr : Nat) (n : Nat) (fk : Nat → Int32) (fv : Nat → Int32) (fr : Nat → Int32) (x : Int32) : Int32 → va_W → Prop := fun r w1 => ∃ (i : Nat), r = kfnd n fk x i ∧ (kfst n fk x i) ∧ w1 = [(h, .inr (2, [.ref hk, .ref hv, .ref hr, .int (nI n)])), (hk, .inl (g.2.1.1, 160, .inl fk)), (hv, .inl (g.2.1.1, 160, .inl fv)), (hr, .inl (g.2.1.1, 160, .inl fr))]
set_option maxHeartbeats 4000000 in
set_option maxRecDepth 100000 in
theorem c_X0_find (l : Launch) (g : kG) (h : Nat) (hk : Nat) (hv : Nat) (hr : Nat) (n : Nat) (fk : Nat → Int32) (fv : Nat → Int32) (fr : Nat → Int32) (x : Int32) (hn : n ≤ 160) : KI l yX0_find wsX0_find rm_X0_find g [.ref h, .int x] [(h, .inr (2, [.ref hk, .ref hv, .ref hr, .int (nI n)])), (hk, .inl (g.2.1.1, 160, .inl fk)), (hv, .inl (g.2.1.1, 160, .inl fv)), (hr, .inl (g.2.1.1, 160, .inl fr))] (p_X0_find g h hk hv hr n fk fv fr x) := by
  refine kbodyI (cc := cX0_find) (n := 3) (k := 4) (own := RX0) (plainFor_of_name (by decide)) rfl rfl rfl rfl ?_
  intro p e s m below meth cd A ls hcx
  obtain ⟨hx, hb, hRt, hml, hts, hown, hlk, hA, hP, hK, hD, hE, hS, hl⟩ := hcx
  have hl : lv_has ls 3 [(0, .ref h), (1, .int x)] := hl
  refine lv_aload_n hx hb dX0_find_0 rfl (lv_at hl 0 rfl) ?_
  refine lv_iload_n hx hb dX0_find_1 rfl (lv_at hl 1 rfl) ?_
  refine kcalli (wc := [(h, .inr (2, [.ref hk, .ref hv, .ref hr, .int (nI n)])), (hk, .inl (g.2.1.1, 160, .inl fk)), (hv, .inl (g.2.1.1, 160, .inl fv)), (hr, .inl (g.2.1.1, 160, .inl fr))]) [0, 1, 2, 3] (va_runV (C := RX0) (As := [.int x]) (rest := []) ⟨hx, hb, hml, hown, hts⟩ ((c_X0_lesserThan l g h hk hv hr n fk fv fr x hn) _) (cwV 1 hts gX0_find_X0_lesserThan rfl rfl rfl (by decide +kernel) ⟨Nat.le_of_ble_eq_true rfl, Nat.le_of_ble_eq_true rfl⟩) (kpreV (wc := [(h, .inr (2, [.ref hk, .ref hv, .ref hr, .int (nI n)])), (hk, .inl (g.2.1.1, 160, .inl fk)), (hv, .inl (g.2.1.1, 160, .inl fv)), (hr, .inl (g.2.1.1, 160, .inl fr))]) (ci := 2) hK hP hD hS hA hE [0, 1, 2, 3] rfl rfl rfl rfl) rfl rfl hl.1 rfl (lv_room (Nat.le_of_ble_eq_true rfl)) dX0_find_2 ⟨Nat.zero_le _, Nat.zero_le _⟩) hP hD hS hA rfl (fun r_1 w_1 H locs hp hP hD hS => ?_)
  obtain ⟨i, rfl, hf, rfl⟩ := hp
  have hP : va_P g.1 vwCl [(h, .inr (2, [.ref hk, .ref hv, .ref hr, .int (nI n)])), (hk, .inl (g.2.1.1, 160, .inl fk)), (hv, .inl (g.2.1.1, 160, .inl fv)), (hr, .inl (g.2.1.1, 160, .inl fr))] H := hP
  have hD : va_D A [(h, .inr (2, [.ref hk, .ref hv, .ref hr, .int (nI n)])), (hk, .inl (g.2.1.1, 160, .inl fk)), (hv, .inl (g.2.1.1, 160, .inl fv)), (hr, .inl (g.2.1.1, 160, .inl fr))] := hD
  have hin := hf.1
  refine lv_istore_n (lv' := [(2, .int (nI i)), (0, .ref h), (1, .int x)]) hx hb dX0_find_5 rfl hl (by decide) rfl (fun ls hl => ?_)
  refine lv_iload_n hx hb dX0_find_6 rfl (lv_at hl 0 rfl) ?_
  refine lv_aload_n hx hb dX0_find_7 rfl (lv_at hl 1 rfl) ?_
  refine va_get (D := g.1) (ci := 2) (v := .int (nI n)) (C := RX0) (T := TX0) (N := 4) hx hb hts (by decide +kernel) hown hK hP 0 rfl rfl 3 (by decide) (hts (.fieldLink RX0 21 "LearnedIndex$Entries" "size" "I") (by decide +kernel)) (fun _ h9 => h9) rfl dX0_find_8 ?_
  refine lv_icmp_ge (tgt := 27) hx hb dX0_find_11 (by decide) (fun c_11 => ?_) (fun c_11 => ?_)
  · skip
    have hik : n ≤ i := kg (by omega) (by omega) c_11
    refine lv_iconst (v := (-1)) hx hb dX0_find_27 (by decide) ?_
    exact kreti hx hb hRt hlk hK hP hD hS rfl dX0_find_28 (⟨i, by rw [kfnd, if_neg (by omega)], hf, rfl⟩)
  · skip
    have hik : i < n := kl (by omega) (by omega) c_11
    have e_12 := kcell_nI fk (show 160 < 2 ^ 31 by decide) (show i < 160 by omega)
    refine lv_aload_n hx hb dX0_find_14 rfl (lv_at hl 1 rfl) ?_
    refine lv_iload_n hx hb dX0_find_15 rfl (lv_at hl 0 rfl) ?_
    refine kcalli (wc := [(h, .inr (2, [.ref hk, .ref hv, .ref hr, .int (nI n)])), (hk, .inl (g.2.1.1, 160, .inl fk)), (hv, .inl (g.2.1.1, 160, .inl fv)), (hr, .inl (g.2.1.1, 160, .inl fr))]) [0, 1, 2, 3] (va_runV (C := RX0) (As := [.int (nI i)]) (rest := []) ⟨hx, hb, hml, hown, hts⟩ ((c_X0_key l g h hk hv hr n fk fv fr (nI i)) _) (cwV 1 hts gX0_find_X0_key rfl rfl rfl (by decide +kernel) ⟨Nat.le_of_ble_eq_true rfl, Nat.le_of_ble_eq_true rfl⟩) (kpreV (wc := [(h, .inr (2, [.ref hk, .ref hv, .ref hr, .int (nI n)])), (hk, .inl (g.2.1.1, 160, .inl fk)), (hv, .inl (g.2.1.1, 160, .inl fv)), (hr, .inl (g.2.1.1, 160, .inl fr))]) (ci := 2) hK hP hD hS hA hE [0, 1, 2, 3] rfl rfl rfl rfl) rfl rfl hl.1 rfl (lv_room (Nat.le_of_ble_eq_true rfl)) dX0_find_16 ⟨Nat.zero_le _, Nat.zero_le _⟩) hP hD hS hA rfl (fun r_2 w_2 H locs hp hP hD hS => ?_)
    obtain ⟨rfl, rfl⟩ := hp
    have hP : va_P g.1 vwCl [(h, .inr (2, [.ref hk, .ref hv, .ref hr, .int (nI n)])), (hk, .inl (g.2.1.1, 160, .inl fk)), (hv, .inl (g.2.1.1, 160, .inl fv)), (hr, .inl (g.2.1.1, 160, .inl fr))] H := hP
    have hD : va_D A [(h, .inr (2, [.ref hk, .ref hv, .ref hr, .int (nI n)])), (hk, .inl (g.2.1.1, 160, .inl fk)), (hv, .inl (g.2.1.1, 160, .inl fv)), (hr, .inl (g.2.1.1, 160, .inl fr))] := hD
    refine lv_iload_n hx hb dX0_find_19 rfl (lv_at hl 2 rfl) ?_
    refine lv_icmp_ne (tgt := 27) hx hb dX0_find_20 (by decide) (fun c_20 => ?_) (fun c_20 => ?_)
    · skip
      rw [e_12] at c_20
      refine lv_iconst (v := (-1)) hx hb dX0_find_27 (by decide) ?_
      exact kreti hx hb hRt hlk hK hP hD hS rfl dX0_find_28 (⟨i, by rw [kfnd, if_neg (fun z => c_20 z.2)], hf, rfl⟩)
    · skip
      rw [e_12] at c_20
      refine lv_iload_n hx hb dX0_find_23 rfl (lv_at hl 0 rfl) ?_
      refine lv_goto (tgt := 28) hx hb dX0_find_24 (by decide) ?_
      exact kreti hx hb hRt hlk hK hP hD hS rfl dX0_find_28 (⟨i, by rw [kfnd, if_pos ⟨hik, c_20⟩], hf, rfl⟩)
set_option maxRecDepth 20000 in
theorem ggX0_fill_X6_store : GoodIn wsX0_fill wsX6_store := goodIn_ca (goodIn_r _ [6] (by decide +kernel) (by decide +kernel)) (goodIn_sub (fun _ h => List.mem_cons_of_mem _ (List.mem_append_right _ h)) (by decide +kernel))
set_option maxRecDepth 20000 in
theorem gX0_fill_X6_store_n67 : GoodIn wsX0_fill (wsX6_store) := ggX0_fill_X6_store
theorem dX0_fill_0 : decode cX0_fill 0 = .ok (.aload_n 0, 1) := by decide +kernel
theorem dX0_fill_1 : decode cX0_fill 1 = .ok (.getfield 9, 3) := by decide +kernel
theorem dX0_fill_4 : decode cX0_fill 4 = .ok (.iload_n 1, 1) := by decide +kernel
theorem dX0_fill_5 : decode cX0_fill 5 = .ok (.iload_n 2, 1) := by decide +kernel
theorem dX0_fill_6 : decode cX0_fill 6 = .ok (.invokestatic 67, 3) := by decide +kernel
theorem dX0_fill_9 : decode cX0_fill 9 = .ok (.aload_n 0, 1) := by decide +kernel
theorem dX0_fill_10 : decode cX0_fill 10 = .ok (.getfield 15, 3) := by decide +kernel
theorem dX0_fill_13 : decode cX0_fill 13 = .ok (.iload_n 1, 1) := by decide +kernel
theorem dX0_fill_14 : decode cX0_fill 14 = .ok (.iload_n 3, 1) := by decide +kernel
theorem dX0_fill_15 : decode cX0_fill 15 = .ok (.invokestatic 67, 3) := by decide +kernel
theorem dX0_fill_18 : decode cX0_fill 18 = .ok (.aload_n 0, 1) := by decide +kernel
theorem dX0_fill_19 : decode cX0_fill 19 = .ok (.getfield 18, 3) := by decide +kernel
theorem dX0_fill_22 : decode cX0_fill 22 = .ok (.iload_n 1, 1) := by decide +kernel
theorem dX0_fill_23 : decode cX0_fill 23 = .ok (.iload 4, 2) := by decide +kernel
theorem dX0_fill_25 : decode cX0_fill 25 = .ok (.ifCond .eq 7, 3) := by decide +kernel
theorem dX0_fill_28 : decode cX0_fill 28 = .ok (.iconst 1, 1) := by decide +kernel
theorem dX0_fill_29 : decode cX0_fill 29 = .ok (.goto 4, 3) := by decide +kernel
theorem dX0_fill_32 : decode cX0_fill 32 = .ok (.iconst 0, 1) := by decide +kernel
theorem dX0_fill_33 : decode cX0_fill 33 = .ok (.invokestatic 67, 3) := by decide +kernel
theorem dX0_fill_36 : decode cX0_fill 36 = .ok (.return_, 1) := by decide +kernel
def rm_X0_fill : Room := { frames := 1, cells := 0, slots := 0, locals := 22 }
abbrev p_X0_fill (g : kG) (h : Nat) (hk : Nat) (hv : Nat) (hr : Nat) (n : Nat) (fk : Nat → Int32) (fv : Nat → Int32) (fr : Nat → Int32) (i : Int32) (x : Int32) (v : Int32) (b : Int32) : va_W → Prop := fun w1 => w1 = [(h, .inr (2, [.ref hk, .ref hv, .ref hr, .int (nI n)])), (hk, .inl (g.2.1.1, 160, .inl (kstore 160 fk i x))), (hv, .inl (g.2.1.1, 160, .inl (kstore 160 fv i v))), (hr, .inl (g.2.1.1, 160, .inl (kstore 160 fr i (kbit b))))]
set_option maxHeartbeats 4000000 in
set_option maxRecDepth 100000 in
theorem c_X0_fill (l : Launch) (g : kG) (h : Nat) (hk : Nat) (hv : Nat) (hr : Nat) (n : Nat) (fk : Nat → Int32) (fv : Nat → Int32) (fr : Nat → Int32) (i : Int32) (x : Int32) (v : Int32) (b : Int32) : KV l yX0_fill wsX0_fill rm_X0_fill g [.ref h, .int i, .int x, .int v, .int b] [(h, .inr (2, [.ref hk, .ref hv, .ref hr, .int (nI n)])), (hk, .inl (g.2.1.1, 160, .inl fk)), (hv, .inl (g.2.1.1, 160, .inl fv)), (hr, .inl (g.2.1.1, 160, .inl fr))] (p_X0_fill g h hk hv hr n fk fv fr i x v b) := by
  refine kbodyV (cc := cX0_fill) (n := 5) (k := 4) (own := RX0) (plainFor_of_name (by decide)) rfl rfl rfl rfl ?_
  intro p e s m below meth cd A ls hcx
  obtain ⟨hx, hb, hRt, hml, hts, hown, hlk, hA, hP, hK, hD, hE, hS, hl⟩ := hcx
  have hl : lv_has ls 5 [(0, .ref h), (1, .int i), (2, .int x), (3, .int v), (4, .int b)] := hl
  refine lv_aload_n hx hb dX0_fill_0 rfl (lv_at hl 0 rfl) ?_
  refine va_get (D := g.1) (ci := 2) (v := .ref hk) (C := RX0) (T := TX0) (N := 4) hx hb hts (by decide +kernel) hown hK hP 0 rfl rfl 0 (by decide) (hts (.fieldLink RX0 9 "LearnedIndex$Entries" "keys" "[I") (by decide +kernel)) (fun _ h9 => h9) rfl dX0_fill_1 ?_
  refine lv_iload_n hx hb dX0_fill_4 rfl (lv_at hl 1 rfl) ?_
  refine lv_iload_n hx hb dX0_fill_5 rfl (lv_at hl 2 rfl) ?_
  refine kcallv (wc := [(hk, .inl (g.2.1.1, 160, .inl fk))]) [1] (va_runSN (As := [.ref hk, .int i, .int x]) (rest := []) ⟨hx, hb, hml, hown, hts⟩ ((c_X6_store l g hk 160 fk i x (by decide)) _) ⟨va_cnB 3 hts gX0_fill_X6_store_n67 rfl rfl rfl (hE.1 _ (List.mem_of_getElem? (i := 26) rfl)) (hts (.initialized RX6) (by decide +kernel)) (by decide +kernel) ⟨Nat.le_of_ble_eq_true rfl, Nat.le_of_ble_eq_true rfl⟩, hts (.static yX6_store) (by decide +kernel), trivial⟩ (kpreS (wc := [(hk, .inl (g.2.1.1, 160, .inl fk))]) hK hP hD hS hA hE [1] rfl rfl) rfl rfl hl.1 rfl (lv_room (Nat.le_of_ble_eq_true rfl)) dX0_fill_6 ⟨Nat.zero_le _, Nat.zero_le _⟩) hP hD hS hA rfl (fun w_1 H locs hp hP hD hS => ?_)
  obtain rfl := hp
  have hP : va_P g.1 vwCl [(h, .inr (2, [.ref hk, .ref hv, .ref hr, .int (nI n)])), (hk, .inl (g.2.1.1, 160, .inl (kstore 160 fk i x))), (hv, .inl (g.2.1.1, 160, .inl fv)), (hr, .inl (g.2.1.1, 160, .inl fr))] H := hP
  have hD : va_D A [(h, .inr (2, [.ref hk, .ref hv, .ref hr, .int (nI n)])), (hk, .inl (g.2.1.1, 160, .inl (kstore 160 fk i x))), (hv, .inl (g.2.1.1, 160, .inl fv)), (hr, .inl (g.2.1.1, 160, .inl fr))] := hD
  refine lv_aload_n hx hb dX0_fill_9 rfl (lv_at hl 0 rfl) ?_
  refine va_get (D := g.1) (ci := 2) (v := .ref hv) (C := RX0) (T := TX0) (N := 4) hx hb hts (by decide +kernel) hown hK hP 0 rfl rfl 1 (by decide) (hts (.fieldLink RX0 15 "LearnedIndex$Entries" "values" "[I") (by decide +kernel)) (fun _ h9 => h9) rfl dX0_fill_10 ?_
  refine lv_iload_n hx hb dX0_fill_13 rfl (lv_at hl 1 rfl) ?_
  refine lv_iload_n hx hb dX0_fill_14 rfl (lv_at hl 3 rfl) ?_
  refine kcallv (wc := [(hv, .inl (g.2.1.1, 160, .inl fv))]) [2] (va_runSN (As := [.ref hv, .int i, .int v]) (rest := []) ⟨hx, hb, hml, hown, hts⟩ ((c_X6_store l g hv 160 fv i v (by decide)) _) ⟨va_cnB 3 hts gX0_fill_X6_store_n67 rfl rfl rfl (hE.1 _ (List.mem_of_getElem? (i := 26) rfl)) (hts (.initialized RX6) (by decide +kernel)) (by decide +kernel) ⟨Nat.le_of_ble_eq_true rfl, Nat.le_of_ble_eq_true rfl⟩, hts (.static yX6_store) (by decide +kernel), trivial⟩ (kpreS (wc := [(hv, .inl (g.2.1.1, 160, .inl fv))]) hK hP hD hS hA hE [2] rfl rfl) rfl rfl hl.1 rfl (lv_room (Nat.le_of_ble_eq_true rfl)) dX0_fill_15 ⟨Nat.zero_le _, Nat.zero_le _⟩) hP hD hS hA rfl (fun w_2 H locs hp hP hD hS => ?_)
  obtain rfl := hp
  have hP : va_P g.1 vwCl [(h, .inr (2, [.ref hk, .ref hv, .ref hr, .int (nI n)])), (hk, .inl (g.2.1.1, 160, .inl (kstore 160 fk i x))), (hv, .inl (g.2.1.1, 160, .inl (kstore 160 fv i v))), (hr, .inl (g.2.1.1, 160, .inl fr))] H := hP
  have hD : va_D A [(h, .inr (2, [.ref hk, .ref hv, .ref hr, .int (nI n)])), (hk, .inl (g.2.1.1, 160, .inl (kstore 160 fk i x))), (hv, .inl (g.2.1.1, 160, .inl (kstore 160 fv i v))), (hr, .inl (g.2.1.1, 160, .inl fr))] := hD
  refine lv_aload_n hx hb dX0_fill_18 rfl (lv_at hl 0 rfl) ?_
  refine va_get (D := g.1) (ci := 2) (v := .ref hr) (C := RX0) (T := TX0) (N := 4) hx hb hts (by decide +kernel) hown hK hP 0 rfl rfl 2 (by decide) (hts (.fieldLink RX0 18 "LearnedIndex$Entries" "removals" "[I") (by decide +kernel)) (fun _ h9 => h9) rfl dX0_fill_19 ?_
  refine lv_iload_n hx hb dX0_fill_22 rfl (lv_at hl 1 rfl) ?_
  refine lv_iload hx hb dX0_fill_23 (lv_at hl 4 rfl) ?_
  refine lv_if_eq (tgt := 32) hx hb dX0_fill_25 (by decide) (fun c_25 => ?_) (fun c_25 => ?_)
  · skip
    refine lv_iconst (v := 0) hx hb dX0_fill_32 (by decide) ?_
    refine kcallv (wc := [(hr, .inl (g.2.1.1, 160, .inl fr))]) [3] (va_runSN (As := [.ref hr, .int i, .int 0]) (rest := []) ⟨hx, hb, hml, hown, hts⟩ ((c_X6_store l g hr 160 fr i 0 (by decide)) _) ⟨va_cnB 3 hts gX0_fill_X6_store_n67 rfl rfl rfl (hE.1 _ (List.mem_of_getElem? (i := 26) rfl)) (hts (.initialized RX6) (by decide +kernel)) (by decide +kernel) ⟨Nat.le_of_ble_eq_true rfl, Nat.le_of_ble_eq_true rfl⟩, hts (.static yX6_store) (by decide +kernel), trivial⟩ (kpreS (wc := [(hr, .inl (g.2.1.1, 160, .inl fr))]) hK hP hD hS hA hE [3] rfl rfl) rfl rfl hl.1 rfl (lv_room (Nat.le_of_ble_eq_true rfl)) dX0_fill_33 ⟨Nat.zero_le _, Nat.zero_le _⟩) hP hD hS hA rfl (fun w_3 H locs hp hP hD hS => ?_)
    obtain rfl := hp
    have hP : va_P g.1 vwCl [(h, .inr (2, [.ref hk, .ref hv, .ref hr, .int (nI n)])), (hk, .inl (g.2.1.1, 160, .inl (kstore 160 fk i x))), (hv, .inl (g.2.1.1, 160, .inl (kstore 160 fv i v))), (hr, .inl (g.2.1.1, 160, .inl (kstore 160 fr i 0)))] H := hP
    have hD : va_D A [(h, .inr (2, [.ref hk, .ref hv, .ref hr, .int (nI n)])), (hk, .inl (g.2.1.1, 160, .inl (kstore 160 fk i x))), (hv, .inl (g.2.1.1, 160, .inl (kstore 160 fv i v))), (hr, .inl (g.2.1.1, 160, .inl (kstore 160 fr i 0)))] := hD
    exact kretv hx hb hRt hlk hK hP hD hS rfl dX0_fill_36 (by show _ = _; simp [kbit, c_25])
  · skip
    refine lv_iconst (v := 1) hx hb dX0_fill_28 (by decide) ?_
    refine lv_goto (tgt := 33) hx hb dX0_fill_29 (by decide) ?_
    refine kcallv (wc := [(hr, .inl (g.2.1.1, 160, .inl fr))]) [3] (va_runSN (As := [.ref hr, .int i, .int 1]) (rest := []) ⟨hx, hb, hml, hown, hts⟩ ((c_X6_store l g hr 160 fr i 1 (by decide)) _) ⟨va_cnB 3 hts gX0_fill_X6_store_n67 rfl rfl rfl (hE.1 _ (List.mem_of_getElem? (i := 26) rfl)) (hts (.initialized RX6) (by decide +kernel)) (by decide +kernel) ⟨Nat.le_of_ble_eq_true rfl, Nat.le_of_ble_eq_true rfl⟩, hts (.static yX6_store) (by decide +kernel), trivial⟩ (kpreS (wc := [(hr, .inl (g.2.1.1, 160, .inl fr))]) hK hP hD hS hA hE [3] rfl rfl) rfl rfl hl.1 rfl (lv_room (Nat.le_of_ble_eq_true rfl)) dX0_fill_33 ⟨Nat.zero_le _, Nat.zero_le _⟩) hP hD hS hA rfl (fun w_4 H locs hp hP hD hS => ?_)
    obtain rfl := hp
    have hP : va_P g.1 vwCl [(h, .inr (2, [.ref hk, .ref hv, .ref hr, .int (nI n)])), (hk, .inl (g.2.1.1, 160, .inl (kstore 160 fk i x))), (hv, .inl (g.2.1.1, 160, .inl (kstore 160 fv i v))), (hr, .inl (g.2.1.1, 160, .inl (kstore 160 fr i 1)))] H := hP
    have hD : va_D A [(h, .inr (2, [.ref hk, .ref hv, .ref hr, .int (nI n)])), (hk, .inl (g.2.1.1, 160, .inl (kstore 160 fk i x))), (hv, .inl (g.2.1.1, 160, .inl (kstore 160 fv i v))), (hr, .inl (g.2.1.1, 160, .inl (kstore 160 fr i 1)))] := hD
    exact kretv hx hb hRt hlk hK hP hD hS rfl dX0_fill_36 (by show _ = _; simp [kbit, c_25])
set_option maxRecDepth 20000 in
theorem ggX0_copyCell_X0_key : GoodIn wsX0_copyCell wsX0_key := goodIn_ca (goodIn_r _ [5, 6, 7, 8, 9, 26, 27, 28, 29] (by decide +kernel) (by decide +kernel)) (goodIn_sub (fun _ h => List.mem_cons_of_mem _ (List.mem_append_right _ h)) (by decide +kernel))
set_option maxRecDepth 20000 in
theorem gX0_copyCell_X0_key : GoodIn wsX0_copyCell (wsV RX0 33 RX0 yX0_key wsX0_key) := goodIn_app (goodIn_of _ (by decide +kernel)) ggX0_copyCell_X0_key
set_option maxRecDepth 20000 in
theorem ggX0_copyCell_X0_value : GoodIn wsX0_copyCell wsX0_value := goodIn_ca (goodIn_r _ [13, 14, 7, 8, 9, 26, 27, 28, 29] (by decide +kernel) (by decide +kernel)) (goodIn_sub (fun _ h => List.mem_cons_of_mem _ (List.mem_append_right _ h)) (by decide +kernel))
set_option maxRecDepth 20000 in
theorem gX0_copyCell_X0_value : GoodIn wsX0_copyCell (wsV RX0 57 RX0 yX0_value wsX0_value) := goodIn_app (goodIn_of _ (by decide +kernel)) ggX0_copyCell_X0_value
set_option maxRecDepth 20000 in
theorem ggX0_copyCell_X0_isRemoval : GoodIn wsX0_copyCell wsX0_isRemoval := goodIn_ca (goodIn_r _ [18, 19, 7, 8, 9, 26, 27, 28, 29] (by decide +kernel) (by decide +kernel)) (goodIn_sub (fun _ h => List.mem_cons_of_mem _ (List.mem_append_right _ h)) (by decide +kernel))
set_option maxRecDepth 20000 in
theorem gX0_copyCell_X0_isRemoval : GoodIn wsX0_copyCell (wsV RX0 63 RX0 yX0_isRemoval wsX0_isRemoval) := goodIn_app (goodIn_of _ (by decide +kernel)) ggX0_copyCell_X0_isRemoval
set_option maxRecDepth 20000 in
theorem ggX0_copyCell_X0_fill : GoodIn wsX0_copyCell wsX0_fill := goodIn_ca (goodIn_r _ [23, 6, 14, 19, 24, 8, 25, 26, 27, 28, 29] (by decide +kernel) (by decide +kernel)) (goodIn_sub (fun _ h => List.mem_cons_of_mem _ (List.mem_append_right _ h)) (by decide +kernel))
set_option maxRecDepth 20000 in
theorem gX0_copyCell_X0_fill : GoodIn wsX0_copyCell (wsV RX0 49 RX0 yX0_fill wsX0_fill) := goodIn_app (goodIn_of _ (by decide +kernel)) ggX0_copyCell_X0_fill
theorem dX0_copyCell_0 : decode cX0_copyCell 0 = .ok (.aload_n 0, 1) := by decide +kernel
theorem dX0_copyCell_1 : decode cX0_copyCell 1 = .ok (.iload_n 2, 1) := by decide +kernel
theorem dX0_copyCell_2 : decode cX0_copyCell 2 = .ok (.aload_n 0, 1) := by decide +kernel
theorem dX0_copyCell_3 : decode cX0_copyCell 3 = .ok (.iload_n 1, 1) := by decide +kernel
theorem dX0_copyCell_4 : decode cX0_copyCell 4 = .ok (.invokevirtual 33, 3) := by decide +kernel
theorem dX0_copyCell_7 : decode cX0_copyCell 7 = .ok (.aload_n 0, 1) := by decide +kernel
theorem dX0_copyCell_8 : decode cX0_copyCell 8 = .ok (.iload_n 1, 1) := by decide +kernel
theorem dX0_copyCell_9 : decode cX0_copyCell 9 = .ok (.invokevirtual 57, 3) := by decide +kernel
theorem dX0_copyCell_12 : decode cX0_copyCell 12 = .ok (.aload_n 0, 1) := by decide +kernel
theorem dX0_copyCell_13 : decode cX0_copyCell 13 = .ok (.iload_n 1, 1) := by decide +kernel
theorem dX0_copyCell_14 : decode cX0_copyCell 14 = .ok (.invokevirtual 63, 3) := by decide +kernel
theorem dX0_copyCell_17 : decode cX0_copyCell 17 = .ok (.invokevirtual 49, 3) := by decide +kernel
theorem dX0_copyCell_20 : decode cX0_copyCell 20 = .ok (.return_, 1) := by decide +kernel
def rm_X0_copyCell : Room := { frames := 2, cells := 0, slots := 0, locals := 46 }
abbrev p_X0_copyCell (g : kG) (h : Nat) (hk : Nat) (hv : Nat) (hr : Nat) (n : Nat) (fk : Nat → Int32) (fv : Nat → Int32) (fr : Nat → Int32) (i : Int32) (j : Int32) : va_W → Prop := fun w1 => w1 = [(h, .inr (2, [.ref hk, .ref hv, .ref hr, .int (nI n)])), (hk, .inl (g.2.1.1, 160, .inl (kstore 160 fk j (kcell 160 fk i)))), (hv, .inl (g.2.1.1, 160, .inl (kstore 160 fv j (kcell 160 fv i)))), (hr, .inl (g.2.1.1, 160, .inl (kstore 160 fr j (kbit (kis1 (kcell 160 fr i))))))]
set_option maxHeartbeats 4000000 in
set_option maxRecDepth 100000 in
theorem c_X0_copyCell (l : Launch) (g : kG) (h : Nat) (hk : Nat) (hv : Nat) (hr : Nat) (n : Nat) (fk : Nat → Int32) (fv : Nat → Int32) (fr : Nat → Int32) (i : Int32) (j : Int32) : KV l yX0_copyCell wsX0_copyCell rm_X0_copyCell g [.ref h, .int i, .int j] [(h, .inr (2, [.ref hk, .ref hv, .ref hr, .int (nI n)])), (hk, .inl (g.2.1.1, 160, .inl fk)), (hv, .inl (g.2.1.1, 160, .inl fv)), (hr, .inl (g.2.1.1, 160, .inl fr))] (p_X0_copyCell g h hk hv hr n fk fv fr i j) := by
  refine kbodyV (cc := cX0_copyCell) (n := 3) (k := 4) (own := RX0) (plainFor_of_name (by decide)) rfl rfl rfl rfl ?_
  intro p e s m below meth cd A ls hcx
  obtain ⟨hx, hb, hRt, hml, hts, hown, hlk, hA, hP, hK, hD, hE, hS, hl⟩ := hcx
  have hl : lv_has ls 3 [(0, .ref h), (1, .int i), (2, .int j)] := hl
  refine lv_aload_n hx hb dX0_copyCell_0 rfl (lv_at hl 0 rfl) ?_
  refine lv_iload_n hx hb dX0_copyCell_1 rfl (lv_at hl 2 rfl) ?_
  refine lv_aload_n hx hb dX0_copyCell_2 rfl (lv_at hl 0 rfl) ?_
  refine lv_iload_n hx hb dX0_copyCell_3 rfl (lv_at hl 1 rfl) ?_
  refine kcalli (wc := [(h, .inr (2, [.ref hk, .ref hv, .ref hr, .int (nI n)])), (hk, .inl (g.2.1.1, 160, .inl fk)), (hv, .inl (g.2.1.1, 160, .inl fv)), (hr, .inl (g.2.1.1, 160, .inl fr))]) [0, 1, 2, 3] (va_runV (C := RX0) (As := [.int i]) (rest := [.int j, .ref h]) ⟨hx, hb, hml, hown, hts⟩ ((c_X0_key l g h hk hv hr n fk fv fr i) _) (cwV 1 hts gX0_copyCell_X0_key rfl rfl rfl (by decide +kernel) ⟨Nat.le_of_ble_eq_true rfl, Nat.le_of_ble_eq_true rfl⟩) (kpreV (wc := [(h, .inr (2, [.ref hk, .ref hv, .ref hr, .int (nI n)])), (hk, .inl (g.2.1.1, 160, .inl fk)), (hv, .inl (g.2.1.1, 160, .inl fv)), (hr, .inl (g.2.1.1, 160, .inl fr))]) (ci := 2) hK hP hD hS hA hE [0, 1, 2, 3] rfl rfl rfl rfl) rfl rfl hl.1 rfl (lv_room (Nat.le_of_ble_eq_true rfl)) dX0_copyCell_4 ⟨Nat.zero_le _, Nat.zero_le _⟩) hP hD hS hA rfl (fun r_1 w_1 H locs hp hP hD hS => ?_)
  obtain ⟨rfl, rfl⟩ := hp
  have hP : va_P g.1 vwCl [(h, .inr (2, [.ref hk, .ref hv, .ref hr, .int (nI n)])), (hk, .inl (g.2.1.1, 160, .inl fk)), (hv, .inl (g.2.1.1, 160, .inl fv)), (hr, .inl (g.2.1.1, 160, .inl fr))] H := hP
  have hD : va_D A [(h, .inr (2, [.ref hk, .ref hv, .ref hr, .int (nI n)])), (hk, .inl (g.2.1.1, 160, .inl fk)), (hv, .inl (g.2.1.1, 160, .inl fv)), (hr, .inl (g.2.1.1, 160, .inl fr))] := hD
  refine lv_aload_n hx hb dX0_copyCell_7 rfl (lv_at hl 0 rfl) ?_
  refine lv_iload_n hx hb dX0_copyCell_8 rfl (lv_at hl 1 rfl) ?_
  refine kcalli (wc := [(h, .inr (2, [.ref hk, .ref hv, .ref hr, .int (nI n)])), (hk, .inl (g.2.1.1, 160, .inl fk)), (hv, .inl (g.2.1.1, 160, .inl fv)), (hr, .inl (g.2.1.1, 160, .inl fr))]) [0, 1, 2, 3] (va_runV (C := RX0) (As := [.int i]) (rest := [.int (kcell 160 fk i), .int j, .ref h]) ⟨hx, hb, hml, hown, hts⟩ ((c_X0_value l g h hk hv hr n fk fv fr i) _) (cwV 1 hts gX0_copyCell_X0_value rfl rfl rfl (by decide +kernel) ⟨Nat.le_of_ble_eq_true rfl, Nat.le_of_ble_eq_true rfl⟩) (kpreV (wc := [(h, .inr (2, [.ref hk, .ref hv, .ref hr, .int (nI n)])), (hk, .inl (g.2.1.1, 160, .inl fk)), (hv, .inl (g.2.1.1, 160, .inl fv)), (hr, .inl (g.2.1.1, 160, .inl fr))]) (ci := 2) hK hP hD hS hA hE [0, 1, 2, 3] rfl rfl rfl rfl) rfl rfl hl.1 rfl (lv_room (Nat.le_of_ble_eq_true rfl)) dX0_copyCell_9 ⟨Nat.zero_le _, Nat.zero_le _⟩) hP hD hS hA rfl (fun r_2 w_2 H locs hp hP hD hS => ?_)
  obtain ⟨rfl, rfl⟩ := hp
  have hP : va_P g.1 vwCl [(h, .inr (2, [.ref hk, .ref hv, .ref hr, .int (nI n)])), (hk, .inl (g.2.1.1, 160, .inl fk)), (hv, .inl (g.2.1.1, 160, .inl fv)), (hr, .inl (g.2.1.1, 160, .inl fr))] H := hP
  have hD : va_D A [(h, .inr (2, [.ref hk, .ref hv, .ref hr, .int (nI n)])), (hk, .inl (g.2.1.1, 160, .inl fk)), (hv, .inl (g.2.1.1, 160, .inl fv)), (hr, .inl (g.2.1.1, 160, .inl fr))] := hD
  refine lv_aload_n hx hb dX0_copyCell_12 rfl (lv_at hl 0 rfl) ?_
  refine lv_iload_n hx hb dX0_copyCell_13 rfl (lv_at hl 1 rfl) ?_
  refine kcalli (wc := [(h, .inr (2, [.ref hk, .ref hv, .ref hr, .int (nI n)])), (hk, .inl (g.2.1.1, 160, .inl fk)), (hv, .inl (g.2.1.1, 160, .inl fv)), (hr, .inl (g.2.1.1, 160, .inl fr))]) [0, 1, 2, 3] (va_runV (C := RX0) (As := [.int i]) (rest := [.int (kcell 160 fv i), .int (kcell 160 fk i), .int j, .ref h]) ⟨hx, hb, hml, hown, hts⟩ ((c_X0_isRemoval l g h hk hv hr n fk fv fr i) _) (cwV 1 hts gX0_copyCell_X0_isRemoval rfl rfl rfl (by decide +kernel) ⟨Nat.le_of_ble_eq_true rfl, Nat.le_of_ble_eq_true rfl⟩) (kpreV (wc := [(h, .inr (2, [.ref hk, .ref hv, .ref hr, .int (nI n)])), (hk, .inl (g.2.1.1, 160, .inl fk)), (hv, .inl (g.2.1.1, 160, .inl fv)), (hr, .inl (g.2.1.1, 160, .inl fr))]) (ci := 2) hK hP hD hS hA hE [0, 1, 2, 3] rfl rfl rfl rfl) rfl rfl hl.1 rfl (lv_room (Nat.le_of_ble_eq_true rfl)) dX0_copyCell_14 ⟨Nat.zero_le _, Nat.zero_le _⟩) hP hD hS hA rfl (fun r_3 w_3 H locs hp hP hD hS => ?_)
  obtain ⟨rfl, rfl⟩ := hp
  have hP : va_P g.1 vwCl [(h, .inr (2, [.ref hk, .ref hv, .ref hr, .int (nI n)])), (hk, .inl (g.2.1.1, 160, .inl fk)), (hv, .inl (g.2.1.1, 160, .inl fv)), (hr, .inl (g.2.1.1, 160, .inl fr))] H := hP
  have hD : va_D A [(h, .inr (2, [.ref hk, .ref hv, .ref hr, .int (nI n)])), (hk, .inl (g.2.1.1, 160, .inl fk)), (hv, .inl (g.2.1.1, 160, .inl fv)), (hr, .inl (g.2.1.1, 160, .inl fr))] := hD
  refine kcallv (wc := [(h, .inr (2, [.ref hk, .ref hv, .ref hr, .int (nI n)])), (hk, .inl (g.2.1.1, 160, .inl fk)), (hv, .inl (g.2.1.1, 160, .inl fv)), (hr, .inl (g.2.1.1, 160, .inl fr))]) [0, 1, 2, 3] (va_runV (C := RX0) (As := [.int j, .int (kcell 160 fk i), .int (kcell 160 fv i), .int (kis1 (kcell 160 fr i))]) (rest := []) ⟨hx, hb, hml, hown, hts⟩ ((c_X0_fill l g h hk hv hr n fk fv fr j (kcell 160 fk i) (kcell 160 fv i) (kis1 (kcell 160 fr i))) _) (cwV 4 hts gX0_copyCell_X0_fill rfl rfl rfl (by decide +kernel) ⟨Nat.le_of_ble_eq_true rfl, Nat.le_of_ble_eq_true rfl⟩) (kpreV (wc := [(h, .inr (2, [.ref hk, .ref hv, .ref hr, .int (nI n)])), (hk, .inl (g.2.1.1, 160, .inl fk)), (hv, .inl (g.2.1.1, 160, .inl fv)), (hr, .inl (g.2.1.1, 160, .inl fr))]) (ci := 2) hK hP hD hS hA hE [0, 1, 2, 3] rfl rfl rfl rfl) rfl rfl hl.1 rfl (lv_room (Nat.le_of_ble_eq_true rfl)) dX0_copyCell_17 ⟨Nat.zero_le _, Nat.zero_le _⟩) hP hD hS hA rfl (fun w_4 H locs hp hP hD hS => ?_)
  obtain rfl := hp
  have hP : va_P g.1 vwCl [(h, .inr (2, [.ref hk, .ref hv, .ref hr, .int (nI n)])), (hk, .inl (g.2.1.1, 160, .inl (kstore 160 fk j (kcell 160 fk i)))), (hv, .inl (g.2.1.1, 160, .inl (kstore 160 fv j (kcell 160 fv i)))), (hr, .inl (g.2.1.1, 160, .inl (kstore 160 fr j (kbit (kis1 (kcell 160 fr i))))))] H := hP
  have hD : va_D A [(h, .inr (2, [.ref hk, .ref hv, .ref hr, .int (nI n)])), (hk, .inl (g.2.1.1, 160, .inl (kstore 160 fk j (kcell 160 fk i)))), (hv, .inl (g.2.1.1, 160, .inl (kstore 160 fv j (kcell 160 fv i)))), (hr, .inl (g.2.1.1, 160, .inl (kstore 160 fr j (kbit (kis1 (kcell 160 fr i))))))] := hD
  exact kretv hx hb hRt hlk hK hP hD hS rfl dX0_copyCell_20 (rfl)
set_option maxRecDepth 20000 in
theorem ggX0_append_X0_fill : GoodIn wsX0_append wsX0_fill := goodIn_ca (goodIn_r _ [6, 7, 8, 9, 10, 11, 12, 13, 14, 15, 16] (by decide +kernel) (by decide +kernel)) (goodIn_sub (fun _ h => List.mem_cons_of_mem _ (List.mem_append_right _ h)) (by decide +kernel))
set_option maxRecDepth 20000 in
theorem gX0_append_X0_fill : GoodIn wsX0_append (wsV RX0 49 RX0 yX0_fill wsX0_fill) := goodIn_app (goodIn_of _ (by decide +kernel)) ggX0_append_X0_fill
theorem dX0_append_0 : decode cX0_append 0 = .ok (.aload_n 0, 1) := by decide +kernel
theorem dX0_append_1 : decode cX0_append 1 = .ok (.getfield 21, 3) := by decide +kernel
theorem dX0_append_4 : decode cX0_append 4 = .ok (.sipush 160, 3) := by decide +kernel
theorem dX0_append_7 : decode cX0_append 7 = .ok (.if_icmp .ge 24, 3) := by decide +kernel
theorem dX0_append_10 : decode cX0_append 10 = .ok (.aload_n 0, 1) := by decide +kernel
theorem dX0_append_11 : decode cX0_append 11 = .ok (.aload_n 0, 1) := by decide +kernel
theorem dX0_append_12 : decode cX0_append 12 = .ok (.getfield 21, 3) := by decide +kernel
theorem dX0_append_15 : decode cX0_append 15 = .ok (.iload_n 1, 1) := by decide +kernel
theorem dX0_append_16 : decode cX0_append 16 = .ok (.iload_n 2, 1) := by decide +kernel
theorem dX0_append_17 : decode cX0_append 17 = .ok (.iconst 0, 1) := by decide +kernel
theorem dX0_append_18 : decode cX0_append 18 = .ok (.invokevirtual 49, 3) := by decide +kernel
theorem dX0_append_21 : decode cX0_append 21 = .ok (.aload_n 0, 1) := by decide +kernel
theorem dX0_append_22 : decode cX0_append 22 = .ok (.dup, 1) := by decide +kernel
theorem dX0_append_23 : decode cX0_append 23 = .ok (.getfield 21, 3) := by decide +kernel
theorem dX0_append_26 : decode cX0_append 26 = .ok (.iconst 1, 1) := by decide +kernel
theorem dX0_append_27 : decode cX0_append 27 = .ok (.iadd, 1) := by decide +kernel
theorem dX0_append_28 : decode cX0_append 28 = .ok (.putfield 21, 3) := by decide +kernel
theorem dX0_append_31 : decode cX0_append 31 = .ok (.return_, 1) := by decide +kernel
def rm_X0_append : Room := { frames := 2, cells := 0, slots := 0, locals := 46 }
abbrev p_X0_append (g : kG) (h : Nat) (hk : Nat) (hv : Nat) (hr : Nat) (n : Nat) (fk : Nat → Int32) (fv : Nat → Int32) (fr : Nat → Int32) (x : Int32) (v : Int32) : va_W → Prop := fun w1 => w1 = [(h, .inr (2, [.ref hk, .ref hv, .ref hr, .int (nI (n + 1))])), (hk, .inl (g.2.1.1, 160, .inl (upd fk n x))), (hv, .inl (g.2.1.1, 160, .inl (upd fv n v))), (hr, .inl (g.2.1.1, 160, .inl (upd fr n 0)))]
set_option maxHeartbeats 4000000 in
set_option maxRecDepth 100000 in
theorem c_X0_append (l : Launch) (g : kG) (h : Nat) (hk : Nat) (hv : Nat) (hr : Nat) (n : Nat) (fk : Nat → Int32) (fv : Nat → Int32) (fr : Nat → Int32) (x : Int32) (v : Int32) (hn : n < 160) : KV l yX0_append wsX0_append rm_X0_append g [.ref h, .int x, .int v] [(h, .inr (2, [.ref hk, .ref hv, .ref hr, .int (nI n)])), (hk, .inl (g.2.1.1, 160, .inl fk)), (hv, .inl (g.2.1.1, 160, .inl fv)), (hr, .inl (g.2.1.1, 160, .inl fr))] (p_X0_append g h hk hv hr n fk fv fr x v) := by
  refine kbodyV (cc := cX0_append) (n := 3) (k := 4) (own := RX0) (plainFor_of_name (by decide)) rfl rfl rfl rfl ?_
  intro p e s m below meth cd A ls hcx
  obtain ⟨hx, hb, hRt, hml, hts, hown, hlk, hA, hP, hK, hD, hE, hS, hl⟩ := hcx
  have hl : lv_has ls 3 [(0, .ref h), (1, .int x), (2, .int v)] := hl
  refine lv_aload_n hx hb dX0_append_0 rfl (lv_at hl 0 rfl) ?_
  refine va_get (D := g.1) (ci := 2) (v := .int (nI n)) (C := RX0) (T := TX0) (N := 4) hx hb hts (by decide +kernel) hown hK hP 0 rfl rfl 3 (by decide) (hts (.fieldLink RX0 21 "LearnedIndex$Entries" "size" "I") (by decide +kernel)) (fun _ h9 => h9) rfl dX0_append_1 ?_
  refine lv_sipush (v := 160) hx hb dX0_append_4 (by decide) ?_
  refine lv_icmp_ge (tgt := 31) hx hb dX0_append_7 (by decide) (fun c_7 => absurd c_7 (by rw [show (160 : Int32) = nI 160 from rfl, nI_leI (by decide) (by omega)]; omega)) (fun c_7 => ?_)
  refine lv_aload_n hx hb dX0_append_10 rfl (lv_at hl 0 rfl) ?_
  refine lv_aload_n hx hb dX0_append_11 rfl (lv_at hl 0 rfl) ?_
  refine va_get (D := g.1) (ci := 2) (v := .int (nI n)) (C := RX0) (T := TX0) (N := 4) hx hb hts (by decide +kernel) hown hK hP 0 rfl rfl 3 (by decide) (hts (.fieldLink RX0 21 "LearnedIndex$Entries" "size" "I") (by decide +kernel)) (fun _ h9 => h9) rfl dX0_append_12 ?_
  refine lv_iload_n hx hb dX0_append_15 rfl (lv_at hl 1 rfl) ?_
  refine lv_iload_n hx hb dX0_append_16 rfl (lv_at hl 2 rfl) ?_
  refine lv_iconst (v := 0) hx hb dX0_append_17 (by decide) ?_
  refine kcallv (wc := [(h, .inr (2, [.ref hk, .ref hv, .ref hr, .int (nI n)])), (hk, .inl (g.2.1.1, 160, .inl fk)), (hv, .inl (g.2.1.1, 160, .inl fv)), (hr, .inl (g.2.1.1, 160, .inl fr))]) [0, 1, 2, 3] (va_runV (C := RX0) (As := [.int (nI n), .int x, .int v, .int 0]) (rest := []) ⟨hx, hb, hml, hown, hts⟩ ((c_X0_fill l g h hk hv hr n fk fv fr (nI n) x v 0) _) (cwV 4 hts gX0_append_X0_fill rfl rfl rfl (by decide +kernel) ⟨Nat.le_of_ble_eq_true rfl, Nat.le_of_ble_eq_true rfl⟩) (kpreV (wc := [(h, .inr (2, [.ref hk, .ref hv, .ref hr, .int (nI n)])), (hk, .inl (g.2.1.1, 160, .inl fk)), (hv, .inl (g.2.1.1, 160, .inl fv)), (hr, .inl (g.2.1.1, 160, .inl fr))]) (ci := 2) hK hP hD hS hA hE [0, 1, 2, 3] rfl rfl rfl rfl) rfl rfl hl.1 rfl (lv_room (Nat.le_of_ble_eq_true rfl)) dX0_append_18 ⟨Nat.zero_le _, Nat.zero_le _⟩) hP hD hS hA rfl (fun w_1 H locs hp hP hD hS => ?_)
  obtain rfl := hp
  have hP : va_P g.1 vwCl [(h, .inr (2, [.ref hk, .ref hv, .ref hr, .int (nI n)])), (hk, .inl (g.2.1.1, 160, .inl (kstore 160 fk (nI n) x))), (hv, .inl (g.2.1.1, 160, .inl (kstore 160 fv (nI n) v))), (hr, .inl (g.2.1.1, 160, .inl (kstore 160 fr (nI n) (kbit 0))))] H := hP
  have hD : va_D A [(h, .inr (2, [.ref hk, .ref hv, .ref hr, .int (nI n)])), (hk, .inl (g.2.1.1, 160, .inl (kstore 160 fk (nI n) x))), (hv, .inl (g.2.1.1, 160, .inl (kstore 160 fv (nI n) v))), (hr, .inl (g.2.1.1, 160, .inl (kstore 160 fr (nI n) (kbit 0))))] := hD
  refine lv_aload_n hx hb dX0_append_21 rfl (lv_at hl 0 rfl) ?_
  refine lv_dup hx hb dX0_append_22 rfl ?_
  refine va_get (D := g.1) (ci := 2) (v := .int (nI n)) (C := RX0) (T := TX0) (N := 4) hx hb hts (by decide +kernel) hown hK hP 0 rfl rfl 3 (by decide) (hts (.fieldLink RX0 21 "LearnedIndex$Entries" "size" "I") (by decide +kernel)) (fun _ h9 => h9) rfl dX0_append_23 ?_
  refine lv_iconst (v := 1) hx hb dX0_append_26 (by decide) ?_
  refine lv_iadd hx hb dX0_append_27 ?_
  rw [show ((nI n) + 1 : Int32) = nI (n + 1) from nI_1 n]
  refine va_put (D := g.1) (ci := 2) (v := .int (nI (n + 1))) (ty := .int) (C := RX0) (T := TX0) (N := 4) hx hb hts (by decide +kernel) tyX0 tyX0_ok nmX0 hown hK hP hD hS 0 rfl rfl 3 (by decide) (hts (.fieldLink RX0 21 "LearnedIndex$Entries" "size" "I") (by decide +kernel)) (fun _ h9 => h9) rfl (by decide +kernel) rfl rfl (Nat.le_of_ble_eq_true rfl) dX0_append_28 (fun H locs hP hD hS => ?_)
  have hP : va_P g.1 vwCl [(h, .inr (2, [.ref hk, .ref hv, .ref hr, .int (nI (n + 1))])), (hk, .inl (g.2.1.1, 160, .inl (kstore 160 fk (nI n) x))), (hv, .inl (g.2.1.1, 160, .inl (kstore 160 fv (nI n) v))), (hr, .inl (g.2.1.1, 160, .inl (kstore 160 fr (nI n) (kbit 0))))] H := hP
  have hD : va_D A [(h, .inr (2, [.ref hk, .ref hv, .ref hr, .int (nI (n + 1))])), (hk, .inl (g.2.1.1, 160, .inl (kstore 160 fk (nI n) x))), (hv, .inl (g.2.1.1, 160, .inl (kstore 160 fv (nI n) v))), (hr, .inl (g.2.1.1, 160, .inl (kstore 160 fr (nI n) (kbit 0))))] := hD
  exact kretv hx hb hRt hlk hK hP hD hS rfl dX0_append_31 (by show _ = _; rw [kstore_nI fk x (by decide) hn, kstore_nI fv v (by decide) hn, kstore_nI fr _ (by decide) hn]; rfl)
set_option maxRecDepth 20000 in
theorem ggX0_enter_X0_lesserThan : GoodIn wsX0_enter wsX0_lesserThan := goodIn_ca (goodIn_r _ [10, 1, 11, 12, 13, 14, 43, 44, 45, 46] (by decide +kernel) (by decide +kernel)) (goodIn_sub (fun _ h => List.mem_cons_of_mem _ (List.mem_append_right _ h)) (by decide +kernel))
set_option maxRecDepth 20000 in
theorem gX0_enter_X0_lesserThan : GoodIn wsX0_enter (wsV RX0 29 RX0 yX0_lesserThan wsX0_lesserThan) := goodIn_app (goodIn_of _ (by decide +kernel)) ggX0_enter_X0_lesserThan
set_option maxRecDepth 20000 in
theorem ggX0_enter_X0_find : GoodIn wsX0_enter wsX0_find := goodIn_ca (goodIn_r _ [18, 1, 6, 7, 8, 9, 10, 11, 12, 13, 14, 19, 20, 21, 22, 43, 44, 45, 46] (by decide +kernel) (by decide +kernel)) (goodIn_sub (fun _ h => List.mem_cons_of_mem _ (List.mem_append_right _ h)) (by decide +kernel))
set_option maxRecDepth 20000 in
theorem gX0_enter_X0_find : GoodIn wsX0_enter (wsV RX0 36 RX0 yX0_find wsX0_find) := goodIn_app (goodIn_of _ (by decide +kernel)) ggX0_enter_X0_find
set_option maxRecDepth 20000 in
theorem ggX0_enter_X0_copyCell : GoodIn wsX0_enter wsX0_copyCell := goodIn_ca (goodIn_r _ [26, 19, 20, 21, 9, 22, 11, 12, 13, 14, 27, 28, 29, 30, 31, 32, 33, 34, 35, 36, 37, 38, 39, 40, 41, 42, 43, 44, 45, 46] (by decide +kernel) (by decide +kernel)) (goodIn_sub (fun _ h => List.mem_cons_of_mem _ (List.mem_append_right _ h)) (by decide +kernel))
set_option maxRecDepth 20000 in
theorem gX0_enter_X0_copyCell : GoodIn wsX0_enter (wsV RX0 39 RX0 yX0_copyCell wsX0_copyCell) := goodIn_app (goodIn_of _ (by decide +kernel)) ggX0_enter_X0_copyCell
set_option maxRecDepth 20000 in
theorem ggX0_enter_X0_fill : GoodIn wsX0_enter wsX0_fill := goodIn_ca (goodIn_r _ [40, 11, 31, 36, 41, 13, 42, 43, 44, 45, 46] (by decide +kernel) (by decide +kernel)) (goodIn_sub (fun _ h => List.mem_cons_of_mem _ (List.mem_append_right _ h)) (by decide +kernel))
set_option maxRecDepth 20000 in
theorem gX0_enter_X0_fill : GoodIn wsX0_enter (wsV RX0 49 RX0 yX0_fill wsX0_fill) := goodIn_app (goodIn_of _ (by decide +kernel)) ggX0_enter_X0_fill
theorem dX0_enter_0 : decode cX0_enter 0 = .ok (.aload_n 0, 1) := by decide +kernel
theorem dX0_enter_1 : decode cX0_enter 1 = .ok (.iload_n 1, 1) := by decide +kernel
theorem dX0_enter_2 : decode cX0_enter 2 = .ok (.invokevirtual 29, 3) := by decide +kernel
theorem dX0_enter_5 : decode cX0_enter 5 = .ok (.istore 4, 2) := by decide +kernel
theorem dX0_enter_7 : decode cX0_enter 7 = .ok (.aload_n 0, 1) := by decide +kernel
theorem dX0_enter_8 : decode cX0_enter 8 = .ok (.iload_n 1, 1) := by decide +kernel
theorem dX0_enter_9 : decode cX0_enter 9 = .ok (.invokevirtual 36, 3) := by decide +kernel
theorem dX0_enter_12 : decode cX0_enter 12 = .ok (.ifCond .ge 48, 3) := by decide +kernel
theorem dX0_enter_15 : decode cX0_enter 15 = .ok (.aload_n 0, 1) := by decide +kernel
theorem dX0_enter_16 : decode cX0_enter 16 = .ok (.getfield 21, 3) := by decide +kernel
theorem dX0_enter_19 : decode cX0_enter 19 = .ok (.istore 5, 2) := by decide +kernel
theorem dX0_enter_21 : decode cX0_enter 21 = .ok (.iload 5, 2) := by decide +kernel
theorem dX0_enter_23 : decode cX0_enter 23 = .ok (.iload 4, 2) := by decide +kernel
theorem dX0_enter_25 : decode cX0_enter 25 = .ok (.if_icmp .le 19, 3) := by decide +kernel
theorem dX0_enter_28 : decode cX0_enter 28 = .ok (.aload_n 0, 1) := by decide +kernel
theorem dX0_enter_29 : decode cX0_enter 29 = .ok (.iload 5, 2) := by decide +kernel
theorem dX0_enter_31 : decode cX0_enter 31 = .ok (.iconst 1, 1) := by decide +kernel
theorem dX0_enter_32 : decode cX0_enter 32 = .ok (.isub, 1) := by decide +kernel
theorem dX0_enter_33 : decode cX0_enter 33 = .ok (.iload 5, 2) := by decide +kernel
theorem dX0_enter_35 : decode cX0_enter 35 = .ok (.invokevirtual 39, 3) := by decide +kernel
theorem dX0_enter_38 : decode cX0_enter 38 = .ok (.iinc 5 (-1), 3) := by decide +kernel
theorem dX0_enter_41 : decode cX0_enter 41 = .ok (.goto (-20), 3) := by decide +kernel
theorem dX0_enter_44 : decode cX0_enter 44 = .ok (.aload_n 0, 1) := by decide +kernel
theorem dX0_enter_45 : decode cX0_enter 45 = .ok (.aload_n 0, 1) := by decide +kernel
theorem dX0_enter_46 : decode cX0_enter 46 = .ok (.getfield 21, 3) := by decide +kernel
theorem dX0_enter_49 : decode cX0_enter 49 = .ok (.iconst 1, 1) := by decide +kernel
theorem dX0_enter_50 : decode cX0_enter 50 = .ok (.iadd, 1) := by decide +kernel
theorem dX0_enter_51 : decode cX0_enter 51 = .ok (.sipush 160, 3) := by decide +kernel
theorem dX0_enter_54 : decode cX0_enter 54 = .ok (.invokestatic 43, 3) := by decide +kernel
theorem dX0_enter_57 : decode cX0_enter 57 = .ok (.putfield 21, 3) := by decide +kernel
theorem dX0_enter_60 : decode cX0_enter 60 = .ok (.aload_n 0, 1) := by decide +kernel
theorem dX0_enter_61 : decode cX0_enter 61 = .ok (.iload 4, 2) := by decide +kernel
theorem dX0_enter_63 : decode cX0_enter 63 = .ok (.iload_n 1, 1) := by decide +kernel
theorem dX0_enter_64 : decode cX0_enter 64 = .ok (.iload_n 2, 1) := by decide +kernel
theorem dX0_enter_65 : decode cX0_enter 65 = .ok (.iload_n 3, 1) := by decide +kernel
theorem dX0_enter_66 : decode cX0_enter 66 = .ok (.invokevirtual 49, 3) := by decide +kernel
theorem dX0_enter_69 : decode cX0_enter 69 = .ok (.return_, 1) := by decide +kernel
def rm_X0_enter : Room := { frames := 3, cells := 0, slots := 0, locals := 68 }
abbrev p_X0_enter (g : kG) (h : Nat) (hk : Nat) (hv : Nat) (hr : Nat) (n : Nat) (fk : Nat → Int32) (fv : Nat → Int32) (fr : Nat → Int32) (x : Int32) (v : Int32) (b : Int32) : va_W → Prop := fun w1 => ∃ (n2 : Nat), ∃ (gk : Nat → Int32), ∃ (gv : Nat → Int32), ∃ (gr : Nat → Int32), (EL n2 gk gv gr = kput (x, v, kbit b) (EL n fk fv fr)) ∧ w1 = [(h, .inr (2, [.ref hk, .ref hv, .ref hr, .int (nI n2)])), (hk, .inl (g.2.1.1, 160, .inl gk)), (hv, .inl (g.2.1.1, 160, .inl gv)), (hr, .inl (g.2.1.1, 160, .inl gr))]
set_option maxHeartbeats 4000000 in
set_option maxRecDepth 100000 in
theorem c_X0_enter (l : Launch) (g : kG) (h : Nat) (hk : Nat) (hv : Nat) (hr : Nat) (n : Nat) (fk : Nat → Int32) (fv : Nat → Int32) (fr : Nat → Int32) (x : Int32) (v : Int32) (b : Int32) (hn : n < 160) (hb1 : ∀ j, j < n → fr j = 0 ∨ fr j = 1) : KV l yX0_enter wsX0_enter rm_X0_enter g [.ref h, .int x, .int v, .int b] [(h, .inr (2, [.ref hk, .ref hv, .ref hr, .int (nI n)])), (hk, .inl (g.2.1.1, 160, .inl fk)), (hv, .inl (g.2.1.1, 160, .inl fv)), (hr, .inl (g.2.1.1, 160, .inl fr))] (p_X0_enter g h hk hv hr n fk fv fr x v b) := by
  refine kbodyV (cc := cX0_enter) (n := 6) (k := 4) (own := RX0) (plainFor_of_name (by decide)) rfl rfl rfl rfl ?_
  intro p e s m below meth cd A ls hcx
  obtain ⟨hx, hb, hRt, hml, hts, hown, hlk, hA, hP, hK, hD, hE, hS, hl⟩ := hcx
  have hl : lv_has ls 6 [(0, .ref h), (1, .int x), (2, .int v), (3, .int b)] := hl
  refine lv_aload_n hx hb dX0_enter_0 rfl (lv_at hl 0 rfl) ?_
  refine lv_iload_n hx hb dX0_enter_1 rfl (lv_at hl 1 rfl) ?_
  refine kcalli (wc := [(h, .inr (2, [.ref hk, .ref hv, .ref hr, .int (nI n)])), (hk, .inl (g.2.1.1, 160, .inl fk)), (hv, .inl (g.2.1.1, 160, .inl fv)), (hr, .inl (g.2.1.1, 160, .inl fr))]) [0, 1, 2, 3] (va_runV (C := RX0) (As := [.int x]) (rest := []) ⟨hx, hb, hml, hown, hts⟩ ((c_X0_lesserThan l g h hk hv hr n fk fv fr x (Nat.le_of_lt hn)) _) (cwV 1 hts gX0_enter_X0_lesserThan rfl rfl rfl (by decide +kernel) ⟨Nat.le_of_ble_eq_true rfl, Nat.le_of_ble_eq_true rfl⟩) (kpreV (wc := [(h, .inr (2, [.ref hk, .ref hv, .ref hr, .int (nI n)])), (hk, .inl (g.2.1.1, 160, .inl fk)), (hv, .inl (g.2.1.1, 160, .inl fv)), (hr, .inl (g.2.1.1, 160, .inl fr))]) (ci := 2) hK hP hD hS hA hE [0, 1, 2, 3] rfl rfl rfl rfl) rfl rfl hl.1 rfl (lv_room (Nat.le_of_ble_eq_true rfl)) dX0_enter_2 ⟨Nat.zero_le _, Nat.zero_le _⟩) hP hD hS hA rfl (fun r_1 w_1 H locs hp hP hD hS => ?_)
  obtain ⟨q, rfl, hf, rfl⟩ := hp
  have hP : va_P g.1 vwCl [(h, .inr (2, [.ref hk, .ref hv, .ref hr, .int (nI n)])), (hk, .inl (g.2.1.1, 160, .inl fk)), (hv, .inl (g.2.1.1, 160, .inl fv)), (hr, .inl (g.2.1.1, 160, .inl fr))] H := hP
  have hD : va_D A [(h, .inr (2, [.ref hk, .ref hv, .ref hr, .int (nI n)])), (hk, .inl (g.2.1.1, 160, .inl fk)), (hv, .inl (g.2.1.1, 160, .inl fv)), (hr, .inl (g.2.1.1, 160, .inl fr))] := hD
  have hqn := hf.1
  refine lv_istore (lv' := [(4, .int (nI q)), (0, .ref h), (1, .int x), (2, .int v), (3, .int b)]) hx hb dX0_enter_5 hl (by decide) rfl (fun ls hl => ?_)
  refine lv_aload_n hx hb dX0_enter_7 rfl (lv_at hl 1 rfl) ?_
  refine lv_iload_n hx hb dX0_enter_8 rfl (lv_at hl 2 rfl) ?_
  refine kcalli (wc := [(h, .inr (2, [.ref hk, .ref hv, .ref hr, .int (nI n)])), (hk, .inl (g.2.1.1, 160, .inl fk)), (hv, .inl (g.2.1.1, 160, .inl fv)), (hr, .inl (g.2.1.1, 160, .inl fr))]) [0, 1, 2, 3] (va_runV (C := RX0) (As := [.int x]) (rest := []) ⟨hx, hb, hml, hown, hts⟩ ((c_X0_find l g h hk hv hr n fk fv fr x (Nat.le_of_lt hn)) _) (cwV 1 hts gX0_enter_X0_find rfl rfl rfl (by decide +kernel) ⟨Nat.le_of_ble_eq_true rfl, Nat.le_of_ble_eq_true rfl⟩) (kpreV (wc := [(h, .inr (2, [.ref hk, .ref hv, .ref hr, .int (nI n)])), (hk, .inl (g.2.1.1, 160, .inl fk)), (hv, .inl (g.2.1.1, 160, .inl fv)), (hr, .inl (g.2.1.1, 160, .inl fr))]) (ci := 2) hK hP hD hS hA hE [0, 1, 2, 3] rfl rfl rfl rfl) rfl rfl hl.1 rfl (lv_room (Nat.le_of_ble_eq_true rfl)) dX0_enter_9 ⟨Nat.zero_le _, Nat.zero_le _⟩) hP hD hS hA rfl (fun r_2 w_2 H locs hp hP hD hS => ?_)
  obtain ⟨q2, rfl, hf2, rfl⟩ := hp
  have hP : va_P g.1 vwCl [(h, .inr (2, [.ref hk, .ref hv, .ref hr, .int (nI n)])), (hk, .inl (g.2.1.1, 160, .inl fk)), (hv, .inl (g.2.1.1, 160, .inl fv)), (hr, .inl (g.2.1.1, 160, .inl fr))] H := hP
  have hD : va_D A [(h, .inr (2, [.ref hk, .ref hv, .ref hr, .int (nI n)])), (hk, .inl (g.2.1.1, 160, .inl fk)), (hv, .inl (g.2.1.1, 160, .inl fv)), (hr, .inl (g.2.1.1, 160, .inl fr))] := hD
  obtain rfl : q = q2 := kfst_uniq hf hf2
  refine lv_if_ge (tgt := 60) hx hb dX0_enter_12 (by decide) (fun c_12 => ?_) (fun c_12 => ?_)
  · skip
    have hfd : q < n ∧ fk q = x := Decidable.byContradiction (fun z => by rw [kfnd, if_neg z] at c_12; exact absurd c_12 (by decide))
    refine lv_aload_n hx hb dX0_enter_60 rfl (lv_at hl 1 rfl) ?_
    refine lv_iload hx hb dX0_enter_61 (lv_at hl 0 rfl) ?_
    refine lv_iload_n hx hb dX0_enter_63 rfl (lv_at hl 2 rfl) ?_
    refine lv_iload_n hx hb dX0_enter_64 rfl (lv_at hl 3 rfl) ?_
    refine lv_iload_n hx hb dX0_enter_65 rfl (lv_at hl 4 rfl) ?_
    refine kcallv (wc := [(h, .inr (2, [.ref hk, .ref hv, .ref hr, .int (nI n)])), (hk, .inl (g.2.1.1, 160, .inl fk)), (hv, .inl (g.2.1.1, 160, .inl fv)), (hr, .inl (g.2.1.1, 160, .inl fr))]) [0, 1, 2, 3] (va_runV (C := RX0) (As := [.int (nI q), .int x, .int v, .int b]) (rest := []) ⟨hx, hb, hml, hown, hts⟩ ((c_X0_fill l g h hk hv hr n fk fv fr (nI q) x v b) _) (cwV 4 hts gX0_enter_X0_fill rfl rfl rfl (by decide +kernel) ⟨Nat.le_of_ble_eq_true rfl, Nat.le_of_ble_eq_true rfl⟩) (kpreV (wc := [(h, .inr (2, [.ref hk, .ref hv, .ref hr, .int (nI n)])), (hk, .inl (g.2.1.1, 160, .inl fk)), (hv, .inl (g.2.1.1, 160, .inl fv)), (hr, .inl (g.2.1.1, 160, .inl fr))]) (ci := 2) hK hP hD hS hA hE [0, 1, 2, 3] rfl rfl rfl rfl) rfl rfl hl.1 rfl (lv_room (Nat.le_of_ble_eq_true rfl)) dX0_enter_66 ⟨Nat.zero_le _, Nat.zero_le _⟩) hP hD hS hA rfl (fun w_3 H locs hp hP hD hS => ?_)
    obtain rfl := hp
    have hP : va_P g.1 vwCl [(h, .inr (2, [.ref hk, .ref hv, .ref hr, .int (nI n)])), (hk, .inl (g.2.1.1, 160, .inl (kstore 160 fk (nI q) x))), (hv, .inl (g.2.1.1, 160, .inl (kstore 160 fv (nI q) v))), (hr, .inl (g.2.1.1, 160, .inl (kstore 160 fr (nI q) (kbit b))))] H := hP
    have hD : va_D A [(h, .inr (2, [.ref hk, .ref hv, .ref hr, .int (nI n)])), (hk, .inl (g.2.1.1, 160, .inl (kstore 160 fk (nI q) x))), (hv, .inl (g.2.1.1, 160, .inl (kstore 160 fv (nI q) v))), (hr, .inl (g.2.1.1, 160, .inl (kstore 160 fr (nI q) (kbit b))))] := hD
    exact kretv hx hb hRt hlk hK hP hD hS rfl dX0_enter_69 (⟨n, _, _, _, by rw [kstore_nI fk x (by decide) (by omega), kstore_nI fv v (by decide) (by omega), kstore_nI fr _ (by decide) (by omega)]; exact enter_old hf hfd.1 hfd.2, rfl⟩)
  · skip
    have hfd : ¬ (q < n ∧ fk q = x) := fun z => c_12 (by rw [kfnd, if_pos z]; exact nI_pos' (by omega))
    refine lv_aload_n hx hb dX0_enter_15 rfl (lv_at hl 1 rfl) ?_
    refine va_get (D := g.1) (ci := 2) (v := .int (nI n)) (C := RX0) (T := TX0) (N := 4) hx hb hts (by decide +kernel) hown hK hP 0 rfl rfl 3 (by decide) (hts (.fieldLink RX0 21 "LearnedIndex$Entries" "size" "I") (by decide +kernel)) (fun _ h9 => h9) rfl dX0_enter_16 ?_
    refine lv_istore (lv' := [(5, .int (nI n)), (4, .int (nI q)), (0, .ref h), (1, .int x), (2, .int v), (3, .int b)]) hx hb dX0_enter_19 hl (by decide) rfl (fun ls hl => ?_)
    have L21 : ∀ (n9 : Nat) (i : Nat) (u : Nat → Int32) (w : Nat → Int32) (t : Nat → Int32) (H : Heap) (locs : List Loc) (ls : Array Slot), (q ≤ i) → (i ≤ n) → (u = kshr fk i n) → (w = kshr fv i n) → (t = kshr fr i n) → i < n9 → va_P g.1 vwCl [(h, .inr (2, [.ref hk, .ref hv, .ref hr, .int (nI n)])), (hk, .inl (g.2.1.1, 160, .inl u)), (hv, .inl (g.2.1.1, 160, .inl w)), (hr, .inl (g.2.1.1, 160, .inl t))] H → va_D A [(h, .inr (2, [.ref hk, .ref hv, .ref hr, .int (nI n)])), (hk, .inl (g.2.1.1, 160, .inl u)), (hv, .inl (g.2.1.1, 160, .inl w)), (hr, .inl (g.2.1.1, 160, .inl t))] → va_S A s.heap H locs → lv_has ls 6 [(5, .int (nI i)), (4, .int (nI q)), (0, .ref h), (1, .int x), (2, .int v), (3, .int b)] → W p l e rm_X0_enter s m ([.ref h, .int x, .int v, .int b] : List Value).toArray below meth cd H locs 0 0 (kQv g 4 A (p_X0_enter g h hk hv hr n fk fv fr x v b) below ([.ref h, .int x, .int v, .int b] : List Value).toArray s) (F0 m 21 ls []) := by
      intro n9
      induction n9 with
      | zero => intro i u w t H locs ls hi1 hi2 hu hw ht h9; exact absurd h9 (Nat.not_lt_zero _)
      | succ n9 ih21 =>
        intro i u w t H locs ls hi1 hi2 hu hw ht hn21 hP hD hS hl
        refine lv_iload hx hb dX0_enter_21 (lv_at hl 0 rfl) ?_
        refine lv_iload hx hb dX0_enter_23 (lv_at hl 1 rfl) ?_
        refine lv_icmp_le (tgt := 44) hx hb dX0_enter_25 (by decide) (fun c_25 => ?_) (fun c_25 => ?_)
        · skip
          have hiq : i ≤ q := kg (by omega) (by omega) c_25
          obtain rfl : q = i := by omega
          refine lv_aload_n hx hb dX0_enter_44 rfl (lv_at hl 2 rfl) ?_
          refine lv_aload_n hx hb dX0_enter_45 rfl (lv_at hl 2 rfl) ?_
          refine va_get (D := g.1) (ci := 2) (v := .int (nI n)) (C := RX0) (T := TX0) (N := 4) hx hb hts (by decide +kernel) hown hK hP 0 rfl rfl 3 (by decide) (hts (.fieldLink RX0 21 "LearnedIndex$Entries" "size" "I") (by decide +kernel)) (fun _ h9 => h9) rfl dX0_enter_46 ?_
          refine lv_iconst (v := 1) hx hb dX0_enter_49 (by decide) ?_
          refine lv_iadd hx hb dX0_enter_50 ?_
          refine lv_sipush (v := 160) hx hb dX0_enter_51 (by decide) ?_
          refine va_mmin hx hb (hml.trans hl.1.symm) hown (hts (.methodLink RX0 43 Lib.Math.min.name) (by decide +kernel)) (hts (.static Lib.Math.min.name) (by decide +kernel)) (hts (.initialized "java/lang/Math") (by decide +kernel)) (hts (.code Lib.Math.min.name Lib.Math.min.code 2 (some .int)) (by decide +kernel)) (Nat.le_of_ble_eq_true rfl) (Nat.le_of_ble_eq_true rfl) (Nat.zero_le _) (Nat.zero_le _) dX0_enter_54 ?_
          rw [show (if 160 < ((nI n) + 1) then 160 else ((nI n) + 1) : Int32) = nI (n + 1) from kmin160 hn]
          refine va_put (D := g.1) (ci := 2) (v := .int (nI (n + 1))) (ty := .int) (C := RX0) (T := TX0) (N := 4) hx hb hts (by decide +kernel) tyX0 tyX0_ok nmX0 hown hK hP hD hS 0 rfl rfl 3 (by decide) (hts (.fieldLink RX0 21 "LearnedIndex$Entries" "size" "I") (by decide +kernel)) (fun _ h9 => h9) rfl (by decide +kernel) rfl rfl (Nat.le_of_ble_eq_true rfl) dX0_enter_57 (fun H locs hP hD hS => ?_)
          have hP : va_P g.1 vwCl [(h, .inr (2, [.ref hk, .ref hv, .ref hr, .int (nI (n + 1))])), (hk, .inl (g.2.1.1, 160, .inl u)), (hv, .inl (g.2.1.1, 160, .inl w)), (hr, .inl (g.2.1.1, 160, .inl t))] H := hP
          have hD : va_D A [(h, .inr (2, [.ref hk, .ref hv, .ref hr, .int (nI (n + 1))])), (hk, .inl (g.2.1.1, 160, .inl u)), (hv, .inl (g.2.1.1, 160, .inl w)), (hr, .inl (g.2.1.1, 160, .inl t))] := hD
          refine lv_aload_n hx hb dX0_enter_60 rfl (lv_at hl 2 rfl) ?_
          refine lv_iload hx hb dX0_enter_61 (lv_at hl 1 rfl) ?_
          refine lv_iload_n hx hb dX0_enter_63 rfl (lv_at hl 3 rfl) ?_
          refine lv_iload_n hx hb dX0_enter_64 rfl (lv_at hl 4 rfl) ?_
          refine lv_iload_n hx hb dX0_enter_65 rfl (lv_at hl 5 rfl) ?_
          refine kcallv (wc := [(h, .inr (2, [.ref hk, .ref hv, .ref hr, .int (nI (n + 1))])), (hk, .inl (g.2.1.1, 160, .inl u)), (hv, .inl (g.2.1.1, 160, .inl w)), (hr, .inl (g.2.1.1, 160, .inl t))]) [0, 1, 2, 3] (va_runV (C := RX0) (As := [.int (nI q), .int x, .int v, .int b]) (rest := []) ⟨hx, hb, hml, hown, hts⟩ ((c_X0_fill l g h hk hv hr (n + 1) u w t (nI q) x v b) _) (cwV 4 hts gX0_enter_X0_fill rfl rfl rfl (by decide +kernel) ⟨Nat.le_of_ble_eq_true rfl, Nat.le_of_ble_eq_true rfl⟩) (kpreV (wc := [(h, .inr (2, [.ref hk, .ref hv, .ref hr, .int (nI (n + 1))])), (hk, .inl (g.2.1.1, 160, .inl u)), (hv, .inl (g.2.1.1, 160, .inl w)), (hr, .inl (g.2.1.1, 160, .inl t))]) (ci := 2) hK hP hD hS hA hE [0, 1, 2, 3] rfl rfl rfl rfl) rfl rfl hl.1 rfl (lv_room (Nat.le_of_ble_eq_true rfl)) dX0_enter_66 ⟨Nat.zero_le _, Nat.zero_le _⟩) hP hD hS hA rfl (fun w_4 H locs hp hP hD hS => ?_)
          obtain rfl := hp
          have hP : va_P g.1 vwCl [(h, .inr (2, [.ref hk, .ref hv, .ref hr, .int (nI (n + 1))])), (hk, .inl (g.2.1.1, 160, .inl (kstore 160 u (nI q) x))), (hv, .inl (g.2.1.1, 160, .inl (kstore 160 w (nI q) v))), (hr, .inl (g.2.1.1, 160, .inl (kstore 160 t (nI q) (kbit b))))] H := hP
          have hD : va_D A [(h, .inr (2, [.ref hk, .ref hv, .ref hr, .int (nI (n + 1))])), (hk, .inl (g.2.1.1, 160, .inl (kstore 160 u (nI q) x))), (hv, .inl (g.2.1.1, 160, .inl (kstore 160 w (nI q) v))), (hr, .inl (g.2.1.1, 160, .inl (kstore 160 t (nI q) (kbit b))))] := hD
          exact kretv hx hb hRt hlk hK hP hD hS rfl dX0_enter_69 (⟨n + 1, _, _, _, by rw [hu, hw, ht, kstore_nI _ x (by decide) (by omega), kstore_nI _ v (by decide) (by omega), kstore_nI _ (kbit b) (by decide) (by omega)]; exact enter_new hf hfd, rfl⟩)
        · skip
          have hiq : q < i := kl (by omega) (by omega) c_25
          refine lv_aload_n hx hb dX0_enter_28 rfl (lv_at hl 2 rfl) ?_
          refine lv_iload hx hb dX0_enter_29 (lv_at hl 0 rfl) ?_
          refine lv_iconst (v := 1) hx hb dX0_enter_31 (by decide) ?_
          refine lv_isub hx hb dX0_enter_32 ?_
          rw [show ((nI i) - 1 : Int32) = nI (i - 1) from nI_s1 (by omega)]
          refine lv_iload hx hb dX0_enter_33 (lv_at hl 0 rfl) ?_
          refine kcallv (wc := [(h, .inr (2, [.ref hk, .ref hv, .ref hr, .int (nI n)])), (hk, .inl (g.2.1.1, 160, .inl u)), (hv, .inl (g.2.1.1, 160, .inl w)), (hr, .inl (g.2.1.1, 160, .inl t))]) [0, 1, 2, 3] (va_runV (C := RX0) (As := [.int (nI (i - 1)), .int (nI i)]) (rest := []) ⟨hx, hb, hml, hown, hts⟩ ((c_X0_copyCell l g h hk hv hr n u w t (nI (i - 1)) (nI i)) _) (cwV 2 hts gX0_enter_X0_copyCell rfl rfl rfl (by decide +kernel) ⟨Nat.le_of_ble_eq_true rfl, Nat.le_of_ble_eq_true rfl⟩) (kpreV (wc := [(h, .inr (2, [.ref hk, .ref hv, .ref hr, .int (nI n)])), (hk, .inl (g.2.1.1, 160, .inl u)), (hv, .inl (g.2.1.1, 160, .inl w)), (hr, .inl (g.2.1.1, 160, .inl t))]) (ci := 2) hK hP hD hS hA hE [0, 1, 2, 3] rfl rfl rfl rfl) rfl rfl hl.1 rfl (lv_room (Nat.le_of_ble_eq_true rfl)) dX0_enter_35 ⟨Nat.zero_le _, Nat.zero_le _⟩) hP hD hS hA rfl (fun w_5 H locs hp hP hD hS => ?_)
          obtain rfl := hp
          have hP : va_P g.1 vwCl [(h, .inr (2, [.ref hk, .ref hv, .ref hr, .int (nI n)])), (hk, .inl (g.2.1.1, 160, .inl (kstore 160 u (nI i) (kcell 160 u (nI (i - 1)))))), (hv, .inl (g.2.1.1, 160, .inl (kstore 160 w (nI i) (kcell 160 w (nI (i - 1)))))), (hr, .inl (g.2.1.1, 160, .inl (kstore 160 t (nI i) (kbit (kis1 (kcell 160 t (nI (i - 1))))))))] H := hP
          have hD : va_D A [(h, .inr (2, [.ref hk, .ref hv, .ref hr, .int (nI n)])), (hk, .inl (g.2.1.1, 160, .inl (kstore 160 u (nI i) (kcell 160 u (nI (i - 1)))))), (hv, .inl (g.2.1.1, 160, .inl (kstore 160 w (nI i) (kcell 160 w (nI (i - 1)))))), (hr, .inl (g.2.1.1, 160, .inl (kstore 160 t (nI i) (kbit (kis1 (kcell 160 t (nI (i - 1))))))))] := hD
          have ht1 : kcell 160 t (nI (i - 1)) = 0 ∨ kcell 160 t (nI (i - 1)) = 1 := by rw [kcell_nI t (by decide) (by omega), ht, kshr, if_neg (by omega)]; exact hb1 _ (by omega)
          refine lv_iinc (v := nI (i - 1)) (lv' := [(5, .int (nI (i - 1))), (4, .int (nI q)), (0, .ref h), (1, .int x), (2, .int v), (3, .int b)]) hx hb dX0_enter_38 hl (k := 0) rfl (nI_m1 (by omega)) (by decide) rfl (fun ls hl => ?_)
          refine lv_goto (tgt := 21) hx hb dX0_enter_41 (by decide) ?_
          exact ih21 (i - 1) (kstore 160 u (nI i) (kcell 160 u (nI (i - 1)))) (kstore 160 w (nI i) (kcell 160 w (nI (i - 1)))) (kstore 160 t (nI i) (kbit (kis1 (kcell 160 t (nI (i - 1)))))) _ _ ls (by omega) (by omega) (by rw [hu]; exact kshr_s (by decide) (by omega) hi2 hn) (by rw [hw]; exact kshr_s (by decide) (by omega) hi2 hn) (by rw [kb01 ht1, ht]; exact kshr_s (by decide) (by omega) hi2 hn) (by omega) hP hD hS (lv_sub hl [0, 1, 2, 3, 4, 5] rfl)
    exact L21 _ n fk fv fr _ _ ls hf.1 (Nat.le_refl n) (kshr_0 fk n) (kshr_0 fv n) (kshr_0 fr n) (Nat.lt_succ_self _) hP hD hS (lv_sub hl [0, 1, 2, 3, 4, 5] rfl)
set_option maxRecDepth 20000 in
theorem ggX0_takeOut_X0_copyCell : GoodIn wsX0_takeOut wsX0_copyCell := goodIn_ca (goodIn_r _ [6, 7, 8, 9, 5, 10, 11, 12, 13, 14, 15, 16, 17, 18, 19, 20, 21, 22, 23, 24, 25, 26, 27, 28, 29, 30, 31, 32, 33, 34] (by decide +kernel) (by decide +kernel)) (goodIn_sub (fun _ h => List.mem_cons_of_mem _ (List.mem_append_right _ h)) (by decide +kernel))
set_option maxRecDepth 20000 in
theorem gX0_takeOut_X0_copyCell : GoodIn wsX0_takeOut (wsV RX0 39 RX0 yX0_copyCell wsX0_copyCell) := goodIn_app (goodIn_of _ (by decide +kernel)) ggX0_takeOut_X0_copyCell
theorem dX0_takeOut_0 : decode cX0_takeOut 0 = .ok (.iload_n 1, 1) := by decide +kernel
theorem dX0_takeOut_1 : decode cX0_takeOut 1 = .ok (.ifCond .lt 11, 3) := by decide +kernel
theorem dX0_takeOut_4 : decode cX0_takeOut 4 = .ok (.iload_n 1, 1) := by decide +kernel
theorem dX0_takeOut_5 : decode cX0_takeOut 5 = .ok (.aload_n 0, 1) := by decide +kernel
theorem dX0_takeOut_6 : decode cX0_takeOut 6 = .ok (.getfield 21, 3) := by decide +kernel
theorem dX0_takeOut_9 : decode cX0_takeOut 9 = .ok (.if_icmp .lt 4, 3) := by decide +kernel
theorem dX0_takeOut_12 : decode cX0_takeOut 12 = .ok (.return_, 1) := by decide +kernel
theorem dX0_takeOut_13 : decode cX0_takeOut 13 = .ok (.iload_n 1, 1) := by decide +kernel
theorem dX0_takeOut_14 : decode cX0_takeOut 14 = .ok (.iconst 1, 1) := by decide +kernel
theorem dX0_takeOut_15 : decode cX0_takeOut 15 = .ok (.iadd, 1) := by decide +kernel
theorem dX0_takeOut_16 : decode cX0_takeOut 16 = .ok (.istore_n 2, 1) := by decide +kernel
theorem dX0_takeOut_17 : decode cX0_takeOut 17 = .ok (.iload_n 2, 1) := by decide +kernel
theorem dX0_takeOut_18 : decode cX0_takeOut 18 = .ok (.aload_n 0, 1) := by decide +kernel
theorem dX0_takeOut_19 : decode cX0_takeOut 19 = .ok (.getfield 21, 3) := by decide +kernel
theorem dX0_takeOut_22 : decode cX0_takeOut 22 = .ok (.if_icmp .ge 17, 3) := by decide +kernel
theorem dX0_takeOut_25 : decode cX0_takeOut 25 = .ok (.aload_n 0, 1) := by decide +kernel
theorem dX0_takeOut_26 : decode cX0_takeOut 26 = .ok (.iload_n 2, 1) := by decide +kernel
theorem dX0_takeOut_27 : decode cX0_takeOut 27 = .ok (.iload_n 2, 1) := by decide +kernel
theorem dX0_takeOut_28 : decode cX0_takeOut 28 = .ok (.iconst 1, 1) := by decide +kernel
theorem dX0_takeOut_29 : decode cX0_takeOut 29 = .ok (.isub, 1) := by decide +kernel
theorem dX0_takeOut_30 : decode cX0_takeOut 30 = .ok (.invokevirtual 39, 3) := by decide +kernel
theorem dX0_takeOut_33 : decode cX0_takeOut 33 = .ok (.iinc 2 1, 3) := by decide +kernel
theorem dX0_takeOut_36 : decode cX0_takeOut 36 = .ok (.goto (-19), 3) := by decide +kernel
theorem dX0_takeOut_39 : decode cX0_takeOut 39 = .ok (.aload_n 0, 1) := by decide +kernel
theorem dX0_takeOut_40 : decode cX0_takeOut 40 = .ok (.dup, 1) := by decide +kernel
theorem dX0_takeOut_41 : decode cX0_takeOut 41 = .ok (.getfield 21, 3) := by decide +kernel
theorem dX0_takeOut_44 : decode cX0_takeOut 44 = .ok (.iconst 1, 1) := by decide +kernel
theorem dX0_takeOut_45 : decode cX0_takeOut 45 = .ok (.isub, 1) := by decide +kernel
theorem dX0_takeOut_46 : decode cX0_takeOut 46 = .ok (.putfield 21, 3) := by decide +kernel
theorem dX0_takeOut_49 : decode cX0_takeOut 49 = .ok (.return_, 1) := by decide +kernel
def rm_X0_takeOut : Room := { frames := 3, cells := 0, slots := 0, locals := 68 }
abbrev p_X0_takeOut (g : kG) (h : Nat) (hk : Nat) (hv : Nat) (hr : Nat) (n : Nat) (fk : Nat → Int32) (fv : Nat → Int32) (fr : Nat → Int32) (i : Nat) : va_W → Prop := fun w1 => w1 = [(h, .inr (2, [.ref hk, .ref hv, .ref hr, .int (nI (n - 1))])), (hk, .inl (g.2.1.1, 160, .inl (kshl fk i (n - 1)))), (hv, .inl (g.2.1.1, 160, .inl (kshl fv i (n - 1)))), (hr, .inl (g.2.1.1, 160, .inl (kshl fr i (n - 1))))]
set_option maxHeartbeats 4000000 in
set_option maxRecDepth 100000 in
theorem c_X0_takeOut (l : Launch) (g : kG) (h : Nat) (hk : Nat) (hv : Nat) (hr : Nat) (n : Nat) (fk : Nat → Int32) (fv : Nat → Int32) (fr : Nat → Int32) (i : Nat) (hi : i < n) (hn : n ≤ 160) (hb1 : ∀ j, j < n → fr j = 0 ∨ fr j = 1) : KV l yX0_takeOut wsX0_takeOut rm_X0_takeOut g [.ref h, .int (nI i)] [(h, .inr (2, [.ref hk, .ref hv, .ref hr, .int (nI n)])), (hk, .inl (g.2.1.1, 160, .inl fk)), (hv, .inl (g.2.1.1, 160, .inl fv)), (hr, .inl (g.2.1.1, 160, .inl fr))] (p_X0_takeOut g h hk hv hr n fk fv fr i) := by
  refine kbodyV (cc := cX0_takeOut) (n := 3) (k := 4) (own := RX0) (plainFor_of_name (by decide)) rfl rfl rfl rfl ?_
  intro p e s m below meth cd A ls hcx
  obtain ⟨hx, hb, hRt, hml, hts, hown, hlk, hA, hP, hK, hD, hE, hS, hl⟩ := hcx
  have hl : lv_has ls 3 [(0, .ref h), (1, .int (nI i))] := hl
  refine lv_iload_n hx hb dX0_takeOut_0 rfl (lv_at hl 1 rfl) ?_
  refine lv_if_lt (tgt := 12) hx hb dX0_takeOut_1 (by decide) (fun c_1 => absurd c_1 (nI_pos (by omega))) (fun c_1 => ?_)
  refine lv_iload_n hx hb dX0_takeOut_4 rfl (lv_at hl 1 rfl) ?_
  refine lv_aload_n hx hb dX0_takeOut_5 rfl (lv_at hl 0 rfl) ?_
  refine va_get (D := g.1) (ci := 2) (v := .int (nI n)) (C := RX0) (T := TX0) (N := 4) hx hb hts (by decide +kernel) hown hK hP 0 rfl rfl 3 (by decide) (hts (.fieldLink RX0 21 "LearnedIndex$Entries" "size" "I") (by decide +kernel)) (fun _ h9 => h9) rfl dX0_takeOut_6 ?_
  refine lv_icmp_lt (tgt := 13) hx hb dX0_takeOut_9 (by decide) (fun c_9 => ?_) (fun c_9 => absurd (nI_lt hi (by omega)) c_9)
  refine lv_iload_n hx hb dX0_takeOut_13 rfl (lv_at hl 1 rfl) ?_
  refine lv_iconst (v := 1) hx hb dX0_takeOut_14 (by decide) ?_
  refine lv_iadd hx hb dX0_takeOut_15 ?_
  rw [show ((nI i) + 1 : Int32) = nI (i + 1) from nI_1 i]
  refine lv_istore_n (lv' := [(2, .int (nI (i + 1))), (0, .ref h), (1, .int (nI i))]) hx hb dX0_takeOut_16 rfl hl (by decide) rfl (fun ls hl => ?_)
  have L17 : ∀ (n9 : Nat) (k : Nat) (u : Nat → Int32) (w : Nat → Int32) (t : Nat → Int32) (H : Heap) (locs : List Loc) (ls : Array Slot), (i ≤ k) → (k + 1 ≤ n) → (u = kshl fk i k) → (w = kshl fv i k) → (t = kshl fr i k) → n - k < n9 → va_P g.1 vwCl [(h, .inr (2, [.ref hk, .ref hv, .ref hr, .int (nI n)])), (hk, .inl (g.2.1.1, 160, .inl u)), (hv, .inl (g.2.1.1, 160, .inl w)), (hr, .inl (g.2.1.1, 160, .inl t))] H → va_D A [(h, .inr (2, [.ref hk, .ref hv, .ref hr, .int (nI n)])), (hk, .inl (g.2.1.1, 160, .inl u)), (hv, .inl (g.2.1.1, 160, .inl w)), (hr, .inl (g.2.1.1, 160, .inl t))] → va_S A s.heap H locs → lv_has ls 3 [(2, .int (nI (k + 1))), (0, .ref h), (1, .int (nI i))] → W p l e rm_X0_takeOut s m ([.ref h, .int (nI i)] : List Value).toArray below meth cd H locs 0 0 (kQv g 4 A (p_X0_takeOut g h hk hv hr n fk fv fr i) below ([.ref h, .int (nI i)] : List Value).toArray s) (F0 m 17 ls []) := by
    intro n9
    induction n9 with
    | zero => intro k u w t H locs ls hk1 hk2 hu hw ht h9; exact absurd h9 (Nat.not_lt_zero _)
    | succ n9 ih17 =>
      intro k u w t H locs ls hk1 hk2 hu hw ht hn17 hP hD hS hl
      refine lv_iload_n hx hb dX0_takeOut_17 rfl (lv_at hl 0 rfl) ?_
      refine lv_aload_n hx hb dX0_takeOut_18 rfl (lv_at hl 1 rfl) ?_
      refine va_get (D := g.1) (ci := 2) (v := .int (nI n)) (C := RX0) (T := TX0) (N := 4) hx hb hts (by decide +kernel) hown hK hP 0 rfl rfl 3 (by decide) (hts (.fieldLink RX0 21 "LearnedIndex$Entries" "size" "I") (by decide +kernel)) (fun _ h9 => h9) rfl dX0_takeOut_19 ?_
      refine lv_icmp_ge (tgt := 39) hx hb dX0_takeOut_22 (by decide) (fun c_22 => ?_) (fun c_22 => ?_)
      · skip
        have hkn : n ≤ k + 1 := kg (by omega) (by omega) c_22
        obtain rfl : k = n - 1 := by omega
        refine lv_aload_n hx hb dX0_takeOut_39 rfl (lv_at hl 1 rfl) ?_
        refine lv_dup hx hb dX0_takeOut_40 rfl ?_
        refine va_get (D := g.1) (ci := 2) (v := .int (nI n)) (C := RX0) (T := TX0) (N := 4) hx hb hts (by decide +kernel) hown hK hP 0 rfl rfl 3 (by decide) (hts (.fieldLink RX0 21 "LearnedIndex$Entries" "size" "I") (by decide +kernel)) (fun _ h9 => h9) rfl dX0_takeOut_41 ?_
        refine lv_iconst (v := 1) hx hb dX0_takeOut_44 (by decide) ?_
        refine lv_isub hx hb dX0_takeOut_45 ?_
        rw [show ((nI n) - 1 : Int32) = nI (n - 1) from nI_s1 (by omega)]
        refine va_put (D := g.1) (ci := 2) (v := .int (nI (n - 1))) (ty := .int) (C := RX0) (T := TX0) (N := 4) hx hb hts (by decide +kernel) tyX0 tyX0_ok nmX0 hown hK hP hD hS 0 rfl rfl 3 (by decide) (hts (.fieldLink RX0 21 "LearnedIndex$Entries" "size" "I") (by decide +kernel)) (fun _ h9 => h9) rfl (by decide +kernel) rfl rfl (Nat.le_of_ble_eq_true rfl) dX0_takeOut_46 (fun H locs hP hD hS => ?_)
        have hP : va_P g.1 vwCl [(h, .inr (2, [.ref hk, .ref hv, .ref hr, .int (nI (n - 1))])), (hk, .inl (g.2.1.1, 160, .inl u)), (hv, .inl (g.2.1.1, 160, .inl w)), (hr, .inl (g.2.1.1, 160, .inl t))] H := hP
        have hD : va_D A [(h, .inr (2, [.ref hk, .ref hv, .ref hr, .int (nI (n - 1))])), (hk, .inl (g.2.1.1, 160, .inl u)), (hv, .inl (g.2.1.1, 160, .inl w)), (hr, .inl (g.2.1.1, 160, .inl t))] := hD
        exact kretv hx hb hRt hlk hK hP hD hS rfl dX0_takeOut_49 (by show _ = _; rw [hu, hw, ht])
      · skip
        have hkn : k + 1 < n := kl (by omega) (by omega) c_22
        refine lv_aload_n hx hb dX0_takeOut_25 rfl (lv_at hl 1 rfl) ?_
        refine lv_iload_n hx hb dX0_takeOut_26 rfl (lv_at hl 0 rfl) ?_
        refine lv_iload_n hx hb dX0_takeOut_27 rfl (lv_at hl 0 rfl) ?_
        refine lv_iconst (v := 1) hx hb dX0_takeOut_28 (by decide) ?_
        refine lv_isub hx hb dX0_takeOut_29 ?_
        rw [show ((nI (k + 1)) - 1 : Int32) = nI k from nI_pred k]
        refine kcallv (wc := [(h, .inr (2, [.ref hk, .ref hv, .ref hr, .int (nI n)])), (hk, .inl (g.2.1.1, 160, .inl u)), (hv, .inl (g.2.1.1, 160, .inl w)), (hr, .inl (g.2.1.1, 160, .inl t))]) [0, 1, 2, 3] (va_runV (C := RX0) (As := [.int (nI (k + 1)), .int (nI k)]) (rest := []) ⟨hx, hb, hml, hown, hts⟩ ((c_X0_copyCell l g h hk hv hr n u w t (nI (k + 1)) (nI k)) _) (cwV 2 hts gX0_takeOut_X0_copyCell rfl rfl rfl (by decide +kernel) ⟨Nat.le_of_ble_eq_true rfl, Nat.le_of_ble_eq_true rfl⟩) (kpreV (wc := [(h, .inr (2, [.ref hk, .ref hv, .ref hr, .int (nI n)])), (hk, .inl (g.2.1.1, 160, .inl u)), (hv, .inl (g.2.1.1, 160, .inl w)), (hr, .inl (g.2.1.1, 160, .inl t))]) (ci := 2) hK hP hD hS hA hE [0, 1, 2, 3] rfl rfl rfl rfl) rfl rfl hl.1 rfl (lv_room (Nat.le_of_ble_eq_true rfl)) dX0_takeOut_30 ⟨Nat.zero_le _, Nat.zero_le _⟩) hP hD hS hA rfl (fun w_1 H locs hp hP hD hS => ?_)
        obtain rfl := hp
        have hP : va_P g.1 vwCl [(h, .inr (2, [.ref hk, .ref hv, .ref hr, .int (nI n)])), (hk, .inl (g.2.1.1, 160, .inl (kstore 160 u (nI k) (kcell 160 u (nI (k + 1)))))), (hv, .inl (g.2.1.1, 160, .inl (kstore 160 w (nI k) (kcell 160 w (nI (k + 1)))))), (hr, .inl (g.2.1.1, 160, .inl (kstore 160 t (nI k) (kbit (kis1 (kcell 160 t (nI (k + 1))))))))] H := hP
        have hD : va_D A [(h, .inr (2, [.ref hk, .ref hv, .ref hr, .int (nI n)])), (hk, .inl (g.2.1.1, 160, .inl (kstore 160 u (nI k) (kcell 160 u (nI (k + 1)))))), (hv, .inl (g.2.1.1, 160, .inl (kstore 160 w (nI k) (kcell 160 w (nI (k + 1)))))), (hr, .inl (g.2.1.1, 160, .inl (kstore 160 t (nI k) (kbit (kis1 (kcell 160 t (nI (k + 1))))))))] := hD
        have ht1 : kcell 160 t (nI (k + 1)) = 0 ∨ kcell 160 t (nI (k + 1)) = 1 := by rw [kcell_nI t (by decide) (by omega), ht, kshl, if_neg (by omega)]; exact hb1 _ hkn
        refine lv_iinc (v := nI ((k + 1) + 1)) (lv' := [(2, .int (nI ((k + 1) + 1))), (0, .ref h), (1, .int (nI i))]) hx hb dX0_takeOut_33 hl (k := 0) rfl (nI_1 (k + 1)) (by decide) rfl (fun ls hl => ?_)
        refine lv_goto (tgt := 17) hx hb dX0_takeOut_36 (by decide) ?_
        exact ih17 (k + 1) (kstore 160 u (nI k) (kcell 160 u (nI (k + 1)))) (kstore 160 w (nI k) (kcell 160 w (nI (k + 1)))) (kstore 160 t (nI k) (kbit (kis1 (kcell 160 t (nI (k + 1)))))) _ _ ls (by omega) (by omega) (by rw [hu]; exact kshl_s (by decide) hk1 (by omega)) (by rw [hw]; exact kshl_s (by decide) hk1 (by omega)) (by rw [kb01 ht1, ht]; exact kshl_s (by decide) hk1 (by omega)) (by omega) hP hD hS (lv_sub hl [0, 1, 2] rfl)
  exact L17 _ i fk fv fr _ _ ls (Nat.le_refl i) hi (kshl_0 fk i) (kshl_0 fv i) (kshl_0 fr i) (Nat.lt_succ_self _) hP hD hS (lv_sub hl [0, 1, 2] rfl)
set_option maxRecDepth 20000 in
theorem ggX0_become_X6_copyRow : GoodIn wsX0_become wsX6_copyRow := goodIn_ca (goodIn_r _ [7, 8, 9, 6, 10, 11, 12, 13] (by decide +kernel) (by decide +kernel)) (goodIn_sub (fun _ h => List.mem_cons_of_mem _ (List.mem_append_right _ h)) (by decide +kernel))
set_option maxRecDepth 20000 in
theorem gX0_become_X6_copyRow_n53 : GoodIn wsX0_become (wsX6_copyRow) := ggX0_become_X6_copyRow
theorem dX0_become_0 : decode cX0_become 0 = .ok (.aload_n 0, 1) := by decide +kernel
theorem dX0_become_1 : decode cX0_become 1 = .ok (.aload_n 1, 1) := by decide +kernel
theorem dX0_become_2 : decode cX0_become 2 = .ok (.getfield 21, 3) := by decide +kernel
theorem dX0_become_5 : decode cX0_become 5 = .ok (.putfield 21, 3) := by decide +kernel
theorem dX0_become_8 : decode cX0_become 8 = .ok (.aload_n 1, 1) := by decide +kernel
theorem dX0_become_9 : decode cX0_become 9 = .ok (.getfield 9, 3) := by decide +kernel
theorem dX0_become_12 : decode cX0_become 12 = .ok (.aload_n 0, 1) := by decide +kernel
theorem dX0_become_13 : decode cX0_become 13 = .ok (.getfield 9, 3) := by decide +kernel
theorem dX0_become_16 : decode cX0_become 16 = .ok (.aload_n 0, 1) := by decide +kernel
theorem dX0_become_17 : decode cX0_become 17 = .ok (.getfield 21, 3) := by decide +kernel
theorem dX0_become_20 : decode cX0_become 20 = .ok (.invokestatic 53, 3) := by decide +kernel
theorem dX0_become_23 : decode cX0_become 23 = .ok (.aload_n 1, 1) := by decide +kernel
theorem dX0_become_24 : decode cX0_become 24 = .ok (.getfield 15, 3) := by decide +kernel
theorem dX0_become_27 : decode cX0_become 27 = .ok (.aload_n 0, 1) := by decide +kernel
theorem dX0_become_28 : decode cX0_become 28 = .ok (.getfield 15, 3) := by decide +kernel
theorem dX0_become_31 : decode cX0_become 31 = .ok (.aload_n 0, 1) := by decide +kernel
theorem dX0_become_32 : decode cX0_become 32 = .ok (.getfield 21, 3) := by decide +kernel
theorem dX0_become_35 : decode cX0_become 35 = .ok (.invokestatic 53, 3) := by decide +kernel
theorem dX0_become_38 : decode cX0_become 38 = .ok (.aload_n 1, 1) := by decide +kernel
theorem dX0_become_39 : decode cX0_become 39 = .ok (.getfield 18, 3) := by decide +kernel
theorem dX0_become_42 : decode cX0_become 42 = .ok (.aload_n 0, 1) := by decide +kernel
theorem dX0_become_43 : decode cX0_become 43 = .ok (.getfield 18, 3) := by decide +kernel
theorem dX0_become_46 : decode cX0_become 46 = .ok (.aload_n 0, 1) := by decide +kernel
theorem dX0_become_47 : decode cX0_become 47 = .ok (.getfield 21, 3) := by decide +kernel
theorem dX0_become_50 : decode cX0_become 50 = .ok (.invokestatic 53, 3) := by decide +kernel
theorem dX0_become_53 : decode cX0_become 53 = .ok (.return_, 1) := by decide +kernel
def rm_X0_become : Room := { frames := 2, cells := 0, slots := 0, locals := 45 }
abbrev p_X0_become (g : kG) (h : Nat) (hk : Nat) (hv : Nat) (hr : Nat) (n : Nat) (fk : Nat → Int32) (fv : Nat → Int32) (fr : Nat → Int32) (o : Nat) (ok : Nat) (ov : Nat) (or : Nat) (mm : Nat) (gk : Nat → Int32) (gv : Nat → Int32) (gr : Nat → Int32) : va_W → Prop := fun w1 => w1 = [(h, .inr (2, [.ref hk, .ref hv, .ref hr, .int (nI mm)])), (hk, .inl (g.2.1.1, 160, .inl (kcpy gk fk mm))), (hv, .inl (g.2.1.1, 160, .inl (kcpy gv fv mm))), (hr, .inl (g.2.1.1, 160, .inl (kcpy gr fr mm))), (o, .inr (2, [.ref ok, .ref ov, .ref or, .int (nI mm)])), (ok, .inl (g.2.1.1, 160, .inl gk)), (ov, .inl (g.2.1.1, 160, .inl gv)), (or, .inl (g.2.1.1, 160, .inl gr))]
set_option maxHeartbeats 4000000 in
set_option maxRecDepth 100000 in
theorem c_X0_become (l : Launch) (g : kG) (h : Nat) (hk : Nat) (hv : Nat) (hr : Nat) (n : Nat) (fk : Nat → Int32) (fv : Nat → Int32) (fr : Nat → Int32) (o : Nat) (ok : Nat) (ov : Nat) (or : Nat) (mm : Nat) (gk : Nat → Int32) (gv : Nat → Int32) (gr : Nat → Int32) (hm : mm ≤ 160) : KV l yX0_become wsX0_become rm_X0_become g [.ref h, .ref o] [(h, .inr (2, [.ref hk, .ref hv, .ref hr, .int (nI n)])), (hk, .inl (g.2.1.1, 160, .inl fk)), (hv, .inl (g.2.1.1, 160, .inl fv)), (hr, .inl (g.2.1.1, 160, .inl fr)), (o, .inr (2, [.ref ok, .ref ov, .ref or, .int (nI mm)])), (ok, .inl (g.2.1.1, 160, .inl gk)), (ov, .inl (g.2.1.1, 160, .inl gv)), (or, .inl (g.2.1.1, 160, .inl gr))] (p_X0_become g h hk hv hr n fk fv fr o ok ov or mm gk gv gr) := by
  refine kbodyV (cc := cX0_become) (n := 2) (k := 8) (own := RX0) (plainFor_of_name (by decide)) rfl rfl rfl rfl ?_
  intro p e s m below meth cd A ls hcx
  obtain ⟨hx, hb, hRt, hml, hts, hown, hlk, hA, hP, hK, hD, hE, hS, hl⟩ := hcx
  have hl : lv_has ls 2 [(0, .ref h), (1, .ref o)] := hl
  refine lv_aload_n hx hb dX0_become_0 rfl (lv_at hl 0 rfl) ?_
  refine lv_aload_n hx hb dX0_become_1 rfl (lv_at hl 1 rfl) ?_
  refine va_get (D := g.1) (ci := 2) (v := .int (nI mm)) (C := RX0) (T := TX0) (N := 4) hx hb hts (by decide +kernel) hown hK hP 4 rfl rfl 3 (by decide) (hts (.fieldLink RX0 21 "LearnedIndex$Entries" "size" "I") (by decide +kernel)) (fun _ h9 => h9) rfl dX0_become_2 ?_
  refine va_put (D := g.1) (ci := 2) (v := .int (nI mm)) (ty := .int) (C := RX0) (T := TX0) (N := 4) hx hb hts (by decide +kernel) tyX0 tyX0_ok nmX0 hown hK hP hD hS 0 rfl rfl 3 (by decide) (hts (.fieldLink RX0 21 "LearnedIndex$Entries" "size" "I") (by decide +kernel)) (fun _ h9 => h9) rfl (by decide +kernel) rfl rfl (Nat.le_of_ble_eq_true rfl) dX0_become_5 (fun H locs hP hD hS => ?_)
  have hP : va_P g.1 vwCl [(h, .inr (2, [.ref hk, .ref hv, .ref hr, .int (nI mm)])), (hk, .inl (g.2.1.1, 160, .inl fk)), (hv, .inl (g.2.1.1, 160, .inl fv)), (hr, .inl (g.2.1.1, 160, .inl fr)), (o, .inr (2, [.ref ok, .ref ov, .ref or, .int (nI mm)])), (ok, .inl (g.2.1.1, 160, .inl gk)), (ov, .inl (g.2.1.1, 160, .inl gv)), (or, .inl (g.2.1.1, 160, .inl gr))] H := hP
  have hD : va_D A [(h, .inr (2, [.ref hk, .ref hv, .ref hr, .int (nI mm)])), (hk, .inl (g.2.1.1, 160, .inl fk)), (hv, .inl (g.2.1.1, 160, .inl fv)), (hr, .inl (g.2.1.1, 160, .inl fr)), (o, .inr (2, [.ref ok, .ref ov, .ref or, .int (nI mm)])), (ok, .inl (g.2.1.1, 160, .inl gk)), (ov, .inl (g.2.1.1, 160, .inl gv)), (or, .inl (g.2.1.1, 160, .inl gr))] := hD
  refine lv_aload_n hx hb dX0_become_8 rfl (lv_at hl 1 rfl) ?_
  refine va_get (D := g.1) (ci := 2) (v := .ref ok) (C := RX0) (T := TX0) (N := 4) hx hb hts (by decide +kernel) hown hK hP 4 rfl rfl 0 (by decide) (hts (.fieldLink RX0 9 "LearnedIndex$Entries" "keys" "[I") (by decide +kernel)) (fun _ h9 => h9) rfl dX0_become_9 ?_
  refine lv_aload_n hx hb dX0_become_12 rfl (lv_at hl 0 rfl) ?_
  refine va_get (D := g.1) (ci := 2) (v := .ref hk) (C := RX0) (T := TX0) (N := 4) hx hb hts (by decide +kernel) hown hK hP 0 rfl rfl 0 (by decide) (hts (.fieldLink RX0 9 "LearnedIndex$Entries" "keys" "[I") (by decide +kernel)) (fun _ h9 => h9) rfl dX0_become_13 ?_
  refine lv_aload_n hx hb dX0_become_16 rfl (lv_at hl 0 rfl) ?_
  refine va_get (D := g.1) (ci := 2) (v := .int (nI mm)) (C := RX0) (T := TX0) (N := 4) hx hb hts (by decide +kernel) hown hK hP 0 rfl rfl 3 (by decide) (hts (.fieldLink RX0 21 "LearnedIndex$Entries" "size" "I") (by decide +kernel)) (fun _ h9 => h9) rfl dX0_become_17 ?_
  refine kcallv (wc := [(ok, .inl (g.2.1.1, 160, .inl gk)), (hk, .inl (g.2.1.1, 160, .inl fk))]) [5, 1] (va_runSN (As := [.ref ok, .ref hk, .int (nI mm)]) (rest := []) ⟨hx, hb, hml, hown, hts⟩ ((c_X6_copyRow l g ok hk 160 gk 160 fk mm (by decide) (by decide) hm hm) _) ⟨va_cnB 3 hts gX0_become_X6_copyRow_n53 rfl rfl rfl (hE.1 _ (List.mem_of_getElem? (i := 25) rfl)) (hts (.initialized RX6) (by decide +kernel)) (by decide +kernel) ⟨Nat.le_of_ble_eq_true rfl, Nat.le_of_ble_eq_true rfl⟩, hts (.static yX6_copyRow) (by decide +kernel), trivial⟩ (kpreS (wc := [(ok, .inl (g.2.1.1, 160, .inl gk)), (hk, .inl (g.2.1.1, 160, .inl fk))]) hK hP hD hS hA hE [5, 1] rfl rfl) rfl rfl hl.1 rfl (lv_room (Nat.le_of_ble_eq_true rfl)) dX0_become_20 ⟨Nat.zero_le _, Nat.zero_le _⟩) hP hD hS hA rfl (fun w_1 H locs hp hP hD hS => ?_)
  obtain rfl := hp
  have hP : va_P g.1 vwCl [(h, .inr (2, [.ref hk, .ref hv, .ref hr, .int (nI mm)])), (hk, .inl (g.2.1.1, 160, .inl (kcpy gk fk mm))), (hv, .inl (g.2.1.1, 160, .inl fv)), (hr, .inl (g.2.1.1, 160, .inl fr)), (o, .inr (2, [.ref ok, .ref ov, .ref or, .int (nI mm)])), (ok, .inl (g.2.1.1, 160, .inl gk)), (ov, .inl (g.2.1.1, 160, .inl gv)), (or, .inl (g.2.1.1, 160, .inl gr))] H := hP
  have hD : va_D A [(h, .inr (2, [.ref hk, .ref hv, .ref hr, .int (nI mm)])), (hk, .inl (g.2.1.1, 160, .inl (kcpy gk fk mm))), (hv, .inl (g.2.1.1, 160, .inl fv)), (hr, .inl (g.2.1.1, 160, .inl fr)), (o, .inr (2, [.ref ok, .ref ov, .ref or, .int (nI mm)])), (ok, .inl (g.2.1.1, 160, .inl gk)), (ov, .inl (g.2.1.1, 160, .inl gv)), (or, .inl (g.2.1.1, 160, .inl gr))] := hD
  refine lv_aload_n hx hb dX0_become_23 rfl (lv_at hl 1 rfl) ?_
  refine va_get (D := g.1) (ci := 2) (v := .ref ov) (C := RX0) (T := TX0) (N := 4) hx hb hts (by decide +kernel) hown hK hP 4 rfl rfl 1 (by decide) (hts (.fieldLink RX0 15 "LearnedIndex$Entries" "values" "[I") (by decide +kernel)) (fun _ h9 => h9) rfl dX0_become_24 ?_
  refine lv_aload_n hx hb dX0_become_27 rfl (lv_at hl 0 rfl) ?_
  refine va_get (D := g.1) (ci := 2) (v := .ref hv) (C := RX0) (T := TX0) (N := 4) hx hb hts (by decide +kernel) hown hK hP 0 rfl rfl 1 (by decide) (hts (.fieldLink RX0 15 "LearnedIndex$Entries" "values" "[I") (by decide +kernel)) (fun _ h9 => h9) rfl dX0_become_28 ?_
  refine lv_aload_n hx hb dX0_become_31 rfl (lv_at hl 0 rfl) ?_
  refine va_get (D := g.1) (ci := 2) (v := .int (nI mm)) (C := RX0) (T := TX0) (N := 4) hx hb hts (by decide +kernel) hown hK hP 0 rfl rfl 3 (by decide) (hts (.fieldLink RX0 21 "LearnedIndex$Entries" "size" "I") (by decide +kernel)) (fun _ h9 => h9) rfl dX0_become_32 ?_
  refine kcallv (wc := [(ov, .inl (g.2.1.1, 160, .inl gv)), (hv, .inl (g.2.1.1, 160, .inl fv))]) [6, 2] (va_runSN (As := [.ref ov, .ref hv, .int (nI mm)]) (rest := []) ⟨hx, hb, hml, hown, hts⟩ ((c_X6_copyRow l g ov hv 160 gv 160 fv mm (by decide) (by decide) hm hm) _) ⟨va_cnB 3 hts gX0_become_X6_copyRow_n53 rfl rfl rfl (hE.1 _ (List.mem_of_getElem? (i := 25) rfl)) (hts (.initialized RX6) (by decide +kernel)) (by decide +kernel) ⟨Nat.le_of_ble_eq_true rfl, Nat.le_of_ble_eq_true rfl⟩, hts (.static yX6_copyRow) (by decide +kernel), trivial⟩ (kpreS (wc := [(ov, .inl (g.2.1.1, 160, .inl gv)), (hv, .inl (g.2.1.1, 160, .inl fv))]) hK hP hD hS hA hE [6, 2] rfl rfl) rfl rfl hl.1 rfl (lv_room (Nat.le_of_ble_eq_true rfl)) dX0_become_35 ⟨Nat.zero_le _, Nat.zero_le _⟩) hP hD hS hA rfl (fun w_2 H locs hp hP hD hS => ?_)
  obtain rfl := hp
  have hP : va_P g.1 vwCl [(h, .inr (2, [.ref hk, .ref hv, .ref hr, .int (nI mm)])), (hk, .inl (g.2.1.1, 160, .inl (kcpy gk fk mm))), (hv, .inl (g.2.1.1, 160, .inl (kcpy gv fv mm))), (hr, .inl (g.2.1.1, 160, .inl fr)), (o, .inr (2, [.ref ok, .ref ov, .ref or, .int (nI mm)])), (ok, .inl (g.2.1.1, 160, .inl gk)), (ov, .inl (g.2.1.1, 160, .inl gv)), (or, .inl (g.2.1.1, 160, .inl gr))] H := hP
  have hD : va_D A [(h, .inr (2, [.ref hk, .ref hv, .ref hr, .int (nI mm)])), (hk, .inl (g.2.1.1, 160, .inl (kcpy gk fk mm))), (hv, .inl (g.2.1.1, 160, .inl (kcpy gv fv mm))), (hr, .inl (g.2.1.1, 160, .inl fr)), (o, .inr (2, [.ref ok, .ref ov, .ref or, .int (nI mm)])), (ok, .inl (g.2.1.1, 160, .inl gk)), (ov, .inl (g.2.1.1, 160, .inl gv)), (or, .inl (g.2.1.1, 160, .inl gr))] := hD
  refine lv_aload_n hx hb dX0_become_38 rfl (lv_at hl 1 rfl) ?_
  refine va_get (D := g.1) (ci := 2) (v := .ref or) (C := RX0) (T := TX0) (N := 4) hx hb hts (by decide +kernel) hown hK hP 4 rfl rfl 2 (by decide) (hts (.fieldLink RX0 18 "LearnedIndex$Entries" "removals" "[I") (by decide +kernel)) (fun _ h9 => h9) rfl dX0_become_39 ?_
  refine lv_aload_n hx hb dX0_become_42 rfl (lv_at hl 0 rfl) ?_
  refine va_get (D := g.1) (ci := 2) (v := .ref hr) (C := RX0) (T := TX0) (N := 4) hx hb hts (by decide +kernel) hown hK hP 0 rfl rfl 2 (by decide) (hts (.fieldLink RX0 18 "LearnedIndex$Entries" "removals" "[I") (by decide +kernel)) (fun _ h9 => h9) rfl dX0_become_43 ?_
  refine lv_aload_n hx hb dX0_become_46 rfl (lv_at hl 0 rfl) ?_
  refine va_get (D := g.1) (ci := 2) (v := .int (nI mm)) (C := RX0) (T := TX0) (N := 4) hx hb hts (by decide +kernel) hown hK hP 0 rfl rfl 3 (by decide) (hts (.fieldLink RX0 21 "LearnedIndex$Entries" "size" "I") (by decide +kernel)) (fun _ h9 => h9) rfl dX0_become_47 ?_
  refine kcallv (wc := [(or, .inl (g.2.1.1, 160, .inl gr)), (hr, .inl (g.2.1.1, 160, .inl fr))]) [7, 3] (va_runSN (As := [.ref or, .ref hr, .int (nI mm)]) (rest := []) ⟨hx, hb, hml, hown, hts⟩ ((c_X6_copyRow l g or hr 160 gr 160 fr mm (by decide) (by decide) hm hm) _) ⟨va_cnB 3 hts gX0_become_X6_copyRow_n53 rfl rfl rfl (hE.1 _ (List.mem_of_getElem? (i := 25) rfl)) (hts (.initialized RX6) (by decide +kernel)) (by decide +kernel) ⟨Nat.le_of_ble_eq_true rfl, Nat.le_of_ble_eq_true rfl⟩, hts (.static yX6_copyRow) (by decide +kernel), trivial⟩ (kpreS (wc := [(or, .inl (g.2.1.1, 160, .inl gr)), (hr, .inl (g.2.1.1, 160, .inl fr))]) hK hP hD hS hA hE [7, 3] rfl rfl) rfl rfl hl.1 rfl (lv_room (Nat.le_of_ble_eq_true rfl)) dX0_become_50 ⟨Nat.zero_le _, Nat.zero_le _⟩) hP hD hS hA rfl (fun w_3 H locs hp hP hD hS => ?_)
  obtain rfl := hp
  have hP : va_P g.1 vwCl [(h, .inr (2, [.ref hk, .ref hv, .ref hr, .int (nI mm)])), (hk, .inl (g.2.1.1, 160, .inl (kcpy gk fk mm))), (hv, .inl (g.2.1.1, 160, .inl (kcpy gv fv mm))), (hr, .inl (g.2.1.1, 160, .inl (kcpy gr fr mm))), (o, .inr (2, [.ref ok, .ref ov, .ref or, .int (nI mm)])), (ok, .inl (g.2.1.1, 160, .inl gk)), (ov, .inl (g.2.1.1, 160, .inl gv)), (or, .inl (g.2.1.1, 160, .inl gr))] H := hP
  have hD : va_D A [(h, .inr (2, [.ref hk, .ref hv, .ref hr, .int (nI mm)])), (hk, .inl (g.2.1.1, 160, .inl (kcpy gk fk mm))), (hv, .inl (g.2.1.1, 160, .inl (kcpy gv fv mm))), (hr, .inl (g.2.1.1, 160, .inl (kcpy gr fr mm))), (o, .inr (2, [.ref ok, .ref ov, .ref or, .int (nI mm)])), (ok, .inl (g.2.1.1, 160, .inl gk)), (ov, .inl (g.2.1.1, 160, .inl gv)), (or, .inl (g.2.1.1, 160, .inl gr))] := hD
  exact kretv hx hb hRt hlk hK hP hD hS rfl dX0_become_53 (rfl)
set_option maxRecDepth 20000 in
theorem ggX0_gatherFrom_X0_key : GoodIn wsX0_gatherFrom wsX0_key := goodIn_ca (goodIn_r _ [6, 7, 8, 9, 10, 31, 32, 33, 34] (by decide +kernel) (by decide +kernel)) (goodIn_sub (fun _ h => List.mem_cons_of_mem _ (List.mem_append_right _ h)) (by decide +kernel))
set_option maxRecDepth 20000 in
theorem gX0_gatherFrom_X0_key : GoodIn wsX0_gatherFrom (wsV RX0 33 RX0 yX0_key wsX0_key) := goodIn_app (goodIn_of _ (by decide +kernel)) ggX0_gatherFrom_X0_key
set_option maxRecDepth 20000 in
theorem ggX0_gatherFrom_X0_value : GoodIn wsX0_gatherFrom wsX0_value := goodIn_ca (goodIn_r _ [14, 15, 8, 9, 10, 31, 32, 33, 34] (by decide +kernel) (by decide +kernel)) (goodIn_sub (fun _ h => List.mem_cons_of_mem _ (List.mem_append_right _ h)) (by decide +kernel))
set_option maxRecDepth 20000 in
theorem gX0_gatherFrom_X0_value : GoodIn wsX0_gatherFrom (wsV RX0 57 RX0 yX0_value wsX0_value) := goodIn_app (goodIn_of _ (by decide +kernel)) ggX0_gatherFrom_X0_value
set_option maxRecDepth 20000 in
theorem ggX0_gatherFrom_X0_append : GoodIn wsX0_gatherFrom wsX0_append := goodIn_ca (goodIn_r _ [19, 1, 20, 21, 22, 5, 23, 7, 15, 24, 25, 9, 26, 31, 32, 33, 34] (by decide +kernel) (by decide +kernel)) (goodIn_sub (fun _ h => List.mem_cons_of_mem _ (List.mem_append_right _ h)) (by decide +kernel))
set_option maxRecDepth 20000 in
theorem gX0_gatherFrom_X0_append : GoodIn wsX0_gatherFrom (wsV RX0 60 RX0 yX0_append wsX0_append) := goodIn_app (goodIn_of _ (by decide +kernel)) ggX0_gatherFrom_X0_append
set_option maxRecDepth 20000 in
theorem ggX0_gatherFrom_X0_isRemoval : GoodIn wsX0_gatherFrom wsX0_isRemoval := goodIn_ca (goodIn_r _ [30, 24, 8, 9, 10, 31, 32, 33, 34] (by decide +kernel) (by decide +kernel)) (goodIn_sub (fun _ h => List.mem_cons_of_mem _ (List.mem_append_right _ h)) (by decide +kernel))
set_option maxRecDepth 20000 in
theorem gX0_gatherFrom_X0_isRemoval : GoodIn wsX0_gatherFrom (wsV RX0 63 RX0 yX0_isRemoval wsX0_isRemoval) := goodIn_app (goodIn_of _ (by decide +kernel)) ggX0_gatherFrom_X0_isRemoval
theorem dX0_gatherFrom_0 : decode cX0_gatherFrom 0 = .ok (.aload_n 0, 1) := by decide +kernel
theorem dX0_gatherFrom_1 : decode cX0_gatherFrom 1 = .ok (.iconst 0, 1) := by decide +kernel
theorem dX0_gatherFrom_2 : decode cX0_gatherFrom 2 = .ok (.putfield 21, 3) := by decide +kernel
theorem dX0_gatherFrom_5 : decode cX0_gatherFrom 5 = .ok (.iconst 0, 1) := by decide +kernel
theorem dX0_gatherFrom_6 : decode cX0_gatherFrom 6 = .ok (.istore_n 3, 1) := by decide +kernel
theorem dX0_gatherFrom_7 : decode cX0_gatherFrom 7 = .ok (.iconst 0, 1) := by decide +kernel
theorem dX0_gatherFrom_8 : decode cX0_gatherFrom 8 = .ok (.istore 4, 2) := by decide +kernel
theorem dX0_gatherFrom_10 : decode cX0_gatherFrom 10 = .ok (.iload 4, 2) := by decide +kernel
theorem dX0_gatherFrom_12 : decode cX0_gatherFrom 12 = .ok (.aload_n 2, 1) := by decide +kernel
theorem dX0_gatherFrom_13 : decode cX0_gatherFrom 13 = .ok (.getfield 21, 3) := by decide +kernel
theorem dX0_gatherFrom_16 : decode cX0_gatherFrom 16 = .ok (.if_icmp .ge 97, 3) := by decide +kernel
theorem dX0_gatherFrom_19 : decode cX0_gatherFrom 19 = .ok (.aload_n 2, 1) := by decide +kernel
theorem dX0_gatherFrom_20 : decode cX0_gatherFrom 20 = .ok (.iload 4, 2) := by decide +kernel
theorem dX0_gatherFrom_22 : decode cX0_gatherFrom 22 = .ok (.invokevirtual 33, 3) := by decide +kernel
theorem dX0_gatherFrom_25 : decode cX0_gatherFrom 25 = .ok (.istore 5, 2) := by decide +kernel
theorem dX0_gatherFrom_27 : decode cX0_gatherFrom 27 = .ok (.iload_n 3, 1) := by decide +kernel
theorem dX0_gatherFrom_28 : decode cX0_gatherFrom 28 = .ok (.aload_n 1, 1) := by decide +kernel
theorem dX0_gatherFrom_29 : decode cX0_gatherFrom 29 = .ok (.getfield 21, 3) := by decide +kernel
theorem dX0_gatherFrom_32 : decode cX0_gatherFrom 32 = .ok (.if_icmp .ge 33, 3) := by decide +kernel
theorem dX0_gatherFrom_35 : decode cX0_gatherFrom 35 = .ok (.aload_n 1, 1) := by decide +kernel
theorem dX0_gatherFrom_36 : decode cX0_gatherFrom 36 = .ok (.iload_n 3, 1) := by decide +kernel
theorem dX0_gatherFrom_37 : decode cX0_gatherFrom 37 = .ok (.invokevirtual 33, 3) := by decide +kernel
theorem dX0_gatherFrom_40 : decode cX0_gatherFrom 40 = .ok (.iload 5, 2) := by decide +kernel
theorem dX0_gatherFrom_42 : decode cX0_gatherFrom 42 = .ok (.if_icmp .ge 23, 3) := by decide +kernel
theorem dX0_gatherFrom_45 : decode cX0_gatherFrom 45 = .ok (.aload_n 0, 1) := by decide +kernel
theorem dX0_gatherFrom_46 : decode cX0_gatherFrom 46 = .ok (.aload_n 1, 1) := by decide +kernel
theorem dX0_gatherFrom_47 : decode cX0_gatherFrom 47 = .ok (.iload_n 3, 1) := by decide +kernel
theorem dX0_gatherFrom_48 : decode cX0_gatherFrom 48 = .ok (.invokevirtual 33, 3) := by decide +kernel
theorem dX0_gatherFrom_51 : decode cX0_gatherFrom 51 = .ok (.aload_n 1, 1) := by decide +kernel
theorem dX0_gatherFrom_52 : decode cX0_gatherFrom 52 = .ok (.iload_n 3, 1) := by decide +kernel
theorem dX0_gatherFrom_53 : decode cX0_gatherFrom 53 = .ok (.invokevirtual 57, 3) := by decide +kernel
theorem dX0_gatherFrom_56 : decode cX0_gatherFrom 56 = .ok (.invokevirtual 60, 3) := by decide +kernel
theorem dX0_gatherFrom_59 : decode cX0_gatherFrom 59 = .ok (.iinc 3 1, 3) := by decide +kernel
theorem dX0_gatherFrom_62 : decode cX0_gatherFrom 62 = .ok (.goto (-35), 3) := by decide +kernel
theorem dX0_gatherFrom_65 : decode cX0_gatherFrom 65 = .ok (.iload_n 3, 1) := by decide +kernel
theorem dX0_gatherFrom_66 : decode cX0_gatherFrom 66 = .ok (.aload_n 1, 1) := by decide +kernel
theorem dX0_gatherFrom_67 : decode cX0_gatherFrom 67 = .ok (.getfield 21, 3) := by decide +kernel
theorem dX0_gatherFrom_70 : decode cX0_gatherFrom 70 = .ok (.if_icmp .ge 16, 3) := by decide +kernel
theorem dX0_gatherFrom_73 : decode cX0_gatherFrom 73 = .ok (.aload_n 1, 1) := by decide +kernel
theorem dX0_gatherFrom_74 : decode cX0_gatherFrom 74 = .ok (.iload_n 3, 1) := by decide +kernel
theorem dX0_gatherFrom_75 : decode cX0_gatherFrom 75 = .ok (.invokevirtual 33, 3) := by decide +kernel
theorem dX0_gatherFrom_78 : decode cX0_gatherFrom 78 = .ok (.iload 5, 2) := by decide +kernel
theorem dX0_gatherFrom_80 : decode cX0_gatherFrom 80 = .ok (.if_icmp .ne 6, 3) := by decide +kernel
theorem dX0_gatherFrom_83 : decode cX0_gatherFrom 83 = .ok (.iinc 3 1, 3) := by decide +kernel
theorem dX0_gatherFrom_86 : decode cX0_gatherFrom 86 = .ok (.aload_n 2, 1) := by decide +kernel
theorem dX0_gatherFrom_87 : decode cX0_gatherFrom 87 = .ok (.iload 4, 2) := by decide +kernel
theorem dX0_gatherFrom_89 : decode cX0_gatherFrom 89 = .ok (.invokevirtual 63, 3) := by decide +kernel
theorem dX0_gatherFrom_92 : decode cX0_gatherFrom 92 = .ok (.ifCond .ne 15, 3) := by decide +kernel
theorem dX0_gatherFrom_95 : decode cX0_gatherFrom 95 = .ok (.aload_n 0, 1) := by decide +kernel
theorem dX0_gatherFrom_96 : decode cX0_gatherFrom 96 = .ok (.iload 5, 2) := by decide +kernel
theorem dX0_gatherFrom_98 : decode cX0_gatherFrom 98 = .ok (.aload_n 2, 1) := by decide +kernel
theorem dX0_gatherFrom_99 : decode cX0_gatherFrom 99 = .ok (.iload 4, 2) := by decide +kernel
theorem dX0_gatherFrom_101 : decode cX0_gatherFrom 101 = .ok (.invokevirtual 57, 3) := by decide +kernel
theorem dX0_gatherFrom_104 : decode cX0_gatherFrom 104 = .ok (.invokevirtual 60, 3) := by decide +kernel
theorem dX0_gatherFrom_107 : decode cX0_gatherFrom 107 = .ok (.iinc 4 1, 3) := by decide +kernel
theorem dX0_gatherFrom_110 : decode cX0_gatherFrom 110 = .ok (.goto (-100), 3) := by decide +kernel
theorem dX0_gatherFrom_113 : decode cX0_gatherFrom 113 = .ok (.iload_n 3, 1) := by decide +kernel
theorem dX0_gatherFrom_114 : decode cX0_gatherFrom 114 = .ok (.aload_n 1, 1) := by decide +kernel
theorem dX0_gatherFrom_115 : decode cX0_gatherFrom 115 = .ok (.getfield 21, 3) := by decide +kernel
theorem dX0_gatherFrom_118 : decode cX0_gatherFrom 118 = .ok (.if_icmp .ge 23, 3) := by decide +kernel
theorem dX0_gatherFrom_121 : decode cX0_gatherFrom 121 = .ok (.aload_n 0, 1) := by decide +kernel
theorem dX0_gatherFrom_122 : decode cX0_gatherFrom 122 = .ok (.aload_n 1, 1) := by decide +kernel
theorem dX0_gatherFrom_123 : decode cX0_gatherFrom 123 = .ok (.iload_n 3, 1) := by decide +kernel
theorem dX0_gatherFrom_124 : decode cX0_gatherFrom 124 = .ok (.invokevirtual 33, 3) := by decide +kernel
theorem dX0_gatherFrom_127 : decode cX0_gatherFrom 127 = .ok (.aload_n 1, 1) := by decide +kernel
theorem dX0_gatherFrom_128 : decode cX0_gatherFrom 128 = .ok (.iload_n 3, 1) := by decide +kernel
theorem dX0_gatherFrom_129 : decode cX0_gatherFrom 129 = .ok (.invokevirtual 57, 3) := by decide +kernel
theorem dX0_gatherFrom_132 : decode cX0_gatherFrom 132 = .ok (.invokevirtual 60, 3) := by decide +kernel
theorem dX0_gatherFrom_135 : decode cX0_gatherFrom 135 = .ok (.iinc 3 1, 3) := by decide +kernel
theorem dX0_gatherFrom_138 : decode cX0_gatherFrom 138 = .ok (.goto (-25), 3) := by decide +kernel
theorem dX0_gatherFrom_141 : decode cX0_gatherFrom 141 = .ok (.return_, 1) := by decide +kernel
def rm_X0_gatherFrom : Room := { frames := 3, cells := 0, slots := 0, locals := 68 }
abbrev p_X0_gatherFrom (g : kG) (h : Nat) (hk : Nat) (hv : Nat) (hr : Nat) (n : Nat) (fk : Nat → Int32) (fv : Nat → Int32) (fr : Nat → Int32) (a : Nat) (ak : Nat) (av : Nat) (ar : Nat) (na : Nat) (mk : Nat → Int32) (mv : Nat → Int32) (mr : Nat → Int32) (b : Nat) (bk : Nat) (bv : Nat) (br : Nat) (nb : Nat) (ck : Nat → Int32) (cv : Nat → Int32) (cr : Nat → Int32) : va_W → Prop := fun w1 => ∃ (n2 : Nat), ∃ (xk : Nat → Int32), ∃ (xv : Nat → Int32), ∃ (xr : Nat → Int32), (EL n2 xk xv xr = gat (EL na mk mv mr) (EL nb ck cv cr)) ∧ w1 = [(h, .inr (2, [.ref hk, .ref hv, .ref hr, .int (nI n2)])), (hk, .inl (g.2.1.1, 160, .inl xk)), (hv, .inl (g.2.1.1, 160, .inl xv)), (hr, .inl (g.2.1.1, 160, .inl xr)), (a, .inr (2, [.ref ak, .ref av, .ref ar, .int (nI na)])), (ak, .inl (g.2.1.1, 160, .inl mk)), (av, .inl (g.2.1.1, 160, .inl mv)), (ar, .inl (g.2.1.1, 160, .inl mr)), (b, .inr (2, [.ref bk, .ref bv, .ref br, .int (nI nb)])), (bk, .inl (g.2.1.1, 160, .inl ck)), (bv, .inl (g.2.1.1, 160, .inl cv)), (br, .inl (g.2.1.1, 160, .inl cr))]
set_option maxHeartbeats 4000000 in
set_option maxRecDepth 100000 in
theorem c_X0_gatherFrom (l : Launch) (g : kG) (h : Nat) (hk : Nat) (hv : Nat) (hr : Nat) (n : Nat) (fk : Nat → Int32) (fv : Nat → Int32) (fr : Nat → Int32) (a : Nat) (ak : Nat) (av : Nat) (ar : Nat) (na : Nat) (mk : Nat → Int32) (mv : Nat → Int32) (mr : Nat → Int32) (b : Nat) (bk : Nat) (bv : Nat) (br : Nat) (nb : Nat) (ck : Nat → Int32) (cv : Nat → Int32) (cr : Nat → Int32) (hna : na ≤ 160) (hnb : nb ≤ 160) (hG : (gat (EL na mk mv mr) (EL nb ck cv cr)).length ≤ 150) : KV l yX0_gatherFrom wsX0_gatherFrom rm_X0_gatherFrom g [.ref h, .ref a, .ref b] [(h, .inr (2, [.ref hk, .ref hv, .ref hr, .int (nI n)])), (hk, .inl (g.2.1.1, 160, .inl fk)), (hv, .inl (g.2.1.1, 160, .inl fv)), (hr, .inl (g.2.1.1, 160, .inl fr)), (a, .inr (2, [.ref ak, .ref av, .ref ar, .int (nI na)])), (ak, .inl (g.2.1.1, 160, .inl mk)), (av, .inl (g.2.1.1, 160, .inl mv)), (ar, .inl (g.2.1.1, 160, .inl mr)), (b, .inr (2, [.ref bk, .ref bv, .ref br, .int (nI nb)])), (bk, .inl (g.2.1.1, 160, .inl ck)), (bv, .inl (g.2.1.1, 160, .inl cv)), (br, .inl (g.2.1.1, 160, .inl cr))] (p_X0_gatherFrom g h hk hv hr n fk fv fr a ak av ar na mk mv mr b bk bv br nb ck cv cr) := by
  refine kbodyV (cc := cX0_gatherFrom) (n := 6) (k := 12) (own := RX0) (plainFor_of_name (by decide)) rfl rfl rfl rfl ?_
  intro p e s m below meth cd A ls hcx
  obtain ⟨hx, hb, hRt, hml, hts, hown, hlk, hA, hP, hK, hD, hE, hS, hl⟩ := hcx
  have hl : lv_has ls 6 [(0, .ref h), (1, .ref a), (2, .ref b)] := hl
  refine lv_aload_n hx hb dX0_gatherFrom_0 rfl (lv_at hl 0 rfl) ?_
  refine lv_iconst (v := 0) hx hb dX0_gatherFrom_1 (by decide) ?_
  refine va_put (D := g.1) (ci := 2) (v := .int 0) (ty := .int) (C := RX0) (T := TX0) (N := 4) hx hb hts (by decide +kernel) tyX0 tyX0_ok nmX0 hown hK hP hD hS 0 rfl rfl 3 (by decide) (hts (.fieldLink RX0 21 "LearnedIndex$Entries" "size" "I") (by decide +kernel)) (fun _ h9 => h9) rfl (by decide +kernel) rfl rfl (Nat.le_of_ble_eq_true rfl) dX0_gatherFrom_2 (fun H locs hP hD hS => ?_)
  have hP : va_P g.1 vwCl [(h, .inr (2, [.ref hk, .ref hv, .ref hr, .int 0])), (hk, .inl (g.2.1.1, 160, .inl fk)), (hv, .inl (g.2.1.1, 160, .inl fv)), (hr, .inl (g.2.1.1, 160, .inl fr)), (a, .inr (2, [.ref ak, .ref av, .ref ar, .int (nI na)])), (ak, .inl (g.2.1.1, 160, .inl mk)), (av, .inl (g.2.1.1, 160, .inl mv)), (ar, .inl (g.2.1.1, 160, .inl mr)), (b, .inr (2, [.ref bk, .ref bv, .ref br, .int (nI nb)])), (bk, .inl (g.2.1.1, 160, .inl ck)), (bv, .inl (g.2.1.1, 160, .inl cv)), (br, .inl (g.2.1.1, 160, .inl cr))] H := hP
  have hD : va_D A [(h, .inr (2, [.ref hk, .ref hv, .ref hr, .int 0])), (hk, .inl (g.2.1.1, 160, .inl fk)), (hv, .inl (g.2.1.1, 160, .inl fv)), (hr, .inl (g.2.1.1, 160, .inl fr)), (a, .inr (2, [.ref ak, .ref av, .ref ar, .int (nI na)])), (ak, .inl (g.2.1.1, 160, .inl mk)), (av, .inl (g.2.1.1, 160, .inl mv)), (ar, .inl (g.2.1.1, 160, .inl mr)), (b, .inr (2, [.ref bk, .ref bv, .ref br, .int (nI nb)])), (bk, .inl (g.2.1.1, 160, .inl ck)), (bv, .inl (g.2.1.1, 160, .inl cv)), (br, .inl (g.2.1.1, 160, .inl cr))] := hD
  refine lv_iconst (v := 0) hx hb dX0_gatherFrom_5 (by decide) ?_
  refine lv_istore_n (lv' := [(3, .int 0), (0, .ref h), (1, .ref a), (2, .ref b)]) hx hb dX0_gatherFrom_6 rfl hl (by decide) rfl (fun ls hl => ?_)
  refine lv_iconst (v := 0) hx hb dX0_gatherFrom_7 (by decide) ?_
  refine lv_istore (lv' := [(4, .int 0), (3, .int 0), (0, .ref h), (1, .ref a), (2, .ref b)]) hx hb dX0_gatherFrom_8 hl (by decide) rfl (fun ls hl => ?_)
  have L10 : ∀ (n9 : Nat) (i : Nat) (j : Nat) (nn : Nat) (u : Nat → Int32) (w : Nat → Int32) (t : Nat → Int32) (H : Heap) (locs : List Loc) (ls : Array Slot), (i ≤ na) → (j ≤ nb) → (EL nn u w t ++ gat ((EL na mk mv mr).drop i) ((EL nb ck cv cr).drop j) = gat (EL na mk mv mr) (EL nb ck cv cr)) → nb - j < n9 → va_P g.1 vwCl [(h, .inr (2, [.ref hk, .ref hv, .ref hr, .int (nI nn)])), (hk, .inl (g.2.1.1, 160, .inl u)), (hv, .inl (g.2.1.1, 160, .inl w)), (hr, .inl (g.2.1.1, 160, .inl t)), (a, .inr (2, [.ref ak, .ref av, .ref ar, .int (nI na)])), (ak, .inl (g.2.1.1, 160, .inl mk)), (av, .inl (g.2.1.1, 160, .inl mv)), (ar, .inl (g.2.1.1, 160, .inl mr)), (b, .inr (2, [.ref bk, .ref bv, .ref br, .int (nI nb)])), (bk, .inl (g.2.1.1, 160, .inl ck)), (bv, .inl (g.2.1.1, 160, .inl cv)), (br, .inl (g.2.1.1, 160, .inl cr))] H → va_D A [(h, .inr (2, [.ref hk, .ref hv, .ref hr, .int (nI nn)])), (hk, .inl (g.2.1.1, 160, .inl u)), (hv, .inl (g.2.1.1, 160, .inl w)), (hr, .inl (g.2.1.1, 160, .inl t)), (a, .inr (2, [.ref ak, .ref av, .ref ar, .int (nI na)])), (ak, .inl (g.2.1.1, 160, .inl mk)), (av, .inl (g.2.1.1, 160, .inl mv)), (ar, .inl (g.2.1.1, 160, .inl mr)), (b, .inr (2, [.ref bk, .ref bv, .ref br, .int (nI nb)])), (bk, .inl (g.2.1.1, 160, .inl ck)), (bv, .inl (g.2.1.1, 160, .inl cv)), (br, .inl (g.2.1.1, 160, .inl cr))] → va_S A s.heap H locs → lv_has ls 6 [(4, .int (nI j)), (3, .int (nI i)), (0, .ref h), (1, .ref a), (2, .ref b)] → W p l e rm_X0_gatherFrom s m ([.ref h, .ref a, .ref b] : List Value).toArray below meth cd H locs 0 0 (kQv g 12 A (p_X0_gatherFrom g h hk hv hr n fk fv fr a ak av ar na mk mv mr b bk bv br nb ck cv cr) below ([.ref h, .ref a, .ref b] : List Value).toArray s) (F0 m 10 ls []) := by
    intro n9
    induction n9 with
    | zero => intro i j nn u w t H locs ls hi hj hg h9; exact absurd h9 (Nat.not_lt_zero _)
    | succ n9 ih10 =>
      intro i j nn u w t H locs ls hi hj hg hn10 hP hD hS hl
      refine lv_iload hx hb dX0_gatherFrom_10 (lv_at hl 0 rfl) ?_
      refine lv_aload_n hx hb dX0_gatherFrom_12 rfl (lv_at hl 4 rfl) ?_
      refine va_get (D := g.1) (ci := 2) (v := .int (nI nb)) (C := RX0) (T := TX0) (N := 4) hx hb hts (by decide +kernel) hown hK hP 8 rfl rfl 3 (by decide) (hts (.fieldLink RX0 21 "LearnedIndex$Entries" "size" "I") (by decide +kernel)) (fun _ h9 => h9) rfl dX0_gatherFrom_13 ?_
      refine lv_icmp_ge (tgt := 113) hx hb dX0_gatherFrom_16 (by decide) (fun c_16 => ?_) (fun c_16 => ?_)
      · skip
        have hjb : nb ≤ j := kg (by omega) (by omega) c_16
        have L113 : ∀ (n9 : Nat) (i : Nat) (nn : Nat) (u : Nat → Int32) (w : Nat → Int32) (t : Nat → Int32) (H : Heap) (locs : List Loc) (ls : Array Slot), (i ≤ na) → (EL nn u w t ++ gat ((EL na mk mv mr).drop i) ((EL nb ck cv cr).drop j) = gat (EL na mk mv mr) (EL nb ck cv cr)) → na - i < n9 → va_P g.1 vwCl [(h, .inr (2, [.ref hk, .ref hv, .ref hr, .int (nI nn)])), (hk, .inl (g.2.1.1, 160, .inl u)), (hv, .inl (g.2.1.1, 160, .inl w)), (hr, .inl (g.2.1.1, 160, .inl t)), (a, .inr (2, [.ref ak, .ref av, .ref ar, .int (nI na)])), (ak, .inl (g.2.1.1, 160, .inl mk)), (av, .inl (g.2.1.1, 160, .inl mv)), (ar, .inl (g.2.1.1, 160, .inl mr)), (b, .inr (2, [.ref bk, .ref bv, .ref br, .int (nI nb)])), (bk, .inl (g.2.1.1, 160, .inl ck)), (bv, .inl (g.2.1.1, 160, .inl cv)), (br, .inl (g.2.1.1, 160, .inl cr))] H → va_D A [(h, .inr (2, [.ref hk, .ref hv, .ref hr, .int (nI nn)])), (hk, .inl (g.2.1.1, 160, .inl u)), (hv, .inl (g.2.1.1, 160, .inl w)), (hr, .inl (g.2.1.1, 160, .inl t)), (a, .inr (2, [.ref ak, .ref av, .ref ar, .int (nI na)])), (ak, .inl (g.2.1.1, 160, .inl mk)), (av, .inl (g.2.1.1, 160, .inl mv)), (ar, .inl (g.2.1.1, 160, .inl mr)), (b, .inr (2, [.ref bk, .ref bv, .ref br, .int (nI nb)])), (bk, .inl (g.2.1.1, 160, .inl ck)), (bv, .inl (g.2.1.1, 160, .inl cv)), (br, .inl (g.2.1.1, 160, .inl cr))] → va_S A s.heap H locs → lv_has ls 6 [(4, .int (nI j)), (3, .int (nI i)), (0, .ref h), (1, .ref a), (2, .ref b)] → W p l e rm_X0_gatherFrom s m ([.ref h, .ref a, .ref b] : List Value).toArray below meth cd H locs 0 0 (kQv g 12 A (p_X0_gatherFrom g h hk hv hr n fk fv fr a ak av ar na mk mv mr b bk bv br nb ck cv cr) below ([.ref h, .ref a, .ref b] : List Value).toArray s) (F0 m 113 ls []) := by
          intro n9
          induction n9 with
          | zero => intro i nn u w t H locs ls hi hg h9; exact absurd h9 (Nat.not_lt_zero _)
          | succ n9 ih113 =>
            intro i nn u w t H locs ls hi hg hn113 hP hD hS hl
            refine lv_iload_n hx hb dX0_gatherFrom_113 rfl (lv_at hl 1 rfl) ?_
            refine lv_aload_n hx hb dX0_gatherFrom_114 rfl (lv_at hl 3 rfl) ?_
            refine va_get (D := g.1) (ci := 2) (v := .int (nI na)) (C := RX0) (T := TX0) (N := 4) hx hb hts (by decide +kernel) hown hK hP 4 rfl rfl 3 (by decide) (hts (.fieldLink RX0 21 "LearnedIndex$Entries" "size" "I") (by decide +kernel)) (fun _ h9 => h9) rfl dX0_gatherFrom_115 ?_
            refine lv_icmp_ge (tgt := 141) hx hb dX0_gatherFrom_118 (by decide) (fun c_118 => ?_) (fun c_118 => ?_)
            · skip
              have hia : na ≤ i := kg (by omega) (by omega) c_118
              exact kretv hx hb hRt hlk hK hP hD hS rfl dX0_gatherFrom_141 (⟨nn, u, w, t, ga_end hia hjb hg, rfl⟩)
            · skip
              have hia : i < na := kl (by omega) (by omega) c_118
              have e_m := kcell_nI mk (show 160 < 2 ^ 31 by decide) (show i < 160 by omega)
              have e_v := kcell_nI mv (show 160 < 2 ^ 31 by decide) (show i < 160 by omega)
              refine lv_aload_n hx hb dX0_gatherFrom_121 rfl (lv_at hl 2 rfl) ?_
              refine lv_aload_n hx hb dX0_gatherFrom_122 rfl (lv_at hl 3 rfl) ?_
              refine lv_iload_n hx hb dX0_gatherFrom_123 rfl (lv_at hl 1 rfl) ?_
              refine kcalli (wc := [(a, .inr (2, [.ref ak, .ref av, .ref ar, .int (nI na)])), (ak, .inl (g.2.1.1, 160, .inl mk)), (av, .inl (g.2.1.1, 160, .inl mv)), (ar, .inl (g.2.1.1, 160, .inl mr))]) [4, 5, 6, 7] (va_runV (C := RX0) (As := [.int (nI i)]) (rest := [.ref h]) ⟨hx, hb, hml, hown, hts⟩ ((c_X0_key l g a ak av ar na mk mv mr (nI i)) _) (cwV 1 hts gX0_gatherFrom_X0_key rfl rfl rfl (by decide +kernel) ⟨Nat.le_of_ble_eq_true rfl, Nat.le_of_ble_eq_true rfl⟩) (kpreV (wc := [(a, .inr (2, [.ref ak, .ref av, .ref ar, .int (nI na)])), (ak, .inl (g.2.1.1, 160, .inl mk)), (av, .inl (g.2.1.1, 160, .inl mv)), (ar, .inl (g.2.1.1, 160, .inl mr))]) (ci := 2) hK hP hD hS hA hE [4, 5, 6, 7] rfl rfl rfl rfl) rfl rfl hl.1 rfl (lv_room (Nat.le_of_ble_eq_true rfl)) dX0_gatherFrom_124 ⟨Nat.zero_le _, Nat.zero_le _⟩) hP hD hS hA rfl (fun r_1 w_1 H locs hp hP hD hS => ?_)
              obtain ⟨rfl, rfl⟩ := hp
              have hP : va_P g.1 vwCl [(h, .inr (2, [.ref hk, .ref hv, .ref hr, .int (nI nn)])), (hk, .inl (g.2.1.1, 160, .inl u)), (hv, .inl (g.2.1.1, 160, .inl w)), (hr, .inl (g.2.1.1, 160, .inl t)), (a, .inr (2, [.ref ak, .ref av, .ref ar, .int (nI na)])), (ak, .inl (g.2.1.1, 160, .inl mk)), (av, .inl (g.2.1.1, 160, .inl mv)), (ar, .inl (g.2.1.1, 160, .inl mr)), (b, .inr (2, [.ref bk, .ref bv, .ref br, .int (nI nb)])), (bk, .inl (g.2.1.1, 160, .inl ck)), (bv, .inl (g.2.1.1, 160, .inl cv)), (br, .inl (g.2.1.1, 160, .inl cr))] H := hP
              have hD : va_D A [(h, .inr (2, [.ref hk, .ref hv, .ref hr, .int (nI nn)])), (hk, .inl (g.2.1.1, 160, .inl u)), (hv, .inl (g.2.1.1, 160, .inl w)), (hr, .inl (g.2.1.1, 160, .inl t)), (a, .inr (2, [.ref ak, .ref av, .ref ar, .int (nI na)])), (ak, .inl (g.2.1.1, 160, .inl mk)), (av, .inl (g.2.1.1, 160, .inl mv)), (ar, .inl (g.2.1.1, 160, .inl mr)), (b, .inr (2, [.ref bk, .ref bv, .ref br, .int (nI nb)])), (bk, .inl (g.2.1.1, 160, .inl ck)), (bv, .inl (g.2.1.1, 160, .inl cv)), (br, .inl (g.2.1.1, 160, .inl cr))] := hD
              refine lv_aload_n hx hb dX0_gatherFrom_127 rfl (lv_at hl 3 rfl) ?_
              refine lv_iload_n hx hb dX0_gatherFrom_128 rfl (lv_at hl 1 rfl) ?_
              refine kcalli (wc := [(a, .inr (2, [.ref ak, .ref av, .ref ar, .int (nI na)])), (ak, .inl (g.2.1.1, 160, .inl mk)), (av, .inl (g.2.1.1, 160, .inl mv)), (ar, .inl (g.2.1.1, 160, .inl mr))]) [4, 5, 6, 7] (va_runV (C := RX0) (As := [.int (nI i)]) (rest := [.int (kcell 160 mk (nI i)), .ref h]) ⟨hx, hb, hml, hown, hts⟩ ((c_X0_value l g a ak av ar na mk mv mr (nI i)) _) (cwV 1 hts gX0_gatherFrom_X0_value rfl rfl rfl (by decide +kernel) ⟨Nat.le_of_ble_eq_true rfl, Nat.le_of_ble_eq_true rfl⟩) (kpreV (wc := [(a, .inr (2, [.ref ak, .ref av, .ref ar, .int (nI na)])), (ak, .inl (g.2.1.1, 160, .inl mk)), (av, .inl (g.2.1.1, 160, .inl mv)), (ar, .inl (g.2.1.1, 160, .inl mr))]) (ci := 2) hK hP hD hS hA hE [4, 5, 6, 7] rfl rfl rfl rfl) rfl rfl hl.1 rfl (lv_room (Nat.le_of_ble_eq_true rfl)) dX0_gatherFrom_129 ⟨Nat.zero_le _, Nat.zero_le _⟩) hP hD hS hA rfl (fun r_2 w_2 H locs hp hP hD hS => ?_)
              obtain ⟨rfl, rfl⟩ := hp
              have hP : va_P g.1 vwCl [(h, .inr (2, [.ref hk, .ref hv, .ref hr, .int (nI nn)])), (hk, .inl (g.2.1.1, 160, .inl u)), (hv, .inl (g.2.1.1, 160, .inl w)), (hr, .inl (g.2.1.1, 160, .inl t)), (a, .inr (2, [.ref ak, .ref av, .ref ar, .int (nI na)])), (ak, .inl (g.2.1.1, 160, .inl mk)), (av, .inl (g.2.1.1, 160, .inl mv)), (ar, .inl (g.2.1.1, 160, .inl mr)), (b, .inr (2, [.ref bk, .ref bv, .ref br, .int (nI nb)])), (bk, .inl (g.2.1.1, 160, .inl ck)), (bv, .inl (g.2.1.1, 160, .inl cv)), (br, .inl (g.2.1.1, 160, .inl cr))] H := hP
              have hD : va_D A [(h, .inr (2, [.ref hk, .ref hv, .ref hr, .int (nI nn)])), (hk, .inl (g.2.1.1, 160, .inl u)), (hv, .inl (g.2.1.1, 160, .inl w)), (hr, .inl (g.2.1.1, 160, .inl t)), (a, .inr (2, [.ref ak, .ref av, .ref ar, .int (nI na)])), (ak, .inl (g.2.1.1, 160, .inl mk)), (av, .inl (g.2.1.1, 160, .inl mv)), (ar, .inl (g.2.1.1, 160, .inl mr)), (b, .inr (2, [.ref bk, .ref bv, .ref br, .int (nI nb)])), (bk, .inl (g.2.1.1, 160, .inl ck)), (bv, .inl (g.2.1.1, 160, .inl cv)), (br, .inl (g.2.1.1, 160, .inl cr))] := hD
              refine kcallv (wc := [(h, .inr (2, [.ref hk, .ref hv, .ref hr, .int (nI nn)])), (hk, .inl (g.2.1.1, 160, .inl u)), (hv, .inl (g.2.1.1, 160, .inl w)), (hr, .inl (g.2.1.1, 160, .inl t))]) [0, 1, 2, 3] (va_runV (C := RX0) (As := [.int (kcell 160 mk (nI i)), .int (kcell 160 mv (nI i))]) (rest := []) ⟨hx, hb, hml, hown, hts⟩ ((c_X0_append l g h hk hv hr nn u w t (kcell 160 mk (nI i)) (kcell 160 mv (nI i)) (ga_3r hia hjb hg hG)) _) (cwV 2 hts gX0_gatherFrom_X0_append rfl rfl rfl (by decide +kernel) ⟨Nat.le_of_ble_eq_true rfl, Nat.le_of_ble_eq_true rfl⟩) (kpreV (wc := [(h, .inr (2, [.ref hk, .ref hv, .ref hr, .int (nI nn)])), (hk, .inl (g.2.1.1, 160, .inl u)), (hv, .inl (g.2.1.1, 160, .inl w)), (hr, .inl (g.2.1.1, 160, .inl t))]) (ci := 2) hK hP hD hS hA hE [0, 1, 2, 3] rfl rfl rfl rfl) rfl rfl hl.1 rfl (lv_room (Nat.le_of_ble_eq_true rfl)) dX0_gatherFrom_132 ⟨Nat.zero_le _, Nat.zero_le _⟩) hP hD hS hA rfl (fun w_3 H locs hp hP hD hS => ?_)
              obtain rfl := hp
              have hP : va_P g.1 vwCl [(h, .inr (2, [.ref hk, .ref hv, .ref hr, .int (nI (nn + 1))])), (hk, .inl (g.2.1.1, 160, .inl (upd u nn (kcell 160 mk (nI i))))), (hv, .inl (g.2.1.1, 160, .inl (upd w nn (kcell 160 mv (nI i))))), (hr, .inl (g.2.1.1, 160, .inl (upd t nn 0))), (a, .inr (2, [.ref ak, .ref av, .ref ar, .int (nI na)])), (ak, .inl (g.2.1.1, 160, .inl mk)), (av, .inl (g.2.1.1, 160, .inl mv)), (ar, .inl (g.2.1.1, 160, .inl mr)), (b, .inr (2, [.ref bk, .ref bv, .ref br, .int (nI nb)])), (bk, .inl (g.2.1.1, 160, .inl ck)), (bv, .inl (g.2.1.1, 160, .inl cv)), (br, .inl (g.2.1.1, 160, .inl cr))] H := hP
              have hD : va_D A [(h, .inr (2, [.ref hk, .ref hv, .ref hr, .int (nI (nn + 1))])), (hk, .inl (g.2.1.1, 160, .inl (upd u nn (kcell 160 mk (nI i))))), (hv, .inl (g.2.1.1, 160, .inl (upd w nn (kcell 160 mv (nI i))))), (hr, .inl (g.2.1.1, 160, .inl (upd t nn 0))), (a, .inr (2, [.ref ak, .ref av, .ref ar, .int (nI na)])), (ak, .inl (g.2.1.1, 160, .inl mk)), (av, .inl (g.2.1.1, 160, .inl mv)), (ar, .inl (g.2.1.1, 160, .inl mr)), (b, .inr (2, [.ref bk, .ref bv, .ref br, .int (nI nb)])), (bk, .inl (g.2.1.1, 160, .inl ck)), (bv, .inl (g.2.1.1, 160, .inl cv)), (br, .inl (g.2.1.1, 160, .inl cr))] := hD
              refine lv_iinc (v := nI (i + 1)) (lv' := [(3, .int (nI (i + 1))), (4, .int (nI j)), (0, .ref h), (1, .ref a), (2, .ref b)]) hx hb dX0_gatherFrom_135 hl (k := 1) rfl (nI_1 i) (by decide) rfl (fun ls hl => ?_)
              refine lv_goto (tgt := 113) hx hb dX0_gatherFrom_138 (by decide) ?_
              exact ih113 (i + 1) (nn + 1) (upd u nn (kcell 160 mk (nI i))) (upd w nn (kcell 160 mv (nI i))) (upd t nn 0) _ _ ls hia (by rw [e_m, e_v]; exact ga_3 hia hjb hg) (by omega) hP hD hS (lv_sub hl [1, 0, 2, 3, 4] rfl)
        exact L113 _ i nn u w t _ _ ls hi hg (Nat.lt_succ_self _) hP hD hS (lv_sub hl [0, 1, 2, 3, 4] rfl)
      · skip
        have hjb : j < nb := kl (by omega) (by omega) c_16
        have e_c := kcell_nI ck (show 160 < 2 ^ 31 by decide) (show j < 160 by omega)
        refine lv_aload_n hx hb dX0_gatherFrom_19 rfl (lv_at hl 4 rfl) ?_
        refine lv_iload hx hb dX0_gatherFrom_20 (lv_at hl 0 rfl) ?_
        refine kcalli (wc := [(b, .inr (2, [.ref bk, .ref bv, .ref br, .int (nI nb)])), (bk, .inl (g.2.1.1, 160, .inl ck)), (bv, .inl (g.2.1.1, 160, .inl cv)), (br, .inl (g.2.1.1, 160, .inl cr))]) [8, 9, 10, 11] (va_runV (C := RX0) (As := [.int (nI j)]) (rest := []) ⟨hx, hb, hml, hown, hts⟩ ((c_X0_key l g b bk bv br nb ck cv cr (nI j)) _) (cwV 1 hts gX0_gatherFrom_X0_key rfl rfl rfl (by decide +kernel) ⟨Nat.le_of_ble_eq_true rfl, Nat.le_of_ble_eq_true rfl⟩) (kpreV (wc := [(b, .inr (2, [.ref bk, .ref bv, .ref br, .int (nI nb)])), (bk, .inl (g.2.1.1, 160, .inl ck)), (bv, .inl (g.2.1.1, 160, .inl cv)), (br, .inl (g.2.1.1, 160, .inl cr))]) (ci := 2) hK hP hD hS hA hE [8, 9, 10, 11] rfl rfl rfl rfl) rfl rfl hl.1 rfl (lv_room (Nat.le_of_ble_eq_true rfl)) dX0_gatherFrom_22 ⟨Nat.zero_le _, Nat.zero_le _⟩) hP hD hS hA rfl (fun r_4 w_4 H locs hp hP hD hS => ?_)
        obtain ⟨rfl, rfl⟩ := hp
        have hP : va_P g.1 vwCl [(h, .inr (2, [.ref hk, .ref hv, .ref hr, .int (nI nn)])), (hk, .inl (g.2.1.1, 160, .inl u)), (hv, .inl (g.2.1.1, 160, .inl w)), (hr, .inl (g.2.1.1, 160, .inl t)), (a, .inr (2, [.ref ak, .ref av, .ref ar, .int (nI na)])), (ak, .inl (g.2.1.1, 160, .inl mk)), (av, .inl (g.2.1.1, 160, .inl mv)), (ar, .inl (g.2.1.1, 160, .inl mr)), (b, .inr (2, [.ref bk, .ref bv, .ref br, .int (nI nb)])), (bk, .inl (g.2.1.1, 160, .inl ck)), (bv, .inl (g.2.1.1, 160, .inl cv)), (br, .inl (g.2.1.1, 160, .inl cr))] H := hP
        have hD : va_D A [(h, .inr (2, [.ref hk, .ref hv, .ref hr, .int (nI nn)])), (hk, .inl (g.2.1.1, 160, .inl u)), (hv, .inl (g.2.1.1, 160, .inl w)), (hr, .inl (g.2.1.1, 160, .inl t)), (a, .inr (2, [.ref ak, .ref av, .ref ar, .int (nI na)])), (ak, .inl (g.2.1.1, 160, .inl mk)), (av, .inl (g.2.1.1, 160, .inl mv)), (ar, .inl (g.2.1.1, 160, .inl mr)), (b, .inr (2, [.ref bk, .ref bv, .ref br, .int (nI nb)])), (bk, .inl (g.2.1.1, 160, .inl ck)), (bv, .inl (g.2.1.1, 160, .inl cv)), (br, .inl (g.2.1.1, 160, .inl cr))] := hD
        refine lv_istore (lv' := [(5, .int (kcell 160 ck (nI j))), (4, .int (nI j)), (3, .int (nI i)), (0, .ref h), (1, .ref a), (2, .ref b)]) hx hb dX0_gatherFrom_25 hl (by decide) rfl (fun ls hl => ?_)
        have L27 : ∀ (n9 : Nat) (i : Nat) (nn : Nat) (u : Nat → Int32) (w : Nat → Int32) (t : Nat → Int32) (H : Heap) (locs : List Loc) (ls : Array Slot), (i ≤ na) → (EL nn u w t ++ gat ((EL na mk mv mr).drop i) ((EL nb ck cv cr).drop j) = gat (EL na mk mv mr) (EL nb ck cv cr)) → na - i < n9 → va_P g.1 vwCl [(h, .inr (2, [.ref hk, .ref hv, .ref hr, .int (nI nn)])), (hk, .inl (g.2.1.1, 160, .inl u)), (hv, .inl (g.2.1.1, 160, .inl w)), (hr, .inl (g.2.1.1, 160, .inl t)), (a, .inr (2, [.ref ak, .ref av, .ref ar, .int (nI na)])), (ak, .inl (g.2.1.1, 160, .inl mk)), (av, .inl (g.2.1.1, 160, .inl mv)), (ar, .inl (g.2.1.1, 160, .inl mr)), (b, .inr (2, [.ref bk, .ref bv, .ref br, .int (nI nb)])), (bk, .inl (g.2.1.1, 160, .inl ck)), (bv, .inl (g.2.1.1, 160, .inl cv)), (br, .inl (g.2.1.1, 160, .inl cr))] H → va_D A [(h, .inr (2, [.ref hk, .ref hv, .ref hr, .int (nI nn)])), (hk, .inl (g.2.1.1, 160, .inl u)), (hv, .inl (g.2.1.1, 160, .inl w)), (hr, .inl (g.2.1.1, 160, .inl t)), (a, .inr (2, [.ref ak, .ref av, .ref ar, .int (nI na)])), (ak, .inl (g.2.1.1, 160, .inl mk)), (av, .inl (g.2.1.1, 160, .inl mv)), (ar, .inl (g.2.1.1, 160, .inl mr)), (b, .inr (2, [.ref bk, .ref bv, .ref br, .int (nI nb)])), (bk, .inl (g.2.1.1, 160, .inl ck)), (bv, .inl (g.2.1.1, 160, .inl cv)), (br, .inl (g.2.1.1, 160, .inl cr))] → va_S A s.heap H locs → lv_has ls 6 [(5, .int (kcell 160 ck (nI j))), (4, .int (nI j)), (3, .int (nI i)), (0, .ref h), (1, .ref a), (2, .ref b)] → W p l e rm_X0_gatherFrom s m ([.ref h, .ref a, .ref b] : List Value).toArray below meth cd H locs 0 0 (kQv g 12 A (p_X0_gatherFrom g h hk hv hr n fk fv fr a ak av ar na mk mv mr b bk bv br nb ck cv cr) below ([.ref h, .ref a, .ref b] : List Value).toArray s) (F0 m 27 ls []) := by
          intro n9
          induction n9 with
          | zero => intro i nn u w t H locs ls hi hg h9; exact absurd h9 (Nat.not_lt_zero _)
          | succ n9 ih27 =>
            intro i nn u w t H locs ls hi hg hn27 hP hD hS hl
            refine lv_iload_n hx hb dX0_gatherFrom_27 rfl (lv_at hl 2 rfl) ?_
            refine lv_aload_n hx hb dX0_gatherFrom_28 rfl (lv_at hl 4 rfl) ?_
            refine va_get (D := g.1) (ci := 2) (v := .int (nI na)) (C := RX0) (T := TX0) (N := 4) hx hb hts (by decide +kernel) hown hK hP 4 rfl rfl 3 (by decide) (hts (.fieldLink RX0 21 "LearnedIndex$Entries" "size" "I") (by decide +kernel)) (fun _ h9 => h9) rfl dX0_gatherFrom_29 ?_
            refine lv_icmp_ge (tgt := 65) hx hb dX0_gatherFrom_32 (by decide) (fun c_32 => ?_) (fun c_32 => ?_)
            · skip
              have hia : na ≤ i := kg (by omega) (by omega) c_32
              refine lv_iload_n hx hb dX0_gatherFrom_65 rfl (lv_at hl 2 rfl) ?_
              refine lv_aload_n hx hb dX0_gatherFrom_66 rfl (lv_at hl 4 rfl) ?_
              refine va_get (D := g.1) (ci := 2) (v := .int (nI na)) (C := RX0) (T := TX0) (N := 4) hx hb hts (by decide +kernel) hown hK hP 4 rfl rfl 3 (by decide) (hts (.fieldLink RX0 21 "LearnedIndex$Entries" "size" "I") (by decide +kernel)) (fun _ h9 => h9) rfl dX0_gatherFrom_67 ?_
              refine lv_icmp_ge (tgt := 86) hx hb dX0_gatherFrom_70 (by decide) (fun c_70 => ?_) (fun c_70 => ?_)
              · skip
                have hia : na ≤ i := kg (by omega) (by omega) c_70
                have hc : (i < na ∧ mk i = ck j ∧ i = i + 1) ∨ ((i < na → ¬ mk i < ck j ∧ ¬ mk i = ck j) ∧ i = i) := by first | (exfalso; omega) | exact Or.inr ⟨fun h9 => absurd h9 (by omega), rfl⟩ | exact Or.inr ⟨fun _ => ⟨Int32.not_lt.mpr c_42, c_80⟩, rfl⟩ | exact Or.inl ⟨hia, c_80, rfl⟩
                have e_b := kcell_nI cr (show 160 < 2 ^ 31 by decide) (show j < 160 by omega)
                have e_w := kcell_nI cv (show 160 < 2 ^ 31 by decide) (show j < 160 by omega)
                refine lv_aload_n hx hb dX0_gatherFrom_86 rfl (lv_at hl 5 rfl) ?_
                refine lv_iload hx hb dX0_gatherFrom_87 (lv_at hl 1 rfl) ?_
                refine kcalli (wc := [(b, .inr (2, [.ref bk, .ref bv, .ref br, .int (nI nb)])), (bk, .inl (g.2.1.1, 160, .inl ck)), (bv, .inl (g.2.1.1, 160, .inl cv)), (br, .inl (g.2.1.1, 160, .inl cr))]) [8, 9, 10, 11] (va_runV (C := RX0) (As := [.int (nI j)]) (rest := []) ⟨hx, hb, hml, hown, hts⟩ ((c_X0_isRemoval l g b bk bv br nb ck cv cr (nI j)) _) (cwV 1 hts gX0_gatherFrom_X0_isRemoval rfl rfl rfl (by decide +kernel) ⟨Nat.le_of_ble_eq_true rfl, Nat.le_of_ble_eq_true rfl⟩) (kpreV (wc := [(b, .inr (2, [.ref bk, .ref bv, .ref br, .int (nI nb)])), (bk, .inl (g.2.1.1, 160, .inl ck)), (bv, .inl (g.2.1.1, 160, .inl cv)), (br, .inl (g.2.1.1, 160, .inl cr))]) (ci := 2) hK hP hD hS hA hE [8, 9, 10, 11] rfl rfl rfl rfl) rfl rfl hl.1 rfl (lv_room (Nat.le_of_ble_eq_true rfl)) dX0_gatherFrom_89 ⟨Nat.zero_le _, Nat.zero_le _⟩) hP hD hS hA rfl (fun r_5 w_5 H locs hp hP hD hS => ?_)
                obtain ⟨rfl, rfl⟩ := hp
                have hP : va_P g.1 vwCl [(h, .inr (2, [.ref hk, .ref hv, .ref hr, .int (nI nn)])), (hk, .inl (g.2.1.1, 160, .inl u)), (hv, .inl (g.2.1.1, 160, .inl w)), (hr, .inl (g.2.1.1, 160, .inl t)), (a, .inr (2, [.ref ak, .ref av, .ref ar, .int (nI na)])), (ak, .inl (g.2.1.1, 160, .inl mk)), (av, .inl (g.2.1.1, 160, .inl mv)), (ar, .inl (g.2.1.1, 160, .inl mr)), (b, .inr (2, [.ref bk, .ref bv, .ref br, .int (nI nb)])), (bk, .inl (g.2.1.1, 160, .inl ck)), (bv, .inl (g.2.1.1, 160, .inl cv)), (br, .inl (g.2.1.1, 160, .inl cr))] H := hP
                have hD : va_D A [(h, .inr (2, [.ref hk, .ref hv, .ref hr, .int (nI nn)])), (hk, .inl (g.2.1.1, 160, .inl u)), (hv, .inl (g.2.1.1, 160, .inl w)), (hr, .inl (g.2.1.1, 160, .inl t)), (a, .inr (2, [.ref ak, .ref av, .ref ar, .int (nI na)])), (ak, .inl (g.2.1.1, 160, .inl mk)), (av, .inl (g.2.1.1, 160, .inl mv)), (ar, .inl (g.2.1.1, 160, .inl mr)), (b, .inr (2, [.ref bk, .ref bv, .ref br, .int (nI nb)])), (bk, .inl (g.2.1.1, 160, .inl ck)), (bv, .inl (g.2.1.1, 160, .inl cv)), (br, .inl (g.2.1.1, 160, .inl cr))] := hD
                refine lv_if_ne (tgt := 107) hx hb dX0_gatherFrom_92 (by decide) (fun c_92 => ?_) (fun c_92 => ?_)
                · skip
                  have hrm : cr j = 1 := by rw [e_b] at c_92; exact Decidable.byContradiction (fun z => c_92 (by rw [kis1, if_neg z]))
                  refine lv_iinc (v := nI (j + 1)) (lv' := [(4, .int (nI (j + 1))), (5, .int (kcell 160 ck (nI j))), (3, .int (nI i)), (0, .ref h), (1, .ref a), (2, .ref b)]) hx hb dX0_gatherFrom_107 hl (k := 1) rfl (nI_1 j) (by decide) rfl (fun ls hl => ?_)
                  refine lv_goto (tgt := 10) hx hb dX0_gatherFrom_110 (by decide) ?_
                  exact ih10 i (j + 1) nn u w t _ _ ls (by omega) hjb (ga_2r hjb hc hrm hg) (by omega) hP hD hS (lv_sub hl [0, 2, 3, 4, 5] rfl)
                · skip
                  have hrm : ¬ cr j = 1 := fun z => absurd c_92 (by rw [e_b, kis1, if_pos z]; decide)
                  refine lv_aload_n hx hb dX0_gatherFrom_95 rfl (lv_at hl 3 rfl) ?_
                  refine lv_iload hx hb dX0_gatherFrom_96 (lv_at hl 0 rfl) ?_
                  refine lv_aload_n hx hb dX0_gatherFrom_98 rfl (lv_at hl 5 rfl) ?_
                  refine lv_iload hx hb dX0_gatherFrom_99 (lv_at hl 1 rfl) ?_
                  refine kcalli (wc := [(b, .inr (2, [.ref bk, .ref bv, .ref br, .int (nI nb)])), (bk, .inl (g.2.1.1, 160, .inl ck)), (bv, .inl (g.2.1.1, 160, .inl cv)), (br, .inl (g.2.1.1, 160, .inl cr))]) [8, 9, 10, 11] (va_runV (C := RX0) (As := [.int (nI j)]) (rest := [.int (kcell 160 ck (nI j)), .ref h]) ⟨hx, hb, hml, hown, hts⟩ ((c_X0_value l g b bk bv br nb ck cv cr (nI j)) _) (cwV 1 hts gX0_gatherFrom_X0_value rfl rfl rfl (by decide +kernel) ⟨Nat.le_of_ble_eq_true rfl, Nat.le_of_ble_eq_true rfl⟩) (kpreV (wc := [(b, .inr (2, [.ref bk, .ref bv, .ref br, .int (nI nb)])), (bk, .inl (g.2.1.1, 160, .inl ck)), (bv, .inl (g.2.1.1, 160, .inl cv)), (br, .inl (g.2.1.1, 160, .inl cr))]) (ci := 2) hK hP hD hS hA hE [8, 9, 10, 11] rfl rfl rfl rfl) rfl rfl hl.1 rfl (lv_room (Nat.le_of_ble_eq_true rfl)) dX0_gatherFrom_101 ⟨Nat.zero_le _, Nat.zero_le _⟩) hP hD hS hA rfl (fun r_6 w_6 H locs hp hP hD hS => ?_)
                  obtain ⟨rfl, rfl⟩ := hp
                  have hP : va_P g.1 vwCl [(h, .inr (2, [.ref hk, .ref hv, .ref hr, .int (nI nn)])), (hk, .inl (g.2.1.1, 160, .inl u)), (hv, .inl (g.2.1.1, 160, .inl w)), (hr, .inl (g.2.1.1, 160, .inl t)), (a, .inr (2, [.ref ak, .ref av, .ref ar, .int (nI na)])), (ak, .inl (g.2.1.1, 160, .inl mk)), (av, .inl (g.2.1.1, 160, .inl mv)), (ar, .inl (g.2.1.1, 160, .inl mr)), (b, .inr (2, [.ref bk, .ref bv, .ref br, .int (nI nb)])), (bk, .inl (g.2.1.1, 160, .inl ck)), (bv, .inl (g.2.1.1, 160, .inl cv)), (br, .inl (g.2.1.1, 160, .inl cr))] H := hP
                  have hD : va_D A [(h, .inr (2, [.ref hk, .ref hv, .ref hr, .int (nI nn)])), (hk, .inl (g.2.1.1, 160, .inl u)), (hv, .inl (g.2.1.1, 160, .inl w)), (hr, .inl (g.2.1.1, 160, .inl t)), (a, .inr (2, [.ref ak, .ref av, .ref ar, .int (nI na)])), (ak, .inl (g.2.1.1, 160, .inl mk)), (av, .inl (g.2.1.1, 160, .inl mv)), (ar, .inl (g.2.1.1, 160, .inl mr)), (b, .inr (2, [.ref bk, .ref bv, .ref br, .int (nI nb)])), (bk, .inl (g.2.1.1, 160, .inl ck)), (bv, .inl (g.2.1.1, 160, .inl cv)), (br, .inl (g.2.1.1, 160, .inl cr))] := hD
                  refine kcallv (wc := [(h, .inr (2, [.ref hk, .ref hv, .ref hr, .int (nI nn)])), (hk, .inl (g.2.1.1, 160, .inl u)), (hv, .inl (g.2.1.1, 160, .inl w)), (hr, .inl (g.2.1.1, 160, .inl t))]) [0, 1, 2, 3] (va_runV (C := RX0) (As := [.int (kcell 160 ck (nI j)), .int (kcell 160 cv (nI j))]) (rest := []) ⟨hx, hb, hml, hown, hts⟩ ((c_X0_append l g h hk hv hr nn u w t (kcell 160 ck (nI j)) (kcell 160 cv (nI j)) (ga_2nr hjb hc hrm hg hG)) _) (cwV 2 hts gX0_gatherFrom_X0_append rfl rfl rfl (by decide +kernel) ⟨Nat.le_of_ble_eq_true rfl, Nat.le_of_ble_eq_true rfl⟩) (kpreV (wc := [(h, .inr (2, [.ref hk, .ref hv, .ref hr, .int (nI nn)])), (hk, .inl (g.2.1.1, 160, .inl u)), (hv, .inl (g.2.1.1, 160, .inl w)), (hr, .inl (g.2.1.1, 160, .inl t))]) (ci := 2) hK hP hD hS hA hE [0, 1, 2, 3] rfl rfl rfl rfl) rfl rfl hl.1 rfl (lv_room (Nat.le_of_ble_eq_true rfl)) dX0_gatherFrom_104 ⟨Nat.zero_le _, Nat.zero_le _⟩) hP hD hS hA rfl (fun w_7 H locs hp hP hD hS => ?_)
                  obtain rfl := hp
                  have hP : va_P g.1 vwCl [(h, .inr (2, [.ref hk, .ref hv, .ref hr, .int (nI (nn + 1))])), (hk, .inl (g.2.1.1, 160, .inl (upd u nn (kcell 160 ck (nI j))))), (hv, .inl (g.2.1.1, 160, .inl (upd w nn (kcell 160 cv (nI j))))), (hr, .inl (g.2.1.1, 160, .inl (upd t nn 0))), (a, .inr (2, [.ref ak, .ref av, .ref ar, .int (nI na)])), (ak, .inl (g.2.1.1, 160, .inl mk)), (av, .inl (g.2.1.1, 160, .inl mv)), (ar, .inl (g.2.1.1, 160, .inl mr)), (b, .inr (2, [.ref bk, .ref bv, .ref br, .int (nI nb)])), (bk, .inl (g.2.1.1, 160, .inl ck)), (bv, .inl (g.2.1.1, 160, .inl cv)), (br, .inl (g.2.1.1, 160, .inl cr))] H := hP
                  have hD : va_D A [(h, .inr (2, [.ref hk, .ref hv, .ref hr, .int (nI (nn + 1))])), (hk, .inl (g.2.1.1, 160, .inl (upd u nn (kcell 160 ck (nI j))))), (hv, .inl (g.2.1.1, 160, .inl (upd w nn (kcell 160 cv (nI j))))), (hr, .inl (g.2.1.1, 160, .inl (upd t nn 0))), (a, .inr (2, [.ref ak, .ref av, .ref ar, .int (nI na)])), (ak, .inl (g.2.1.1, 160, .inl mk)), (av, .inl (g.2.1.1, 160, .inl mv)), (ar, .inl (g.2.1.1, 160, .inl mr)), (b, .inr (2, [.ref bk, .ref bv, .ref br, .int (nI nb)])), (bk, .inl (g.2.1.1, 160, .inl ck)), (bv, .inl (g.2.1.1, 160, .inl cv)), (br, .inl (g.2.1.1, 160, .inl cr))] := hD
                  refine lv_iinc (v := nI (j + 1)) (lv' := [(4, .int (nI (j + 1))), (5, .int (kcell 160 ck (nI j))), (3, .int (nI i)), (0, .ref h), (1, .ref a), (2, .ref b)]) hx hb dX0_gatherFrom_107 hl (k := 1) rfl (nI_1 j) (by decide) rfl (fun ls hl => ?_)
                  refine lv_goto (tgt := 10) hx hb dX0_gatherFrom_110 (by decide) ?_
                  exact ih10 i (j + 1) (nn + 1) (upd u nn (kcell 160 ck (nI j))) (upd w nn (kcell 160 cv (nI j))) (upd t nn 0) _ _ ls (by omega) hjb (by rw [e_c, e_w]; exact ga_2n hjb hc hrm hg) (by omega) hP hD hS (lv_sub hl [0, 2, 3, 4, 5] rfl)
              · skip
                have hia : i < na := kl (by omega) (by omega) c_70
                have e_m2 := kcell_nI mk (show 160 < 2 ^ 31 by decide) (show i < 160 by omega)
                refine lv_aload_n hx hb dX0_gatherFrom_73 rfl (lv_at hl 4 rfl) ?_
                refine lv_iload_n hx hb dX0_gatherFrom_74 rfl (lv_at hl 2 rfl) ?_
                refine kcalli (wc := [(a, .inr (2, [.ref ak, .ref av, .ref ar, .int (nI na)])), (ak, .inl (g.2.1.1, 160, .inl mk)), (av, .inl (g.2.1.1, 160, .inl mv)), (ar, .inl (g.2.1.1, 160, .inl mr))]) [4, 5, 6, 7] (va_runV (C := RX0) (As := [.int (nI i)]) (rest := []) ⟨hx, hb, hml, hown, hts⟩ ((c_X0_key l g a ak av ar na mk mv mr (nI i)) _) (cwV 1 hts gX0_gatherFrom_X0_key rfl rfl rfl (by decide +kernel) ⟨Nat.le_of_ble_eq_true rfl, Nat.le_of_ble_eq_true rfl⟩) (kpreV (wc := [(a, .inr (2, [.ref ak, .ref av, .ref ar, .int (nI na)])), (ak, .inl (g.2.1.1, 160, .inl mk)), (av, .inl (g.2.1.1, 160, .inl mv)), (ar, .inl (g.2.1.1, 160, .inl mr))]) (ci := 2) hK hP hD hS hA hE [4, 5, 6, 7] rfl rfl rfl rfl) rfl rfl hl.1 rfl (lv_room (Nat.le_of_ble_eq_true rfl)) dX0_gatherFrom_75 ⟨Nat.zero_le _, Nat.zero_le _⟩) hP hD hS hA rfl (fun r_8 w_8 H locs hp hP hD hS => ?_)
                obtain ⟨rfl, rfl⟩ := hp
                have hP : va_P g.1 vwCl [(h, .inr (2, [.ref hk, .ref hv, .ref hr, .int (nI nn)])), (hk, .inl (g.2.1.1, 160, .inl u)), (hv, .inl (g.2.1.1, 160, .inl w)), (hr, .inl (g.2.1.1, 160, .inl t)), (a, .inr (2, [.ref ak, .ref av, .ref ar, .int (nI na)])), (ak, .inl (g.2.1.1, 160, .inl mk)), (av, .inl (g.2.1.1, 160, .inl mv)), (ar, .inl (g.2.1.1, 160, .inl mr)), (b, .inr (2, [.ref bk, .ref bv, .ref br, .int (nI nb)])), (bk, .inl (g.2.1.1, 160, .inl ck)), (bv, .inl (g.2.1.1, 160, .inl cv)), (br, .inl (g.2.1.1, 160, .inl cr))] H := hP
                have hD : va_D A [(h, .inr (2, [.ref hk, .ref hv, .ref hr, .int (nI nn)])), (hk, .inl (g.2.1.1, 160, .inl u)), (hv, .inl (g.2.1.1, 160, .inl w)), (hr, .inl (g.2.1.1, 160, .inl t)), (a, .inr (2, [.ref ak, .ref av, .ref ar, .int (nI na)])), (ak, .inl (g.2.1.1, 160, .inl mk)), (av, .inl (g.2.1.1, 160, .inl mv)), (ar, .inl (g.2.1.1, 160, .inl mr)), (b, .inr (2, [.ref bk, .ref bv, .ref br, .int (nI nb)])), (bk, .inl (g.2.1.1, 160, .inl ck)), (bv, .inl (g.2.1.1, 160, .inl cv)), (br, .inl (g.2.1.1, 160, .inl cr))] := hD
                refine lv_iload hx hb dX0_gatherFrom_78 (lv_at hl 0 rfl) ?_
                refine lv_icmp_ne (tgt := 86) hx hb dX0_gatherFrom_80 (by decide) (fun c_80 => ?_) (fun c_80 => ?_)
                · skip
                  rw [e_m2, e_c] at c_80
                  have hc : (i < na ∧ mk i = ck j ∧ i = i + 1) ∨ ((i < na → ¬ mk i < ck j ∧ ¬ mk i = ck j) ∧ i = i) := by first | (exfalso; omega) | exact Or.inr ⟨fun h9 => absurd h9 (by omega), rfl⟩ | exact Or.inr ⟨fun _ => ⟨Int32.not_lt.mpr c_42, c_80⟩, rfl⟩ | exact Or.inl ⟨hia, c_80, rfl⟩
                  have e_b := kcell_nI cr (show 160 < 2 ^ 31 by decide) (show j < 160 by omega)
                  have e_w := kcell_nI cv (show 160 < 2 ^ 31 by decide) (show j < 160 by omega)
                  refine lv_aload_n hx hb dX0_gatherFrom_86 rfl (lv_at hl 5 rfl) ?_
                  refine lv_iload hx hb dX0_gatherFrom_87 (lv_at hl 1 rfl) ?_
                  refine kcalli (wc := [(b, .inr (2, [.ref bk, .ref bv, .ref br, .int (nI nb)])), (bk, .inl (g.2.1.1, 160, .inl ck)), (bv, .inl (g.2.1.1, 160, .inl cv)), (br, .inl (g.2.1.1, 160, .inl cr))]) [8, 9, 10, 11] (va_runV (C := RX0) (As := [.int (nI j)]) (rest := []) ⟨hx, hb, hml, hown, hts⟩ ((c_X0_isRemoval l g b bk bv br nb ck cv cr (nI j)) _) (cwV 1 hts gX0_gatherFrom_X0_isRemoval rfl rfl rfl (by decide +kernel) ⟨Nat.le_of_ble_eq_true rfl, Nat.le_of_ble_eq_true rfl⟩) (kpreV (wc := [(b, .inr (2, [.ref bk, .ref bv, .ref br, .int (nI nb)])), (bk, .inl (g.2.1.1, 160, .inl ck)), (bv, .inl (g.2.1.1, 160, .inl cv)), (br, .inl (g.2.1.1, 160, .inl cr))]) (ci := 2) hK hP hD hS hA hE [8, 9, 10, 11] rfl rfl rfl rfl) rfl rfl hl.1 rfl (lv_room (Nat.le_of_ble_eq_true rfl)) dX0_gatherFrom_89 ⟨Nat.zero_le _, Nat.zero_le _⟩) hP hD hS hA rfl (fun r_9 w_9 H locs hp hP hD hS => ?_)
                  obtain ⟨rfl, rfl⟩ := hp
                  have hP : va_P g.1 vwCl [(h, .inr (2, [.ref hk, .ref hv, .ref hr, .int (nI nn)])), (hk, .inl (g.2.1.1, 160, .inl u)), (hv, .inl (g.2.1.1, 160, .inl w)), (hr, .inl (g.2.1.1, 160, .inl t)), (a, .inr (2, [.ref ak, .ref av, .ref ar, .int (nI na)])), (ak, .inl (g.2.1.1, 160, .inl mk)), (av, .inl (g.2.1.1, 160, .inl mv)), (ar, .inl (g.2.1.1, 160, .inl mr)), (b, .inr (2, [.ref bk, .ref bv, .ref br, .int (nI nb)])), (bk, .inl (g.2.1.1, 160, .inl ck)), (bv, .inl (g.2.1.1, 160, .inl cv)), (br, .inl (g.2.1.1, 160, .inl cr))] H := hP
                  have hD : va_D A [(h, .inr (2, [.ref hk, .ref hv, .ref hr, .int (nI nn)])), (hk, .inl (g.2.1.1, 160, .inl u)), (hv, .inl (g.2.1.1, 160, .inl w)), (hr, .inl (g.2.1.1, 160, .inl t)), (a, .inr (2, [.ref ak, .ref av, .ref ar, .int (nI na)])), (ak, .inl (g.2.1.1, 160, .inl mk)), (av, .inl (g.2.1.1, 160, .inl mv)), (ar, .inl (g.2.1.1, 160, .inl mr)), (b, .inr (2, [.ref bk, .ref bv, .ref br, .int (nI nb)])), (bk, .inl (g.2.1.1, 160, .inl ck)), (bv, .inl (g.2.1.1, 160, .inl cv)), (br, .inl (g.2.1.1, 160, .inl cr))] := hD
                  refine lv_if_ne (tgt := 107) hx hb dX0_gatherFrom_92 (by decide) (fun c_92 => ?_) (fun c_92 => ?_)
                  · skip
                    have hrm : cr j = 1 := by rw [e_b] at c_92; exact Decidable.byContradiction (fun z => c_92 (by rw [kis1, if_neg z]))
                    refine lv_iinc (v := nI (j + 1)) (lv' := [(4, .int (nI (j + 1))), (5, .int (kcell 160 ck (nI j))), (3, .int (nI i)), (0, .ref h), (1, .ref a), (2, .ref b)]) hx hb dX0_gatherFrom_107 hl (k := 1) rfl (nI_1 j) (by decide) rfl (fun ls hl => ?_)
                    refine lv_goto (tgt := 10) hx hb dX0_gatherFrom_110 (by decide) ?_
                    exact ih10 i (j + 1) nn u w t _ _ ls (by omega) hjb (ga_2r hjb hc hrm hg) (by omega) hP hD hS (lv_sub hl [0, 2, 3, 4, 5] rfl)
                  · skip
                    have hrm : ¬ cr j = 1 := fun z => absurd c_92 (by rw [e_b, kis1, if_pos z]; decide)
                    refine lv_aload_n hx hb dX0_gatherFrom_95 rfl (lv_at hl 3 rfl) ?_
                    refine lv_iload hx hb dX0_gatherFrom_96 (lv_at hl 0 rfl) ?_
                    refine lv_aload_n hx hb dX0_gatherFrom_98 rfl (lv_at hl 5 rfl) ?_
                    refine lv_iload hx hb dX0_gatherFrom_99 (lv_at hl 1 rfl) ?_
                    refine kcalli (wc := [(b, .inr (2, [.ref bk, .ref bv, .ref br, .int (nI nb)])), (bk, .inl (g.2.1.1, 160, .inl ck)), (bv, .inl (g.2.1.1, 160, .inl cv)), (br, .inl (g.2.1.1, 160, .inl cr))]) [8, 9, 10, 11] (va_runV (C := RX0) (As := [.int (nI j)]) (rest := [.int (kcell 160 ck (nI j)), .ref h]) ⟨hx, hb, hml, hown, hts⟩ ((c_X0_value l g b bk bv br nb ck cv cr (nI j)) _) (cwV 1 hts gX0_gatherFrom_X0_value rfl rfl rfl (by decide +kernel) ⟨Nat.le_of_ble_eq_true rfl, Nat.le_of_ble_eq_true rfl⟩) (kpreV (wc := [(b, .inr (2, [.ref bk, .ref bv, .ref br, .int (nI nb)])), (bk, .inl (g.2.1.1, 160, .inl ck)), (bv, .inl (g.2.1.1, 160, .inl cv)), (br, .inl (g.2.1.1, 160, .inl cr))]) (ci := 2) hK hP hD hS hA hE [8, 9, 10, 11] rfl rfl rfl rfl) rfl rfl hl.1 rfl (lv_room (Nat.le_of_ble_eq_true rfl)) dX0_gatherFrom_101 ⟨Nat.zero_le _, Nat.zero_le _⟩) hP hD hS hA rfl (fun r_10 w_10 H locs hp hP hD hS => ?_)
                    obtain ⟨rfl, rfl⟩ := hp
                    have hP : va_P g.1 vwCl [(h, .inr (2, [.ref hk, .ref hv, .ref hr, .int (nI nn)])), (hk, .inl (g.2.1.1, 160, .inl u)), (hv, .inl (g.2.1.1, 160, .inl w)), (hr, .inl (g.2.1.1, 160, .inl t)), (a, .inr (2, [.ref ak, .ref av, .ref ar, .int (nI na)])), (ak, .inl (g.2.1.1, 160, .inl mk)), (av, .inl (g.2.1.1, 160, .inl mv)), (ar, .inl (g.2.1.1, 160, .inl mr)), (b, .inr (2, [.ref bk, .ref bv, .ref br, .int (nI nb)])), (bk, .inl (g.2.1.1, 160, .inl ck)), (bv, .inl (g.2.1.1, 160, .inl cv)), (br, .inl (g.2.1.1, 160, .inl cr))] H := hP
                    have hD : va_D A [(h, .inr (2, [.ref hk, .ref hv, .ref hr, .int (nI nn)])), (hk, .inl (g.2.1.1, 160, .inl u)), (hv, .inl (g.2.1.1, 160, .inl w)), (hr, .inl (g.2.1.1, 160, .inl t)), (a, .inr (2, [.ref ak, .ref av, .ref ar, .int (nI na)])), (ak, .inl (g.2.1.1, 160, .inl mk)), (av, .inl (g.2.1.1, 160, .inl mv)), (ar, .inl (g.2.1.1, 160, .inl mr)), (b, .inr (2, [.ref bk, .ref bv, .ref br, .int (nI nb)])), (bk, .inl (g.2.1.1, 160, .inl ck)), (bv, .inl (g.2.1.1, 160, .inl cv)), (br, .inl (g.2.1.1, 160, .inl cr))] := hD
                    refine kcallv (wc := [(h, .inr (2, [.ref hk, .ref hv, .ref hr, .int (nI nn)])), (hk, .inl (g.2.1.1, 160, .inl u)), (hv, .inl (g.2.1.1, 160, .inl w)), (hr, .inl (g.2.1.1, 160, .inl t))]) [0, 1, 2, 3] (va_runV (C := RX0) (As := [.int (kcell 160 ck (nI j)), .int (kcell 160 cv (nI j))]) (rest := []) ⟨hx, hb, hml, hown, hts⟩ ((c_X0_append l g h hk hv hr nn u w t (kcell 160 ck (nI j)) (kcell 160 cv (nI j)) (ga_2nr hjb hc hrm hg hG)) _) (cwV 2 hts gX0_gatherFrom_X0_append rfl rfl rfl (by decide +kernel) ⟨Nat.le_of_ble_eq_true rfl, Nat.le_of_ble_eq_true rfl⟩) (kpreV (wc := [(h, .inr (2, [.ref hk, .ref hv, .ref hr, .int (nI nn)])), (hk, .inl (g.2.1.1, 160, .inl u)), (hv, .inl (g.2.1.1, 160, .inl w)), (hr, .inl (g.2.1.1, 160, .inl t))]) (ci := 2) hK hP hD hS hA hE [0, 1, 2, 3] rfl rfl rfl rfl) rfl rfl hl.1 rfl (lv_room (Nat.le_of_ble_eq_true rfl)) dX0_gatherFrom_104 ⟨Nat.zero_le _, Nat.zero_le _⟩) hP hD hS hA rfl (fun w_11 H locs hp hP hD hS => ?_)
                    obtain rfl := hp
                    have hP : va_P g.1 vwCl [(h, .inr (2, [.ref hk, .ref hv, .ref hr, .int (nI (nn + 1))])), (hk, .inl (g.2.1.1, 160, .inl (upd u nn (kcell 160 ck (nI j))))), (hv, .inl (g.2.1.1, 160, .inl (upd w nn (kcell 160 cv (nI j))))), (hr, .inl (g.2.1.1, 160, .inl (upd t nn 0))), (a, .inr (2, [.ref ak, .ref av, .ref ar, .int (nI na)])), (ak, .inl (g.2.1.1, 160, .inl mk)), (av, .inl (g.2.1.1, 160, .inl mv)), (ar, .inl (g.2.1.1, 160, .inl mr)), (b, .inr (2, [.ref bk, .ref bv, .ref br, .int (nI nb)])), (bk, .inl (g.2.1.1, 160, .inl ck)), (bv, .inl (g.2.1.1, 160, .inl cv)), (br, .inl (g.2.1.1, 160, .inl cr))] H := hP
                    have hD : va_D A [(h, .inr (2, [.ref hk, .ref hv, .ref hr, .int (nI (nn + 1))])), (hk, .inl (g.2.1.1, 160, .inl (upd u nn (kcell 160 ck (nI j))))), (hv, .inl (g.2.1.1, 160, .inl (upd w nn (kcell 160 cv (nI j))))), (hr, .inl (g.2.1.1, 160, .inl (upd t nn 0))), (a, .inr (2, [.ref ak, .ref av, .ref ar, .int (nI na)])), (ak, .inl (g.2.1.1, 160, .inl mk)), (av, .inl (g.2.1.1, 160, .inl mv)), (ar, .inl (g.2.1.1, 160, .inl mr)), (b, .inr (2, [.ref bk, .ref bv, .ref br, .int (nI nb)])), (bk, .inl (g.2.1.1, 160, .inl ck)), (bv, .inl (g.2.1.1, 160, .inl cv)), (br, .inl (g.2.1.1, 160, .inl cr))] := hD
                    refine lv_iinc (v := nI (j + 1)) (lv' := [(4, .int (nI (j + 1))), (5, .int (kcell 160 ck (nI j))), (3, .int (nI i)), (0, .ref h), (1, .ref a), (2, .ref b)]) hx hb dX0_gatherFrom_107 hl (k := 1) rfl (nI_1 j) (by decide) rfl (fun ls hl => ?_)
                    refine lv_goto (tgt := 10) hx hb dX0_gatherFrom_110 (by decide) ?_
                    exact ih10 i (j + 1) (nn + 1) (upd u nn (kcell 160 ck (nI j))) (upd w nn (kcell 160 cv (nI j))) (upd t nn 0) _ _ ls (by omega) hjb (by rw [e_c, e_w]; exact ga_2n hjb hc hrm hg) (by omega) hP hD hS (lv_sub hl [0, 2, 3, 4, 5] rfl)
                · skip
                  rw [e_m2, e_c] at c_80
                  refine lv_iinc (v := nI (i + 1)) (lv' := [(3, .int (nI (i + 1))), (5, .int (kcell 160 ck (nI j))), (4, .int (nI j)), (0, .ref h), (1, .ref a), (2, .ref b)]) hx hb dX0_gatherFrom_83 hl (k := 2) rfl (nI_1 i) (by decide) rfl (fun ls hl => ?_)
                  have hc : (i < na ∧ mk i = ck j ∧ (i + 1) = i + 1) ∨ ((i < na → ¬ mk i < ck j ∧ ¬ mk i = ck j) ∧ (i + 1) = i) := by first | (exfalso; omega) | exact Or.inr ⟨fun h9 => absurd h9 (by omega), rfl⟩ | exact Or.inr ⟨fun _ => ⟨Int32.not_lt.mpr c_42, c_80⟩, rfl⟩ | exact Or.inl ⟨hia, c_80, rfl⟩
                  have e_b := kcell_nI cr (show 160 < 2 ^ 31 by decide) (show j < 160 by omega)
                  have e_w := kcell_nI cv (show 160 < 2 ^ 31 by decide) (show j < 160 by omega)
                  refine lv_aload_n hx hb dX0_gatherFrom_86 rfl (lv_at hl 5 rfl) ?_
                  refine lv_iload hx hb dX0_gatherFrom_87 (lv_at hl 2 rfl) ?_
                  refine kcalli (wc := [(b, .inr (2, [.ref bk, .ref bv, .ref br, .int (nI nb)])), (bk, .inl (g.2.1.1, 160, .inl ck)), (bv, .inl (g.2.1.1, 160, .inl cv)), (br, .inl (g.2.1.1, 160, .inl cr))]) [8, 9, 10, 11] (va_runV (C := RX0) (As := [.int (nI j)]) (rest := []) ⟨hx, hb, hml, hown, hts⟩ ((c_X0_isRemoval l g b bk bv br nb ck cv cr (nI j)) _) (cwV 1 hts gX0_gatherFrom_X0_isRemoval rfl rfl rfl (by decide +kernel) ⟨Nat.le_of_ble_eq_true rfl, Nat.le_of_ble_eq_true rfl⟩) (kpreV (wc := [(b, .inr (2, [.ref bk, .ref bv, .ref br, .int (nI nb)])), (bk, .inl (g.2.1.1, 160, .inl ck)), (bv, .inl (g.2.1.1, 160, .inl cv)), (br, .inl (g.2.1.1, 160, .inl cr))]) (ci := 2) hK hP hD hS hA hE [8, 9, 10, 11] rfl rfl rfl rfl) rfl rfl hl.1 rfl (lv_room (Nat.le_of_ble_eq_true rfl)) dX0_gatherFrom_89 ⟨Nat.zero_le _, Nat.zero_le _⟩) hP hD hS hA rfl (fun r_12 w_12 H locs hp hP hD hS => ?_)
                  obtain ⟨rfl, rfl⟩ := hp
                  have hP : va_P g.1 vwCl [(h, .inr (2, [.ref hk, .ref hv, .ref hr, .int (nI nn)])), (hk, .inl (g.2.1.1, 160, .inl u)), (hv, .inl (g.2.1.1, 160, .inl w)), (hr, .inl (g.2.1.1, 160, .inl t)), (a, .inr (2, [.ref ak, .ref av, .ref ar, .int (nI na)])), (ak, .inl (g.2.1.1, 160, .inl mk)), (av, .inl (g.2.1.1, 160, .inl mv)), (ar, .inl (g.2.1.1, 160, .inl mr)), (b, .inr (2, [.ref bk, .ref bv, .ref br, .int (nI nb)])), (bk, .inl (g.2.1.1, 160, .inl ck)), (bv, .inl (g.2.1.1, 160, .inl cv)), (br, .inl (g.2.1.1, 160, .inl cr))] H := hP
                  have hD : va_D A [(h, .inr (2, [.ref hk, .ref hv, .ref hr, .int (nI nn)])), (hk, .inl (g.2.1.1, 160, .inl u)), (hv, .inl (g.2.1.1, 160, .inl w)), (hr, .inl (g.2.1.1, 160, .inl t)), (a, .inr (2, [.ref ak, .ref av, .ref ar, .int (nI na)])), (ak, .inl (g.2.1.1, 160, .inl mk)), (av, .inl (g.2.1.1, 160, .inl mv)), (ar, .inl (g.2.1.1, 160, .inl mr)), (b, .inr (2, [.ref bk, .ref bv, .ref br, .int (nI nb)])), (bk, .inl (g.2.1.1, 160, .inl ck)), (bv, .inl (g.2.1.1, 160, .inl cv)), (br, .inl (g.2.1.1, 160, .inl cr))] := hD
                  refine lv_if_ne (tgt := 107) hx hb dX0_gatherFrom_92 (by decide) (fun c_92 => ?_) (fun c_92 => ?_)
                  · skip
                    have hrm : cr j = 1 := by rw [e_b] at c_92; exact Decidable.byContradiction (fun z => c_92 (by rw [kis1, if_neg z]))
                    refine lv_iinc (v := nI (j + 1)) (lv' := [(4, .int (nI (j + 1))), (3, .int (nI (i + 1))), (5, .int (kcell 160 ck (nI j))), (0, .ref h), (1, .ref a), (2, .ref b)]) hx hb dX0_gatherFrom_107 hl (k := 2) rfl (nI_1 j) (by decide) rfl (fun ls hl => ?_)
                    refine lv_goto (tgt := 10) hx hb dX0_gatherFrom_110 (by decide) ?_
                    exact ih10 (i + 1) (j + 1) nn u w t _ _ ls (by omega) hjb (ga_2r hjb hc hrm hg) (by omega) hP hD hS (lv_sub hl [0, 1, 3, 4, 5] rfl)
                  · skip
                    have hrm : ¬ cr j = 1 := fun z => absurd c_92 (by rw [e_b, kis1, if_pos z]; decide)
                    refine lv_aload_n hx hb dX0_gatherFrom_95 rfl (lv_at hl 3 rfl) ?_
                    refine lv_iload hx hb dX0_gatherFrom_96 (lv_at hl 1 rfl) ?_
                    refine lv_aload_n hx hb dX0_gatherFrom_98 rfl (lv_at hl 5 rfl) ?_
                    refine lv_iload hx hb dX0_gatherFrom_99 (lv_at hl 2 rfl) ?_
                    refine kcalli (wc := [(b, .inr (2, [.ref bk, .ref bv, .ref br, .int (nI nb)])), (bk, .inl (g.2.1.1, 160, .inl ck)), (bv, .inl (g.2.1.1, 160, .inl cv)), (br, .inl (g.2.1.1, 160, .inl cr))]) [8, 9, 10, 11] (va_runV (C := RX0) (As := [.int (nI j)]) (rest := [.int (kcell 160 ck (nI j)), .ref h]) ⟨hx, hb, hml, hown, hts⟩ ((c_X0_value l g b bk bv br nb ck cv cr (nI j)) _) (cwV 1 hts gX0_gatherFrom_X0_value rfl rfl rfl (by decide +kernel) ⟨Nat.le_of_ble_eq_true rfl, Nat.le_of_ble_eq_true rfl⟩) (kpreV (wc := [(b, .inr (2, [.ref bk, .ref bv, .ref br, .int (nI nb)])), (bk, .inl (g.2.1.1, 160, .inl ck)), (bv, .inl (g.2.1.1, 160, .inl cv)), (br, .inl (g.2.1.1, 160, .inl cr))]) (ci := 2) hK hP hD hS hA hE [8, 9, 10, 11] rfl rfl rfl rfl) rfl rfl hl.1 rfl (lv_room (Nat.le_of_ble_eq_true rfl)) dX0_gatherFrom_101 ⟨Nat.zero_le _, Nat.zero_le _⟩) hP hD hS hA rfl (fun r_13 w_13 H locs hp hP hD hS => ?_)
                    obtain ⟨rfl, rfl⟩ := hp
                    have hP : va_P g.1 vwCl [(h, .inr (2, [.ref hk, .ref hv, .ref hr, .int (nI nn)])), (hk, .inl (g.2.1.1, 160, .inl u)), (hv, .inl (g.2.1.1, 160, .inl w)), (hr, .inl (g.2.1.1, 160, .inl t)), (a, .inr (2, [.ref ak, .ref av, .ref ar, .int (nI na)])), (ak, .inl (g.2.1.1, 160, .inl mk)), (av, .inl (g.2.1.1, 160, .inl mv)), (ar, .inl (g.2.1.1, 160, .inl mr)), (b, .inr (2, [.ref bk, .ref bv, .ref br, .int (nI nb)])), (bk, .inl (g.2.1.1, 160, .inl ck)), (bv, .inl (g.2.1.1, 160, .inl cv)), (br, .inl (g.2.1.1, 160, .inl cr))] H := hP
                    have hD : va_D A [(h, .inr (2, [.ref hk, .ref hv, .ref hr, .int (nI nn)])), (hk, .inl (g.2.1.1, 160, .inl u)), (hv, .inl (g.2.1.1, 160, .inl w)), (hr, .inl (g.2.1.1, 160, .inl t)), (a, .inr (2, [.ref ak, .ref av, .ref ar, .int (nI na)])), (ak, .inl (g.2.1.1, 160, .inl mk)), (av, .inl (g.2.1.1, 160, .inl mv)), (ar, .inl (g.2.1.1, 160, .inl mr)), (b, .inr (2, [.ref bk, .ref bv, .ref br, .int (nI nb)])), (bk, .inl (g.2.1.1, 160, .inl ck)), (bv, .inl (g.2.1.1, 160, .inl cv)), (br, .inl (g.2.1.1, 160, .inl cr))] := hD
                    refine kcallv (wc := [(h, .inr (2, [.ref hk, .ref hv, .ref hr, .int (nI nn)])), (hk, .inl (g.2.1.1, 160, .inl u)), (hv, .inl (g.2.1.1, 160, .inl w)), (hr, .inl (g.2.1.1, 160, .inl t))]) [0, 1, 2, 3] (va_runV (C := RX0) (As := [.int (kcell 160 ck (nI j)), .int (kcell 160 cv (nI j))]) (rest := []) ⟨hx, hb, hml, hown, hts⟩ ((c_X0_append l g h hk hv hr nn u w t (kcell 160 ck (nI j)) (kcell 160 cv (nI j)) (ga_2nr hjb hc hrm hg hG)) _) (cwV 2 hts gX0_gatherFrom_X0_append rfl rfl rfl (by decide +kernel) ⟨Nat.le_of_ble_eq_true rfl, Nat.le_of_ble_eq_true rfl⟩) (kpreV (wc := [(h, .inr (2, [.ref hk, .ref hv, .ref hr, .int (nI nn)])), (hk, .inl (g.2.1.1, 160, .inl u)), (hv, .inl (g.2.1.1, 160, .inl w)), (hr, .inl (g.2.1.1, 160, .inl t))]) (ci := 2) hK hP hD hS hA hE [0, 1, 2, 3] rfl rfl rfl rfl) rfl rfl hl.1 rfl (lv_room (Nat.le_of_ble_eq_true rfl)) dX0_gatherFrom_104 ⟨Nat.zero_le _, Nat.zero_le _⟩) hP hD hS hA rfl (fun w_14 H locs hp hP hD hS => ?_)
                    obtain rfl := hp
                    have hP : va_P g.1 vwCl [(h, .inr (2, [.ref hk, .ref hv, .ref hr, .int (nI (nn + 1))])), (hk, .inl (g.2.1.1, 160, .inl (upd u nn (kcell 160 ck (nI j))))), (hv, .inl (g.2.1.1, 160, .inl (upd w nn (kcell 160 cv (nI j))))), (hr, .inl (g.2.1.1, 160, .inl (upd t nn 0))), (a, .inr (2, [.ref ak, .ref av, .ref ar, .int (nI na)])), (ak, .inl (g.2.1.1, 160, .inl mk)), (av, .inl (g.2.1.1, 160, .inl mv)), (ar, .inl (g.2.1.1, 160, .inl mr)), (b, .inr (2, [.ref bk, .ref bv, .ref br, .int (nI nb)])), (bk, .inl (g.2.1.1, 160, .inl ck)), (bv, .inl (g.2.1.1, 160, .inl cv)), (br, .inl (g.2.1.1, 160, .inl cr))] H := hP
                    have hD : va_D A [(h, .inr (2, [.ref hk, .ref hv, .ref hr, .int (nI (nn + 1))])), (hk, .inl (g.2.1.1, 160, .inl (upd u nn (kcell 160 ck (nI j))))), (hv, .inl (g.2.1.1, 160, .inl (upd w nn (kcell 160 cv (nI j))))), (hr, .inl (g.2.1.1, 160, .inl (upd t nn 0))), (a, .inr (2, [.ref ak, .ref av, .ref ar, .int (nI na)])), (ak, .inl (g.2.1.1, 160, .inl mk)), (av, .inl (g.2.1.1, 160, .inl mv)), (ar, .inl (g.2.1.1, 160, .inl mr)), (b, .inr (2, [.ref bk, .ref bv, .ref br, .int (nI nb)])), (bk, .inl (g.2.1.1, 160, .inl ck)), (bv, .inl (g.2.1.1, 160, .inl cv)), (br, .inl (g.2.1.1, 160, .inl cr))] := hD
                    refine lv_iinc (v := nI (j + 1)) (lv' := [(4, .int (nI (j + 1))), (3, .int (nI (i + 1))), (5, .int (kcell 160 ck (nI j))), (0, .ref h), (1, .ref a), (2, .ref b)]) hx hb dX0_gatherFrom_107 hl (k := 2) rfl (nI_1 j) (by decide) rfl (fun ls hl => ?_)
                    refine lv_goto (tgt := 10) hx hb dX0_gatherFrom_110 (by decide) ?_
                    exact ih10 (i + 1) (j + 1) (nn + 1) (upd u nn (kcell 160 ck (nI j))) (upd w nn (kcell 160 cv (nI j))) (upd t nn 0) _ _ ls (by omega) hjb (by rw [e_c, e_w]; exact ga_2n hjb hc hrm hg) (by omega) hP hD hS (lv_sub hl [0, 1, 3, 4, 5] rfl)
            · skip
              have hia : i < na := kl (by omega) (by omega) c_32
              have e_m := kcell_nI mk (show 160 < 2 ^ 31 by decide) (show i < 160 by omega)
              have e_v := kcell_nI mv (show 160 < 2 ^ 31 by decide) (show i < 160 by omega)
              refine lv_aload_n hx hb dX0_gatherFrom_35 rfl (lv_at hl 4 rfl) ?_
              refine lv_iload_n hx hb dX0_gatherFrom_36 rfl (lv_at hl 2 rfl) ?_
              refine kcalli (wc := [(a, .inr (2, [.ref ak, .ref av, .ref ar, .int (nI na)])), (ak, .inl (g.2.1.1, 160, .inl mk)), (av, .inl (g.2.1.1, 160, .inl mv)), (ar, .inl (g.2.1.1, 160, .inl mr))]) [4, 5, 6, 7] (va_runV (C := RX0) (As := [.int (nI i)]) (rest := []) ⟨hx, hb, hml, hown, hts⟩ ((c_X0_key l g a ak av ar na mk mv mr (nI i)) _) (cwV 1 hts gX0_gatherFrom_X0_key rfl rfl rfl (by decide +kernel) ⟨Nat.le_of_ble_eq_true rfl, Nat.le_of_ble_eq_true rfl⟩) (kpreV (wc := [(a, .inr (2, [.ref ak, .ref av, .ref ar, .int (nI na)])), (ak, .inl (g.2.1.1, 160, .inl mk)), (av, .inl (g.2.1.1, 160, .inl mv)), (ar, .inl (g.2.1.1, 160, .inl mr))]) (ci := 2) hK hP hD hS hA hE [4, 5, 6, 7] rfl rfl rfl rfl) rfl rfl hl.1 rfl (lv_room (Nat.le_of_ble_eq_true rfl)) dX0_gatherFrom_37 ⟨Nat.zero_le _, Nat.zero_le _⟩) hP hD hS hA rfl (fun r_15 w_15 H locs hp hP hD hS => ?_)
              obtain ⟨rfl, rfl⟩ := hp
              have hP : va_P g.1 vwCl [(h, .inr (2, [.ref hk, .ref hv, .ref hr, .int (nI nn)])), (hk, .inl (g.2.1.1, 160, .inl u)), (hv, .inl (g.2.1.1, 160, .inl w)), (hr, .inl (g.2.1.1, 160, .inl t)), (a, .inr (2, [.ref ak, .ref av, .ref ar, .int (nI na)])), (ak, .inl (g.2.1.1, 160, .inl mk)), (av, .inl (g.2.1.1, 160, .inl mv)), (ar, .inl (g.2.1.1, 160, .inl mr)), (b, .inr (2, [.ref bk, .ref bv, .ref br, .int (nI nb)])), (bk, .inl (g.2.1.1, 160, .inl ck)), (bv, .inl (g.2.1.1, 160, .inl cv)), (br, .inl (g.2.1.1, 160, .inl cr))] H := hP
              have hD : va_D A [(h, .inr (2, [.ref hk, .ref hv, .ref hr, .int (nI nn)])), (hk, .inl (g.2.1.1, 160, .inl u)), (hv, .inl (g.2.1.1, 160, .inl w)), (hr, .inl (g.2.1.1, 160, .inl t)), (a, .inr (2, [.ref ak, .ref av, .ref ar, .int (nI na)])), (ak, .inl (g.2.1.1, 160, .inl mk)), (av, .inl (g.2.1.1, 160, .inl mv)), (ar, .inl (g.2.1.1, 160, .inl mr)), (b, .inr (2, [.ref bk, .ref bv, .ref br, .int (nI nb)])), (bk, .inl (g.2.1.1, 160, .inl ck)), (bv, .inl (g.2.1.1, 160, .inl cv)), (br, .inl (g.2.1.1, 160, .inl cr))] := hD
              refine lv_iload hx hb dX0_gatherFrom_40 (lv_at hl 0 rfl) ?_
              refine lv_icmp_ge (tgt := 65) hx hb dX0_gatherFrom_42 (by decide) (fun c_42 => ?_) (fun c_42 => ?_)
              · skip
                rw [e_m, e_c] at c_42
                refine lv_iload_n hx hb dX0_gatherFrom_65 rfl (lv_at hl 2 rfl) ?_
                refine lv_aload_n hx hb dX0_gatherFrom_66 rfl (lv_at hl 4 rfl) ?_
                refine va_get (D := g.1) (ci := 2) (v := .int (nI na)) (C := RX0) (T := TX0) (N := 4) hx hb hts (by decide +kernel) hown hK hP 4 rfl rfl 3 (by decide) (hts (.fieldLink RX0 21 "LearnedIndex$Entries" "size" "I") (by decide +kernel)) (fun _ h9 => h9) rfl dX0_gatherFrom_67 ?_
                refine lv_icmp_ge (tgt := 86) hx hb dX0_gatherFrom_70 (by decide) (fun c_70 => ?_) (fun c_70 => ?_)
                · skip
                  have hia : na ≤ i := kg (by omega) (by omega) c_70
                  have hc : (i < na ∧ mk i = ck j ∧ i = i + 1) ∨ ((i < na → ¬ mk i < ck j ∧ ¬ mk i = ck j) ∧ i = i) := by first | (exfalso; omega) | exact Or.inr ⟨fun h9 => absurd h9 (by omega), rfl⟩ | exact Or.inr ⟨fun _ => ⟨Int32.not_lt.mpr c_42, c_80⟩, rfl⟩ | exact Or.inl ⟨hia, c_80, rfl⟩
                  have e_b := kcell_nI cr (show 160 < 2 ^ 31 by decide) (show j < 160 by omega)
                  have e_w := kcell_nI cv (show 160 < 2 ^ 31 by decide) (show j < 160 by omega)
                  refine lv_aload_n hx hb dX0_gatherFrom_86 rfl (lv_at hl 5 rfl) ?_
                  refine lv_iload hx hb dX0_gatherFrom_87 (lv_at hl 1 rfl) ?_
                  refine kcalli (wc := [(b, .inr (2, [.ref bk, .ref bv, .ref br, .int (nI nb)])), (bk, .inl (g.2.1.1, 160, .inl ck)), (bv, .inl (g.2.1.1, 160, .inl cv)), (br, .inl (g.2.1.1, 160, .inl cr))]) [8, 9, 10, 11] (va_runV (C := RX0) (As := [.int (nI j)]) (rest := []) ⟨hx, hb, hml, hown, hts⟩ ((c_X0_isRemoval l g b bk bv br nb ck cv cr (nI j)) _) (cwV 1 hts gX0_gatherFrom_X0_isRemoval rfl rfl rfl (by decide +kernel) ⟨Nat.le_of_ble_eq_true rfl, Nat.le_of_ble_eq_true rfl⟩) (kpreV (wc := [(b, .inr (2, [.ref bk, .ref bv, .ref br, .int (nI nb)])), (bk, .inl (g.2.1.1, 160, .inl ck)), (bv, .inl (g.2.1.1, 160, .inl cv)), (br, .inl (g.2.1.1, 160, .inl cr))]) (ci := 2) hK hP hD hS hA hE [8, 9, 10, 11] rfl rfl rfl rfl) rfl rfl hl.1 rfl (lv_room (Nat.le_of_ble_eq_true rfl)) dX0_gatherFrom_89 ⟨Nat.zero_le _, Nat.zero_le _⟩) hP hD hS hA rfl (fun r_16 w_16 H locs hp hP hD hS => ?_)
                  obtain ⟨rfl, rfl⟩ := hp
                  have hP : va_P g.1 vwCl [(h, .inr (2, [.ref hk, .ref hv, .ref hr, .int (nI nn)])), (hk, .inl (g.2.1.1, 160, .inl u)), (hv, .inl (g.2.1.1, 160, .inl w)), (hr, .inl (g.2.1.1, 160, .inl t)), (a, .inr (2, [.ref ak, .ref av, .ref ar, .int (nI na)])), (ak, .inl (g.2.1.1, 160, .inl mk)), (av, .inl (g.2.1.1, 160, .inl mv)), (ar, .inl (g.2.1.1, 160, .inl mr)), (b, .inr (2, [.ref bk, .ref bv, .ref br, .int (nI nb)])), (bk, .inl (g.2.1.1, 160, .inl ck)), (bv, .inl (g.2.1.1, 160, .inl cv)), (br, .inl (g.2.1.1, 160, .inl cr))] H := hP
                  have hD : va_D A [(h, .inr (2, [.ref hk, .ref hv, .ref hr, .int (nI nn)])), (hk, .inl (g.2.1.1, 160, .inl u)), (hv, .inl (g.2.1.1, 160, .inl w)), (hr, .inl (g.2.1.1, 160, .inl t)), (a, .inr (2, [.ref ak, .ref av, .ref ar, .int (nI na)])), (ak, .inl (g.2.1.1, 160, .inl mk)), (av, .inl (g.2.1.1, 160, .inl mv)), (ar, .inl (g.2.1.1, 160, .inl mr)), (b, .inr (2, [.ref bk, .ref bv, .ref br, .int (nI nb)])), (bk, .inl (g.2.1.1, 160, .inl ck)), (bv, .inl (g.2.1.1, 160, .inl cv)), (br, .inl (g.2.1.1, 160, .inl cr))] := hD
                  refine lv_if_ne (tgt := 107) hx hb dX0_gatherFrom_92 (by decide) (fun c_92 => ?_) (fun c_92 => ?_)
                  · skip
                    have hrm : cr j = 1 := by rw [e_b] at c_92; exact Decidable.byContradiction (fun z => c_92 (by rw [kis1, if_neg z]))
                    refine lv_iinc (v := nI (j + 1)) (lv' := [(4, .int (nI (j + 1))), (5, .int (kcell 160 ck (nI j))), (3, .int (nI i)), (0, .ref h), (1, .ref a), (2, .ref b)]) hx hb dX0_gatherFrom_107 hl (k := 1) rfl (nI_1 j) (by decide) rfl (fun ls hl => ?_)
                    refine lv_goto (tgt := 10) hx hb dX0_gatherFrom_110 (by decide) ?_
                    exact ih10 i (j + 1) nn u w t _ _ ls (by omega) hjb (ga_2r hjb hc hrm hg) (by omega) hP hD hS (lv_sub hl [0, 2, 3, 4, 5] rfl)
                  · skip
                    have hrm : ¬ cr j = 1 := fun z => absurd c_92 (by rw [e_b, kis1, if_pos z]; decide)
                    refine lv_aload_n hx hb dX0_gatherFrom_95 rfl (lv_at hl 3 rfl) ?_
                    refine lv_iload hx hb dX0_gatherFrom_96 (lv_at hl 0 rfl) ?_
                    refine lv_aload_n hx hb dX0_gatherFrom_98 rfl (lv_at hl 5 rfl) ?_
                    refine lv_iload hx hb dX0_gatherFrom_99 (lv_at hl 1 rfl) ?_
                    refine kcalli (wc := [(b, .inr (2, [.ref bk, .ref bv, .ref br, .int (nI nb)])), (bk, .inl (g.2.1.1, 160, .inl ck)), (bv, .inl (g.2.1.1, 160, .inl cv)), (br, .inl (g.2.1.1, 160, .inl cr))]) [8, 9, 10, 11] (va_runV (C := RX0) (As := [.int (nI j)]) (rest := [.int (kcell 160 ck (nI j)), .ref h]) ⟨hx, hb, hml, hown, hts⟩ ((c_X0_value l g b bk bv br nb ck cv cr (nI j)) _) (cwV 1 hts gX0_gatherFrom_X0_value rfl rfl rfl (by decide +kernel) ⟨Nat.le_of_ble_eq_true rfl, Nat.le_of_ble_eq_true rfl⟩) (kpreV (wc := [(b, .inr (2, [.ref bk, .ref bv, .ref br, .int (nI nb)])), (bk, .inl (g.2.1.1, 160, .inl ck)), (bv, .inl (g.2.1.1, 160, .inl cv)), (br, .inl (g.2.1.1, 160, .inl cr))]) (ci := 2) hK hP hD hS hA hE [8, 9, 10, 11] rfl rfl rfl rfl) rfl rfl hl.1 rfl (lv_room (Nat.le_of_ble_eq_true rfl)) dX0_gatherFrom_101 ⟨Nat.zero_le _, Nat.zero_le _⟩) hP hD hS hA rfl (fun r_17 w_17 H locs hp hP hD hS => ?_)
                    obtain ⟨rfl, rfl⟩ := hp
                    have hP : va_P g.1 vwCl [(h, .inr (2, [.ref hk, .ref hv, .ref hr, .int (nI nn)])), (hk, .inl (g.2.1.1, 160, .inl u)), (hv, .inl (g.2.1.1, 160, .inl w)), (hr, .inl (g.2.1.1, 160, .inl t)), (a, .inr (2, [.ref ak, .ref av, .ref ar, .int (nI na)])), (ak, .inl (g.2.1.1, 160, .inl mk)), (av, .inl (g.2.1.1, 160, .inl mv)), (ar, .inl (g.2.1.1, 160, .inl mr)), (b, .inr (2, [.ref bk, .ref bv, .ref br, .int (nI nb)])), (bk, .inl (g.2.1.1, 160, .inl ck)), (bv, .inl (g.2.1.1, 160, .inl cv)), (br, .inl (g.2.1.1, 160, .inl cr))] H := hP
                    have hD : va_D A [(h, .inr (2, [.ref hk, .ref hv, .ref hr, .int (nI nn)])), (hk, .inl (g.2.1.1, 160, .inl u)), (hv, .inl (g.2.1.1, 160, .inl w)), (hr, .inl (g.2.1.1, 160, .inl t)), (a, .inr (2, [.ref ak, .ref av, .ref ar, .int (nI na)])), (ak, .inl (g.2.1.1, 160, .inl mk)), (av, .inl (g.2.1.1, 160, .inl mv)), (ar, .inl (g.2.1.1, 160, .inl mr)), (b, .inr (2, [.ref bk, .ref bv, .ref br, .int (nI nb)])), (bk, .inl (g.2.1.1, 160, .inl ck)), (bv, .inl (g.2.1.1, 160, .inl cv)), (br, .inl (g.2.1.1, 160, .inl cr))] := hD
                    refine kcallv (wc := [(h, .inr (2, [.ref hk, .ref hv, .ref hr, .int (nI nn)])), (hk, .inl (g.2.1.1, 160, .inl u)), (hv, .inl (g.2.1.1, 160, .inl w)), (hr, .inl (g.2.1.1, 160, .inl t))]) [0, 1, 2, 3] (va_runV (C := RX0) (As := [.int (kcell 160 ck (nI j)), .int (kcell 160 cv (nI j))]) (rest := []) ⟨hx, hb, hml, hown, hts⟩ ((c_X0_append l g h hk hv hr nn u w t (kcell 160 ck (nI j)) (kcell 160 cv (nI j)) (ga_2nr hjb hc hrm hg hG)) _) (cwV 2 hts gX0_gatherFrom_X0_append rfl rfl rfl (by decide +kernel) ⟨Nat.le_of_ble_eq_true rfl, Nat.le_of_ble_eq_true rfl⟩) (kpreV (wc := [(h, .inr (2, [.ref hk, .ref hv, .ref hr, .int (nI nn)])), (hk, .inl (g.2.1.1, 160, .inl u)), (hv, .inl (g.2.1.1, 160, .inl w)), (hr, .inl (g.2.1.1, 160, .inl t))]) (ci := 2) hK hP hD hS hA hE [0, 1, 2, 3] rfl rfl rfl rfl) rfl rfl hl.1 rfl (lv_room (Nat.le_of_ble_eq_true rfl)) dX0_gatherFrom_104 ⟨Nat.zero_le _, Nat.zero_le _⟩) hP hD hS hA rfl (fun w_18 H locs hp hP hD hS => ?_)
                    obtain rfl := hp
                    have hP : va_P g.1 vwCl [(h, .inr (2, [.ref hk, .ref hv, .ref hr, .int (nI (nn + 1))])), (hk, .inl (g.2.1.1, 160, .inl (upd u nn (kcell 160 ck (nI j))))), (hv, .inl (g.2.1.1, 160, .inl (upd w nn (kcell 160 cv (nI j))))), (hr, .inl (g.2.1.1, 160, .inl (upd t nn 0))), (a, .inr (2, [.ref ak, .ref av, .ref ar, .int (nI na)])), (ak, .inl (g.2.1.1, 160, .inl mk)), (av, .inl (g.2.1.1, 160, .inl mv)), (ar, .inl (g.2.1.1, 160, .inl mr)), (b, .inr (2, [.ref bk, .ref bv, .ref br, .int (nI nb)])), (bk, .inl (g.2.1.1, 160, .inl ck)), (bv, .inl (g.2.1.1, 160, .inl cv)), (br, .inl (g.2.1.1, 160, .inl cr))] H := hP
                    have hD : va_D A [(h, .inr (2, [.ref hk, .ref hv, .ref hr, .int (nI (nn + 1))])), (hk, .inl (g.2.1.1, 160, .inl (upd u nn (kcell 160 ck (nI j))))), (hv, .inl (g.2.1.1, 160, .inl (upd w nn (kcell 160 cv (nI j))))), (hr, .inl (g.2.1.1, 160, .inl (upd t nn 0))), (a, .inr (2, [.ref ak, .ref av, .ref ar, .int (nI na)])), (ak, .inl (g.2.1.1, 160, .inl mk)), (av, .inl (g.2.1.1, 160, .inl mv)), (ar, .inl (g.2.1.1, 160, .inl mr)), (b, .inr (2, [.ref bk, .ref bv, .ref br, .int (nI nb)])), (bk, .inl (g.2.1.1, 160, .inl ck)), (bv, .inl (g.2.1.1, 160, .inl cv)), (br, .inl (g.2.1.1, 160, .inl cr))] := hD
                    refine lv_iinc (v := nI (j + 1)) (lv' := [(4, .int (nI (j + 1))), (5, .int (kcell 160 ck (nI j))), (3, .int (nI i)), (0, .ref h), (1, .ref a), (2, .ref b)]) hx hb dX0_gatherFrom_107 hl (k := 1) rfl (nI_1 j) (by decide) rfl (fun ls hl => ?_)
                    refine lv_goto (tgt := 10) hx hb dX0_gatherFrom_110 (by decide) ?_
                    exact ih10 i (j + 1) (nn + 1) (upd u nn (kcell 160 ck (nI j))) (upd w nn (kcell 160 cv (nI j))) (upd t nn 0) _ _ ls (by omega) hjb (by rw [e_c, e_w]; exact ga_2n hjb hc hrm hg) (by omega) hP hD hS (lv_sub hl [0, 2, 3, 4, 5] rfl)
                · skip
                  have hia : i < na := kl (by omega) (by omega) c_70
                  have e_m2 := kcell_nI mk (show 160 < 2 ^ 31 by decide) (show i < 160 by omega)
                  refine lv_aload_n hx hb dX0_gatherFrom_73 rfl (lv_at hl 4 rfl) ?_
                  refine lv_iload_n hx hb dX0_gatherFrom_74 rfl (lv_at hl 2 rfl) ?_
                  refine kcalli (wc := [(a, .inr (2, [.ref ak, .ref av, .ref ar, .int (nI na)])), (ak, .inl (g.2.1.1, 160, .inl mk)), (av, .inl (g.2.1.1, 160, .inl mv)), (ar, .inl (g.2.1.1, 160, .inl mr))]) [4, 5, 6, 7] (va_runV (C := RX0) (As := [.int (nI i)]) (rest := []) ⟨hx, hb, hml, hown, hts⟩ ((c_X0_key l g a ak av ar na mk mv mr (nI i)) _) (cwV 1 hts gX0_gatherFrom_X0_key rfl rfl rfl (by decide +kernel) ⟨Nat.le_of_ble_eq_true rfl, Nat.le_of_ble_eq_true rfl⟩) (kpreV (wc := [(a, .inr (2, [.ref ak, .ref av, .ref ar, .int (nI na)])), (ak, .inl (g.2.1.1, 160, .inl mk)), (av, .inl (g.2.1.1, 160, .inl mv)), (ar, .inl (g.2.1.1, 160, .inl mr))]) (ci := 2) hK hP hD hS hA hE [4, 5, 6, 7] rfl rfl rfl rfl) rfl rfl hl.1 rfl (lv_room (Nat.le_of_ble_eq_true rfl)) dX0_gatherFrom_75 ⟨Nat.zero_le _, Nat.zero_le _⟩) hP hD hS hA rfl (fun r_19 w_19 H locs hp hP hD hS => ?_)
                  obtain ⟨rfl, rfl⟩ := hp
                  have hP : va_P g.1 vwCl [(h, .inr (2, [.ref hk, .ref hv, .ref hr, .int (nI nn)])), (hk, .inl (g.2.1.1, 160, .inl u)), (hv, .inl (g.2.1.1, 160, .inl w)), (hr, .inl (g.2.1.1, 160, .inl t)), (a, .inr (2, [.ref ak, .ref av, .ref ar, .int (nI na)])), (ak, .inl (g.2.1.1, 160, .inl mk)), (av, .inl (g.2.1.1, 160, .inl mv)), (ar, .inl (g.2.1.1, 160, .inl mr)), (b, .inr (2, [.ref bk, .ref bv, .ref br, .int (nI nb)])), (bk, .inl (g.2.1.1, 160, .inl ck)), (bv, .inl (g.2.1.1, 160, .inl cv)), (br, .inl (g.2.1.1, 160, .inl cr))] H := hP
                  have hD : va_D A [(h, .inr (2, [.ref hk, .ref hv, .ref hr, .int (nI nn)])), (hk, .inl (g.2.1.1, 160, .inl u)), (hv, .inl (g.2.1.1, 160, .inl w)), (hr, .inl (g.2.1.1, 160, .inl t)), (a, .inr (2, [.ref ak, .ref av, .ref ar, .int (nI na)])), (ak, .inl (g.2.1.1, 160, .inl mk)), (av, .inl (g.2.1.1, 160, .inl mv)), (ar, .inl (g.2.1.1, 160, .inl mr)), (b, .inr (2, [.ref bk, .ref bv, .ref br, .int (nI nb)])), (bk, .inl (g.2.1.1, 160, .inl ck)), (bv, .inl (g.2.1.1, 160, .inl cv)), (br, .inl (g.2.1.1, 160, .inl cr))] := hD
                  refine lv_iload hx hb dX0_gatherFrom_78 (lv_at hl 0 rfl) ?_
                  refine lv_icmp_ne (tgt := 86) hx hb dX0_gatherFrom_80 (by decide) (fun c_80 => ?_) (fun c_80 => ?_)
                  · skip
                    rw [e_m2, e_c] at c_80
                    have hc : (i < na ∧ mk i = ck j ∧ i = i + 1) ∨ ((i < na → ¬ mk i < ck j ∧ ¬ mk i = ck j) ∧ i = i) := by first | (exfalso; omega) | exact Or.inr ⟨fun h9 => absurd h9 (by omega), rfl⟩ | exact Or.inr ⟨fun _ => ⟨Int32.not_lt.mpr c_42, c_80⟩, rfl⟩ | exact Or.inl ⟨hia, c_80, rfl⟩
                    have e_b := kcell_nI cr (show 160 < 2 ^ 31 by decide) (show j < 160 by omega)
                    have e_w := kcell_nI cv (show 160 < 2 ^ 31 by decide) (show j < 160 by omega)
                    refine lv_aload_n hx hb dX0_gatherFrom_86 rfl (lv_at hl 5 rfl) ?_
                    refine lv_iload hx hb dX0_gatherFrom_87 (lv_at hl 1 rfl) ?_
                    refine kcalli (wc := [(b, .inr (2, [.ref bk, .ref bv, .ref br, .int (nI nb)])), (bk, .inl (g.2.1.1, 160, .inl ck)), (bv, .inl (g.2.1.1, 160, .inl cv)), (br, .inl (g.2.1.1, 160, .inl cr))]) [8, 9, 10, 11] (va_runV (C := RX0) (As := [.int (nI j)]) (rest := []) ⟨hx, hb, hml, hown, hts⟩ ((c_X0_isRemoval l g b bk bv br nb ck cv cr (nI j)) _) (cwV 1 hts gX0_gatherFrom_X0_isRemoval rfl rfl rfl (by decide +kernel) ⟨Nat.le_of_ble_eq_true rfl, Nat.le_of_ble_eq_true rfl⟩) (kpreV (wc := [(b, .inr (2, [.ref bk, .ref bv, .ref br, .int (nI nb)])), (bk, .inl (g.2.1.1, 160, .inl ck)), (bv, .inl (g.2.1.1, 160, .inl cv)), (br, .inl (g.2.1.1, 160, .inl cr))]) (ci := 2) hK hP hD hS hA hE [8, 9, 10, 11] rfl rfl rfl rfl) rfl rfl hl.1 rfl (lv_room (Nat.le_of_ble_eq_true rfl)) dX0_gatherFrom_89 ⟨Nat.zero_le _, Nat.zero_le _⟩) hP hD hS hA rfl (fun r_20 w_20 H locs hp hP hD hS => ?_)
                    obtain ⟨rfl, rfl⟩ := hp
                    have hP : va_P g.1 vwCl [(h, .inr (2, [.ref hk, .ref hv, .ref hr, .int (nI nn)])), (hk, .inl (g.2.1.1, 160, .inl u)), (hv, .inl (g.2.1.1, 160, .inl w)), (hr, .inl (g.2.1.1, 160, .inl t)), (a, .inr (2, [.ref ak, .ref av, .ref ar, .int (nI na)])), (ak, .inl (g.2.1.1, 160, .inl mk)), (av, .inl (g.2.1.1, 160, .inl mv)), (ar, .inl (g.2.1.1, 160, .inl mr)), (b, .inr (2, [.ref bk, .ref bv, .ref br, .int (nI nb)])), (bk, .inl (g.2.1.1, 160, .inl ck)), (bv, .inl (g.2.1.1, 160, .inl cv)), (br, .inl (g.2.1.1, 160, .inl cr))] H := hP
                    have hD : va_D A [(h, .inr (2, [.ref hk, .ref hv, .ref hr, .int (nI nn)])), (hk, .inl (g.2.1.1, 160, .inl u)), (hv, .inl (g.2.1.1, 160, .inl w)), (hr, .inl (g.2.1.1, 160, .inl t)), (a, .inr (2, [.ref ak, .ref av, .ref ar, .int (nI na)])), (ak, .inl (g.2.1.1, 160, .inl mk)), (av, .inl (g.2.1.1, 160, .inl mv)), (ar, .inl (g.2.1.1, 160, .inl mr)), (b, .inr (2, [.ref bk, .ref bv, .ref br, .int (nI nb)])), (bk, .inl (g.2.1.1, 160, .inl ck)), (bv, .inl (g.2.1.1, 160, .inl cv)), (br, .inl (g.2.1.1, 160, .inl cr))] := hD
                    refine lv_if_ne (tgt := 107) hx hb dX0_gatherFrom_92 (by decide) (fun c_92 => ?_) (fun c_92 => ?_)
                    · skip
                      have hrm : cr j = 1 := by rw [e_b] at c_92; exact Decidable.byContradiction (fun z => c_92 (by rw [kis1, if_neg z]))
                      refine lv_iinc (v := nI (j + 1)) (lv' := [(4, .int (nI (j + 1))), (5, .int (kcell 160 ck (nI j))), (3, .int (nI i)), (0, .ref h), (1, .ref a), (2, .ref b)]) hx hb dX0_gatherFrom_107 hl (k := 1) rfl (nI_1 j) (by decide) rfl (fun ls hl => ?_)
                      refine lv_goto (tgt := 10) hx hb dX0_gatherFrom_110 (by decide) ?_
                      exact ih10 i (j + 1) nn u w t _ _ ls (by omega) hjb (ga_2r hjb hc hrm hg) (by omega) hP hD hS (lv_sub hl [0, 2, 3, 4, 5] rfl)
                    · skip
                      have hrm : ¬ cr j = 1 := fun z => absurd c_92 (by rw [e_b, kis1, if_pos z]; decide)
                      refine lv_aload_n hx hb dX0_gatherFrom_95 rfl (lv_at hl 3 rfl) ?_
                      refine lv_iload hx hb dX0_gatherFrom_96 (lv_at hl 0 rfl) ?_
                      refine lv_aload_n hx hb dX0_gatherFrom_98 rfl (lv_at hl 5 rfl) ?_
                      refine lv_iload hx hb dX0_gatherFrom_99 (lv_at hl 1 rfl) ?_
                      refine kcalli (wc := [(b, .inr (2, [.ref bk, .ref bv, .ref br, .int (nI nb)])), (bk, .inl (g.2.1.1, 160, .inl ck)), (bv, .inl (g.2.1.1, 160, .inl cv)), (br, .inl (g.2.1.1, 160, .inl cr))]) [8, 9, 10, 11] (va_runV (C := RX0) (As := [.int (nI j)]) (rest := [.int (kcell 160 ck (nI j)), .ref h]) ⟨hx, hb, hml, hown, hts⟩ ((c_X0_value l g b bk bv br nb ck cv cr (nI j)) _) (cwV 1 hts gX0_gatherFrom_X0_value rfl rfl rfl (by decide +kernel) ⟨Nat.le_of_ble_eq_true rfl, Nat.le_of_ble_eq_true rfl⟩) (kpreV (wc := [(b, .inr (2, [.ref bk, .ref bv, .ref br, .int (nI nb)])), (bk, .inl (g.2.1.1, 160, .inl ck)), (bv, .inl (g.2.1.1, 160, .inl cv)), (br, .inl (g.2.1.1, 160, .inl cr))]) (ci := 2) hK hP hD hS hA hE [8, 9, 10, 11] rfl rfl rfl rfl) rfl rfl hl.1 rfl (lv_room (Nat.le_of_ble_eq_true rfl)) dX0_gatherFrom_101 ⟨Nat.zero_le _, Nat.zero_le _⟩) hP hD hS hA rfl (fun r_21 w_21 H locs hp hP hD hS => ?_)
                      obtain ⟨rfl, rfl⟩ := hp
                      have hP : va_P g.1 vwCl [(h, .inr (2, [.ref hk, .ref hv, .ref hr, .int (nI nn)])), (hk, .inl (g.2.1.1, 160, .inl u)), (hv, .inl (g.2.1.1, 160, .inl w)), (hr, .inl (g.2.1.1, 160, .inl t)), (a, .inr (2, [.ref ak, .ref av, .ref ar, .int (nI na)])), (ak, .inl (g.2.1.1, 160, .inl mk)), (av, .inl (g.2.1.1, 160, .inl mv)), (ar, .inl (g.2.1.1, 160, .inl mr)), (b, .inr (2, [.ref bk, .ref bv, .ref br, .int (nI nb)])), (bk, .inl (g.2.1.1, 160, .inl ck)), (bv, .inl (g.2.1.1, 160, .inl cv)), (br, .inl (g.2.1.1, 160, .inl cr))] H := hP
                      have hD : va_D A [(h, .inr (2, [.ref hk, .ref hv, .ref hr, .int (nI nn)])), (hk, .inl (g.2.1.1, 160, .inl u)), (hv, .inl (g.2.1.1, 160, .inl w)), (hr, .inl (g.2.1.1, 160, .inl t)), (a, .inr (2, [.ref ak, .ref av, .ref ar, .int (nI na)])), (ak, .inl (g.2.1.1, 160, .inl mk)), (av, .inl (g.2.1.1, 160, .inl mv)), (ar, .inl (g.2.1.1, 160, .inl mr)), (b, .inr (2, [.ref bk, .ref bv, .ref br, .int (nI nb)])), (bk, .inl (g.2.1.1, 160, .inl ck)), (bv, .inl (g.2.1.1, 160, .inl cv)), (br, .inl (g.2.1.1, 160, .inl cr))] := hD
                      refine kcallv (wc := [(h, .inr (2, [.ref hk, .ref hv, .ref hr, .int (nI nn)])), (hk, .inl (g.2.1.1, 160, .inl u)), (hv, .inl (g.2.1.1, 160, .inl w)), (hr, .inl (g.2.1.1, 160, .inl t))]) [0, 1, 2, 3] (va_runV (C := RX0) (As := [.int (kcell 160 ck (nI j)), .int (kcell 160 cv (nI j))]) (rest := []) ⟨hx, hb, hml, hown, hts⟩ ((c_X0_append l g h hk hv hr nn u w t (kcell 160 ck (nI j)) (kcell 160 cv (nI j)) (ga_2nr hjb hc hrm hg hG)) _) (cwV 2 hts gX0_gatherFrom_X0_append rfl rfl rfl (by decide +kernel) ⟨Nat.le_of_ble_eq_true rfl, Nat.le_of_ble_eq_true rfl⟩) (kpreV (wc := [(h, .inr (2, [.ref hk, .ref hv, .ref hr, .int (nI nn)])), (hk, .inl (g.2.1.1, 160, .inl u)), (hv, .inl (g.2.1.1, 160, .inl w)), (hr, .inl (g.2.1.1, 160, .inl t))]) (ci := 2) hK hP hD hS hA hE [0, 1, 2, 3] rfl rfl rfl rfl) rfl rfl hl.1 rfl (lv_room (Nat.le_of_ble_eq_true rfl)) dX0_gatherFrom_104 ⟨Nat.zero_le _, Nat.zero_le _⟩) hP hD hS hA rfl (fun w_22 H locs hp hP hD hS => ?_)
                      obtain rfl := hp
                      have hP : va_P g.1 vwCl [(h, .inr (2, [.ref hk, .ref hv, .ref hr, .int (nI (nn + 1))])), (hk, .inl (g.2.1.1, 160, .inl (upd u nn (kcell 160 ck (nI j))))), (hv, .inl (g.2.1.1, 160, .inl (upd w nn (kcell 160 cv (nI j))))), (hr, .inl (g.2.1.1, 160, .inl (upd t nn 0))), (a, .inr (2, [.ref ak, .ref av, .ref ar, .int (nI na)])), (ak, .inl (g.2.1.1, 160, .inl mk)), (av, .inl (g.2.1.1, 160, .inl mv)), (ar, .inl (g.2.1.1, 160, .inl mr)), (b, .inr (2, [.ref bk, .ref bv, .ref br, .int (nI nb)])), (bk, .inl (g.2.1.1, 160, .inl ck)), (bv, .inl (g.2.1.1, 160, .inl cv)), (br, .inl (g.2.1.1, 160, .inl cr))] H := hP
                      have hD : va_D A [(h, .inr (2, [.ref hk, .ref hv, .ref hr, .int (nI (nn + 1))])), (hk, .inl (g.2.1.1, 160, .inl (upd u nn (kcell 160 ck (nI j))))), (hv, .inl (g.2.1.1, 160, .inl (upd w nn (kcell 160 cv (nI j))))), (hr, .inl (g.2.1.1, 160, .inl (upd t nn 0))), (a, .inr (2, [.ref ak, .ref av, .ref ar, .int (nI na)])), (ak, .inl (g.2.1.1, 160, .inl mk)), (av, .inl (g.2.1.1, 160, .inl mv)), (ar, .inl (g.2.1.1, 160, .inl mr)), (b, .inr (2, [.ref bk, .ref bv, .ref br, .int (nI nb)])), (bk, .inl (g.2.1.1, 160, .inl ck)), (bv, .inl (g.2.1.1, 160, .inl cv)), (br, .inl (g.2.1.1, 160, .inl cr))] := hD
                      refine lv_iinc (v := nI (j + 1)) (lv' := [(4, .int (nI (j + 1))), (5, .int (kcell 160 ck (nI j))), (3, .int (nI i)), (0, .ref h), (1, .ref a), (2, .ref b)]) hx hb dX0_gatherFrom_107 hl (k := 1) rfl (nI_1 j) (by decide) rfl (fun ls hl => ?_)
                      refine lv_goto (tgt := 10) hx hb dX0_gatherFrom_110 (by decide) ?_
                      exact ih10 i (j + 1) (nn + 1) (upd u nn (kcell 160 ck (nI j))) (upd w nn (kcell 160 cv (nI j))) (upd t nn 0) _ _ ls (by omega) hjb (by rw [e_c, e_w]; exact ga_2n hjb hc hrm hg) (by omega) hP hD hS (lv_sub hl [0, 2, 3, 4, 5] rfl)
                  · skip
                    rw [e_m2, e_c] at c_80
                    refine lv_iinc (v := nI (i + 1)) (lv' := [(3, .int (nI (i + 1))), (5, .int (kcell 160 ck (nI j))), (4, .int (nI j)), (0, .ref h), (1, .ref a), (2, .ref b)]) hx hb dX0_gatherFrom_83 hl (k := 2) rfl (nI_1 i) (by decide) rfl (fun ls hl => ?_)
                    have hc : (i < na ∧ mk i = ck j ∧ (i + 1) = i + 1) ∨ ((i < na → ¬ mk i < ck j ∧ ¬ mk i = ck j) ∧ (i + 1) = i) := by first | (exfalso; omega) | exact Or.inr ⟨fun h9 => absurd h9 (by omega), rfl⟩ | exact Or.inr ⟨fun _ => ⟨Int32.not_lt.mpr c_42, c_80⟩, rfl⟩ | exact Or.inl ⟨hia, c_80, rfl⟩
                    have e_b := kcell_nI cr (show 160 < 2 ^ 31 by decide) (show j < 160 by omega)
                    have e_w := kcell_nI cv (show 160 < 2 ^ 31 by decide) (show j < 160 by omega)
                    refine lv_aload_n hx hb dX0_gatherFrom_86 rfl (lv_at hl 5 rfl) ?_
                    refine lv_iload hx hb dX0_gatherFrom_87 (lv_at hl 2 rfl) ?_
                    refine kcalli (wc := [(b, .inr (2, [.ref bk, .ref bv, .ref br, .int (nI nb)])), (bk, .inl (g.2.1.1, 160, .inl ck)), (bv, .inl (g.2.1.1, 160, .inl cv)), (br, .inl (g.2.1.1, 160, .inl cr))]) [8, 9, 10, 11] (va_runV (C := RX0) (As := [.int (nI j)]) (rest := []) ⟨hx, hb, hml, hown, hts⟩ ((c_X0_isRemoval l g b bk bv br nb ck cv cr (nI j)) _) (cwV 1 hts gX0_gatherFrom_X0_isRemoval rfl rfl rfl (by decide +kernel) ⟨Nat.le_of_ble_eq_true rfl, Nat.le_of_ble_eq_true rfl⟩) (kpreV (wc := [(b, .inr (2, [.ref bk, .ref bv, .ref br, .int (nI nb)])), (bk, .inl (g.2.1.1, 160, .inl ck)), (bv, .inl (g.2.1.1, 160, .inl cv)), (br, .inl (g.2.1.1, 160, .inl cr))]) (ci := 2) hK hP hD hS hA hE [8, 9, 10, 11] rfl rfl rfl rfl) rfl rfl hl.1 rfl (lv_room (Nat.le_of_ble_eq_true rfl)) dX0_gatherFrom_89 ⟨Nat.zero_le _, Nat.zero_le _⟩) hP hD hS hA rfl (fun r_23 w_23 H locs hp hP hD hS => ?_)
                    obtain ⟨rfl, rfl⟩ := hp
                    have hP : va_P g.1 vwCl [(h, .inr (2, [.ref hk, .ref hv, .ref hr, .int (nI nn)])), (hk, .inl (g.2.1.1, 160, .inl u)), (hv, .inl (g.2.1.1, 160, .inl w)), (hr, .inl (g.2.1.1, 160, .inl t)), (a, .inr (2, [.ref ak, .ref av, .ref ar, .int (nI na)])), (ak, .inl (g.2.1.1, 160, .inl mk)), (av, .inl (g.2.1.1, 160, .inl mv)), (ar, .inl (g.2.1.1, 160, .inl mr)), (b, .inr (2, [.ref bk, .ref bv, .ref br, .int (nI nb)])), (bk, .inl (g.2.1.1, 160, .inl ck)), (bv, .inl (g.2.1.1, 160, .inl cv)), (br, .inl (g.2.1.1, 160, .inl cr))] H := hP
                    have hD : va_D A [(h, .inr (2, [.ref hk, .ref hv, .ref hr, .int (nI nn)])), (hk, .inl (g.2.1.1, 160, .inl u)), (hv, .inl (g.2.1.1, 160, .inl w)), (hr, .inl (g.2.1.1, 160, .inl t)), (a, .inr (2, [.ref ak, .ref av, .ref ar, .int (nI na)])), (ak, .inl (g.2.1.1, 160, .inl mk)), (av, .inl (g.2.1.1, 160, .inl mv)), (ar, .inl (g.2.1.1, 160, .inl mr)), (b, .inr (2, [.ref bk, .ref bv, .ref br, .int (nI nb)])), (bk, .inl (g.2.1.1, 160, .inl ck)), (bv, .inl (g.2.1.1, 160, .inl cv)), (br, .inl (g.2.1.1, 160, .inl cr))] := hD
                    refine lv_if_ne (tgt := 107) hx hb dX0_gatherFrom_92 (by decide) (fun c_92 => ?_) (fun c_92 => ?_)
                    · skip
                      have hrm : cr j = 1 := by rw [e_b] at c_92; exact Decidable.byContradiction (fun z => c_92 (by rw [kis1, if_neg z]))
                      refine lv_iinc (v := nI (j + 1)) (lv' := [(4, .int (nI (j + 1))), (3, .int (nI (i + 1))), (5, .int (kcell 160 ck (nI j))), (0, .ref h), (1, .ref a), (2, .ref b)]) hx hb dX0_gatherFrom_107 hl (k := 2) rfl (nI_1 j) (by decide) rfl (fun ls hl => ?_)
                      refine lv_goto (tgt := 10) hx hb dX0_gatherFrom_110 (by decide) ?_
                      exact ih10 (i + 1) (j + 1) nn u w t _ _ ls (by omega) hjb (ga_2r hjb hc hrm hg) (by omega) hP hD hS (lv_sub hl [0, 1, 3, 4, 5] rfl)
                    · skip
                      have hrm : ¬ cr j = 1 := fun z => absurd c_92 (by rw [e_b, kis1, if_pos z]; decide)
                      refine lv_aload_n hx hb dX0_gatherFrom_95 rfl (lv_at hl 3 rfl) ?_
                      refine lv_iload hx hb dX0_gatherFrom_96 (lv_at hl 1 rfl) ?_
                      refine lv_aload_n hx hb dX0_gatherFrom_98 rfl (lv_at hl 5 rfl) ?_
                      refine lv_iload hx hb dX0_gatherFrom_99 (lv_at hl 2 rfl) ?_
                      refine kcalli (wc := [(b, .inr (2, [.ref bk, .ref bv, .ref br, .int (nI nb)])), (bk, .inl (g.2.1.1, 160, .inl ck)), (bv, .inl (g.2.1.1, 160, .inl cv)), (br, .inl (g.2.1.1, 160, .inl cr))]) [8, 9, 10, 11] (va_runV (C := RX0) (As := [.int (nI j)]) (rest := [.int (kcell 160 ck (nI j)), .ref h]) ⟨hx, hb, hml, hown, hts⟩ ((c_X0_value l g b bk bv br nb ck cv cr (nI j)) _) (cwV 1 hts gX0_gatherFrom_X0_value rfl rfl rfl (by decide +kernel) ⟨Nat.le_of_ble_eq_true rfl, Nat.le_of_ble_eq_true rfl⟩) (kpreV (wc := [(b, .inr (2, [.ref bk, .ref bv, .ref br, .int (nI nb)])), (bk, .inl (g.2.1.1, 160, .inl ck)), (bv, .inl (g.2.1.1, 160, .inl cv)), (br, .inl (g.2.1.1, 160, .inl cr))]) (ci := 2) hK hP hD hS hA hE [8, 9, 10, 11] rfl rfl rfl rfl) rfl rfl hl.1 rfl (lv_room (Nat.le_of_ble_eq_true rfl)) dX0_gatherFrom_101 ⟨Nat.zero_le _, Nat.zero_le _⟩) hP hD hS hA rfl (fun r_24 w_24 H locs hp hP hD hS => ?_)
                      obtain ⟨rfl, rfl⟩ := hp
                      have hP : va_P g.1 vwCl [(h, .inr (2, [.ref hk, .ref hv, .ref hr, .int (nI nn)])), (hk, .inl (g.2.1.1, 160, .inl u)), (hv, .inl (g.2.1.1, 160, .inl w)), (hr, .inl (g.2.1.1, 160, .inl t)), (a, .inr (2, [.ref ak, .ref av, .ref ar, .int (nI na)])), (ak, .inl (g.2.1.1, 160, .inl mk)), (av, .inl (g.2.1.1, 160, .inl mv)), (ar, .inl (g.2.1.1, 160, .inl mr)), (b, .inr (2, [.ref bk, .ref bv, .ref br, .int (nI nb)])), (bk, .inl (g.2.1.1, 160, .inl ck)), (bv, .inl (g.2.1.1, 160, .inl cv)), (br, .inl (g.2.1.1, 160, .inl cr))] H := hP
                      have hD : va_D A [(h, .inr (2, [.ref hk, .ref hv, .ref hr, .int (nI nn)])), (hk, .inl (g.2.1.1, 160, .inl u)), (hv, .inl (g.2.1.1, 160, .inl w)), (hr, .inl (g.2.1.1, 160, .inl t)), (a, .inr (2, [.ref ak, .ref av, .ref ar, .int (nI na)])), (ak, .inl (g.2.1.1, 160, .inl mk)), (av, .inl (g.2.1.1, 160, .inl mv)), (ar, .inl (g.2.1.1, 160, .inl mr)), (b, .inr (2, [.ref bk, .ref bv, .ref br, .int (nI nb)])), (bk, .inl (g.2.1.1, 160, .inl ck)), (bv, .inl (g.2.1.1, 160, .inl cv)), (br, .inl (g.2.1.1, 160, .inl cr))] := hD
                      refine kcallv (wc := [(h, .inr (2, [.ref hk, .ref hv, .ref hr, .int (nI nn)])), (hk, .inl (g.2.1.1, 160, .inl u)), (hv, .inl (g.2.1.1, 160, .inl w)), (hr, .inl (g.2.1.1, 160, .inl t))]) [0, 1, 2, 3] (va_runV (C := RX0) (As := [.int (kcell 160 ck (nI j)), .int (kcell 160 cv (nI j))]) (rest := []) ⟨hx, hb, hml, hown, hts⟩ ((c_X0_append l g h hk hv hr nn u w t (kcell 160 ck (nI j)) (kcell 160 cv (nI j)) (ga_2nr hjb hc hrm hg hG)) _) (cwV 2 hts gX0_gatherFrom_X0_append rfl rfl rfl (by decide +kernel) ⟨Nat.le_of_ble_eq_true rfl, Nat.le_of_ble_eq_true rfl⟩) (kpreV (wc := [(h, .inr (2, [.ref hk, .ref hv, .ref hr, .int (nI nn)])), (hk, .inl (g.2.1.1, 160, .inl u)), (hv, .inl (g.2.1.1, 160, .inl w)), (hr, .inl (g.2.1.1, 160, .inl t))]) (ci := 2) hK hP hD hS hA hE [0, 1, 2, 3] rfl rfl rfl rfl) rfl rfl hl.1 rfl (lv_room (Nat.le_of_ble_eq_true rfl)) dX0_gatherFrom_104 ⟨Nat.zero_le _, Nat.zero_le _⟩) hP hD hS hA rfl (fun w_25 H locs hp hP hD hS => ?_)
                      obtain rfl := hp
                      have hP : va_P g.1 vwCl [(h, .inr (2, [.ref hk, .ref hv, .ref hr, .int (nI (nn + 1))])), (hk, .inl (g.2.1.1, 160, .inl (upd u nn (kcell 160 ck (nI j))))), (hv, .inl (g.2.1.1, 160, .inl (upd w nn (kcell 160 cv (nI j))))), (hr, .inl (g.2.1.1, 160, .inl (upd t nn 0))), (a, .inr (2, [.ref ak, .ref av, .ref ar, .int (nI na)])), (ak, .inl (g.2.1.1, 160, .inl mk)), (av, .inl (g.2.1.1, 160, .inl mv)), (ar, .inl (g.2.1.1, 160, .inl mr)), (b, .inr (2, [.ref bk, .ref bv, .ref br, .int (nI nb)])), (bk, .inl (g.2.1.1, 160, .inl ck)), (bv, .inl (g.2.1.1, 160, .inl cv)), (br, .inl (g.2.1.1, 160, .inl cr))] H := hP
                      have hD : va_D A [(h, .inr (2, [.ref hk, .ref hv, .ref hr, .int (nI (nn + 1))])), (hk, .inl (g.2.1.1, 160, .inl (upd u nn (kcell 160 ck (nI j))))), (hv, .inl (g.2.1.1, 160, .inl (upd w nn (kcell 160 cv (nI j))))), (hr, .inl (g.2.1.1, 160, .inl (upd t nn 0))), (a, .inr (2, [.ref ak, .ref av, .ref ar, .int (nI na)])), (ak, .inl (g.2.1.1, 160, .inl mk)), (av, .inl (g.2.1.1, 160, .inl mv)), (ar, .inl (g.2.1.1, 160, .inl mr)), (b, .inr (2, [.ref bk, .ref bv, .ref br, .int (nI nb)])), (bk, .inl (g.2.1.1, 160, .inl ck)), (bv, .inl (g.2.1.1, 160, .inl cv)), (br, .inl (g.2.1.1, 160, .inl cr))] := hD
                      refine lv_iinc (v := nI (j + 1)) (lv' := [(4, .int (nI (j + 1))), (3, .int (nI (i + 1))), (5, .int (kcell 160 ck (nI j))), (0, .ref h), (1, .ref a), (2, .ref b)]) hx hb dX0_gatherFrom_107 hl (k := 2) rfl (nI_1 j) (by decide) rfl (fun ls hl => ?_)
                      refine lv_goto (tgt := 10) hx hb dX0_gatherFrom_110 (by decide) ?_
                      exact ih10 (i + 1) (j + 1) (nn + 1) (upd u nn (kcell 160 ck (nI j))) (upd w nn (kcell 160 cv (nI j))) (upd t nn 0) _ _ ls (by omega) hjb (by rw [e_c, e_w]; exact ga_2n hjb hc hrm hg) (by omega) hP hD hS (lv_sub hl [0, 1, 3, 4, 5] rfl)
              · skip
                rw [e_m, e_c] at c_42
                have hlt : mk i < ck j := Int32.not_le.mp c_42
                refine lv_aload_n hx hb dX0_gatherFrom_45 rfl (lv_at hl 3 rfl) ?_
                refine lv_aload_n hx hb dX0_gatherFrom_46 rfl (lv_at hl 4 rfl) ?_
                refine lv_iload_n hx hb dX0_gatherFrom_47 rfl (lv_at hl 2 rfl) ?_
                refine kcalli (wc := [(a, .inr (2, [.ref ak, .ref av, .ref ar, .int (nI na)])), (ak, .inl (g.2.1.1, 160, .inl mk)), (av, .inl (g.2.1.1, 160, .inl mv)), (ar, .inl (g.2.1.1, 160, .inl mr))]) [4, 5, 6, 7] (va_runV (C := RX0) (As := [.int (nI i)]) (rest := [.ref h]) ⟨hx, hb, hml, hown, hts⟩ ((c_X0_key l g a ak av ar na mk mv mr (nI i)) _) (cwV 1 hts gX0_gatherFrom_X0_key rfl rfl rfl (by decide +kernel) ⟨Nat.le_of_ble_eq_true rfl, Nat.le_of_ble_eq_true rfl⟩) (kpreV (wc := [(a, .inr (2, [.ref ak, .ref av, .ref ar, .int (nI na)])), (ak, .inl (g.2.1.1, 160, .inl mk)), (av, .inl (g.2.1.1, 160, .inl mv)), (ar, .inl (g.2.1.1, 160, .inl mr))]) (ci := 2) hK hP hD hS hA hE [4, 5, 6, 7] rfl rfl rfl rfl) rfl rfl hl.1 rfl (lv_room (Nat.le_of_ble_eq_true rfl)) dX0_gatherFrom_48 ⟨Nat.zero_le _, Nat.zero_le _⟩) hP hD hS hA rfl (fun r_26 w_26 H locs hp hP hD hS => ?_)
                obtain ⟨rfl, rfl⟩ := hp
                have hP : va_P g.1 vwCl [(h, .inr (2, [.ref hk, .ref hv, .ref hr, .int (nI nn)])), (hk, .inl (g.2.1.1, 160, .inl u)), (hv, .inl (g.2.1.1, 160, .inl w)), (hr, .inl (g.2.1.1, 160, .inl t)), (a, .inr (2, [.ref ak, .ref av, .ref ar, .int (nI na)])), (ak, .inl (g.2.1.1, 160, .inl mk)), (av, .inl (g.2.1.1, 160, .inl mv)), (ar, .inl (g.2.1.1, 160, .inl mr)), (b, .inr (2, [.ref bk, .ref bv, .ref br, .int (nI nb)])), (bk, .inl (g.2.1.1, 160, .inl ck)), (bv, .inl (g.2.1.1, 160, .inl cv)), (br, .inl (g.2.1.1, 160, .inl cr))] H := hP
                have hD : va_D A [(h, .inr (2, [.ref hk, .ref hv, .ref hr, .int (nI nn)])), (hk, .inl (g.2.1.1, 160, .inl u)), (hv, .inl (g.2.1.1, 160, .inl w)), (hr, .inl (g.2.1.1, 160, .inl t)), (a, .inr (2, [.ref ak, .ref av, .ref ar, .int (nI na)])), (ak, .inl (g.2.1.1, 160, .inl mk)), (av, .inl (g.2.1.1, 160, .inl mv)), (ar, .inl (g.2.1.1, 160, .inl mr)), (b, .inr (2, [.ref bk, .ref bv, .ref br, .int (nI nb)])), (bk, .inl (g.2.1.1, 160, .inl ck)), (bv, .inl (g.2.1.1, 160, .inl cv)), (br, .inl (g.2.1.1, 160, .inl cr))] := hD
                refine lv_aload_n hx hb dX0_gatherFrom_51 rfl (lv_at hl 4 rfl) ?_
                refine lv_iload_n hx hb dX0_gatherFrom_52 rfl (lv_at hl 2 rfl) ?_
                refine kcalli (wc := [(a, .inr (2, [.ref ak, .ref av, .ref ar, .int (nI na)])), (ak, .inl (g.2.1.1, 160, .inl mk)), (av, .inl (g.2.1.1, 160, .inl mv)), (ar, .inl (g.2.1.1, 160, .inl mr))]) [4, 5, 6, 7] (va_runV (C := RX0) (As := [.int (nI i)]) (rest := [.int (kcell 160 mk (nI i)), .ref h]) ⟨hx, hb, hml, hown, hts⟩ ((c_X0_value l g a ak av ar na mk mv mr (nI i)) _) (cwV 1 hts gX0_gatherFrom_X0_value rfl rfl rfl (by decide +kernel) ⟨Nat.le_of_ble_eq_true rfl, Nat.le_of_ble_eq_true rfl⟩) (kpreV (wc := [(a, .inr (2, [.ref ak, .ref av, .ref ar, .int (nI na)])), (ak, .inl (g.2.1.1, 160, .inl mk)), (av, .inl (g.2.1.1, 160, .inl mv)), (ar, .inl (g.2.1.1, 160, .inl mr))]) (ci := 2) hK hP hD hS hA hE [4, 5, 6, 7] rfl rfl rfl rfl) rfl rfl hl.1 rfl (lv_room (Nat.le_of_ble_eq_true rfl)) dX0_gatherFrom_53 ⟨Nat.zero_le _, Nat.zero_le _⟩) hP hD hS hA rfl (fun r_27 w_27 H locs hp hP hD hS => ?_)
                obtain ⟨rfl, rfl⟩ := hp
                have hP : va_P g.1 vwCl [(h, .inr (2, [.ref hk, .ref hv, .ref hr, .int (nI nn)])), (hk, .inl (g.2.1.1, 160, .inl u)), (hv, .inl (g.2.1.1, 160, .inl w)), (hr, .inl (g.2.1.1, 160, .inl t)), (a, .inr (2, [.ref ak, .ref av, .ref ar, .int (nI na)])), (ak, .inl (g.2.1.1, 160, .inl mk)), (av, .inl (g.2.1.1, 160, .inl mv)), (ar, .inl (g.2.1.1, 160, .inl mr)), (b, .inr (2, [.ref bk, .ref bv, .ref br, .int (nI nb)])), (bk, .inl (g.2.1.1, 160, .inl ck)), (bv, .inl (g.2.1.1, 160, .inl cv)), (br, .inl (g.2.1.1, 160, .inl cr))] H := hP
                have hD : va_D A [(h, .inr (2, [.ref hk, .ref hv, .ref hr, .int (nI nn)])), (hk, .inl (g.2.1.1, 160, .inl u)), (hv, .inl (g.2.1.1, 160, .inl w)), (hr, .inl (g.2.1.1, 160, .inl t)), (a, .inr (2, [.ref ak, .ref av, .ref ar, .int (nI na)])), (ak, .inl (g.2.1.1, 160, .inl mk)), (av, .inl (g.2.1.1, 160, .inl mv)), (ar, .inl (g.2.1.1, 160, .inl mr)), (b, .inr (2, [.ref bk, .ref bv, .ref br, .int (nI nb)])), (bk, .inl (g.2.1.1, 160, .inl ck)), (bv, .inl (g.2.1.1, 160, .inl cv)), (br, .inl (g.2.1.1, 160, .inl cr))] := hD
                refine kcallv (wc := [(h, .inr (2, [.ref hk, .ref hv, .ref hr, .int (nI nn)])), (hk, .inl (g.2.1.1, 160, .inl u)), (hv, .inl (g.2.1.1, 160, .inl w)), (hr, .inl (g.2.1.1, 160, .inl t))]) [0, 1, 2, 3] (va_runV (C := RX0) (As := [.int (kcell 160 mk (nI i)), .int (kcell 160 mv (nI i))]) (rest := []) ⟨hx, hb, hml, hown, hts⟩ ((c_X0_append l g h hk hv hr nn u w t (kcell 160 mk (nI i)) (kcell 160 mv (nI i)) (ga_1r hia hjb hlt hg hG)) _) (cwV 2 hts gX0_gatherFrom_X0_append rfl rfl rfl (by decide +kernel) ⟨Nat.le_of_ble_eq_true rfl, Nat.le_of_ble_eq_true rfl⟩) (kpreV (wc := [(h, .inr (2, [.ref hk, .ref hv, .ref hr, .int (nI nn)])), (hk, .inl (g.2.1.1, 160, .inl u)), (hv, .inl (g.2.1.1, 160, .inl w)), (hr, .inl (g.2.1.1, 160, .inl t))]) (ci := 2) hK hP hD hS hA hE [0, 1, 2, 3] rfl rfl rfl rfl) rfl rfl hl.1 rfl (lv_room (Nat.le_of_ble_eq_true rfl)) dX0_gatherFrom_56 ⟨Nat.zero_le _, Nat.zero_le _⟩) hP hD hS hA rfl (fun w_28 H locs hp hP hD hS => ?_)
                obtain rfl := hp
                have hP : va_P g.1 vwCl [(h, .inr (2, [.ref hk, .ref hv, .ref hr, .int (nI (nn + 1))])), (hk, .inl (g.2.1.1, 160, .inl (upd u nn (kcell 160 mk (nI i))))), (hv, .inl (g.2.1.1, 160, .inl (upd w nn (kcell 160 mv (nI i))))), (hr, .inl (g.2.1.1, 160, .inl (upd t nn 0))), (a, .inr (2, [.ref ak, .ref av, .ref ar, .int (nI na)])), (ak, .inl (g.2.1.1, 160, .inl mk)), (av, .inl (g.2.1.1, 160, .inl mv)), (ar, .inl (g.2.1.1, 160, .inl mr)), (b, .inr (2, [.ref bk, .ref bv, .ref br, .int (nI nb)])), (bk, .inl (g.2.1.1, 160, .inl ck)), (bv, .inl (g.2.1.1, 160, .inl cv)), (br, .inl (g.2.1.1, 160, .inl cr))] H := hP
                have hD : va_D A [(h, .inr (2, [.ref hk, .ref hv, .ref hr, .int (nI (nn + 1))])), (hk, .inl (g.2.1.1, 160, .inl (upd u nn (kcell 160 mk (nI i))))), (hv, .inl (g.2.1.1, 160, .inl (upd w nn (kcell 160 mv (nI i))))), (hr, .inl (g.2.1.1, 160, .inl (upd t nn 0))), (a, .inr (2, [.ref ak, .ref av, .ref ar, .int (nI na)])), (ak, .inl (g.2.1.1, 160, .inl mk)), (av, .inl (g.2.1.1, 160, .inl mv)), (ar, .inl (g.2.1.1, 160, .inl mr)), (b, .inr (2, [.ref bk, .ref bv, .ref br, .int (nI nb)])), (bk, .inl (g.2.1.1, 160, .inl ck)), (bv, .inl (g.2.1.1, 160, .inl cv)), (br, .inl (g.2.1.1, 160, .inl cr))] := hD
                refine lv_iinc (v := nI (i + 1)) (lv' := [(3, .int (nI (i + 1))), (5, .int (kcell 160 ck (nI j))), (4, .int (nI j)), (0, .ref h), (1, .ref a), (2, .ref b)]) hx hb dX0_gatherFrom_59 hl (k := 2) rfl (nI_1 i) (by decide) rfl (fun ls hl => ?_)
                refine lv_goto (tgt := 27) hx hb dX0_gatherFrom_62 (by decide) ?_
                exact ih27 (i + 1) (nn + 1) (upd u nn (kcell 160 mk (nI i))) (upd w nn (kcell 160 mv (nI i))) (upd t nn 0) _ _ ls hia (by rw [e_m, e_v]; exact ga_1 hia hjb hlt hg) (by omega) hP hD hS (lv_sub hl [1, 2, 0, 3, 4, 5] rfl)
        exact L27 _ i nn u w t _ _ ls hi hg (Nat.lt_succ_self _) hP hD hS (lv_sub hl [0, 1, 2, 3, 4, 5] rfl)
  exact L10 _ 0 0 0 fk fv fr _ _ ls (Nat.zero_le _) (Nat.zero_le _) rfl (Nat.lt_succ_self _) hP hD hS (lv_sub hl [0, 1, 2, 3, 4] rfl)
