/-! ===== cell, store, copyRow ===== -/
theorem dX6_cell_0 : decode cX6_cell 0 = .ok (.iload_n 1, 1) := by decide +kernel
theorem dX6_cell_1 : decode cX6_cell 1 = .ok (.ifCond .lt 15, 3) := by decide +kernel
theorem dX6_cell_4 : decode cX6_cell 4 = .ok (.iload_n 1, 1) := by decide +kernel
theorem dX6_cell_5 : decode cX6_cell 5 = .ok (.aload_n 0, 1) := by decide +kernel
theorem dX6_cell_6 : decode cX6_cell 6 = .ok (.arraylength, 1) := by decide +kernel
theorem dX6_cell_7 : decode cX6_cell 7 = .ok (.if_icmp .ge 9, 3) := by decide +kernel
theorem dX6_cell_10 : decode cX6_cell 10 = .ok (.aload_n 0, 1) := by decide +kernel
theorem dX6_cell_11 : decode cX6_cell 11 = .ok (.iload_n 1, 1) := by decide +kernel
theorem dX6_cell_12 : decode cX6_cell 12 = .ok (.iaload, 1) := by decide +kernel
theorem dX6_cell_13 : decode cX6_cell 13 = .ok (.goto 4, 3) := by decide +kernel
theorem dX6_cell_16 : decode cX6_cell 16 = .ok (.iconst 0, 1) := by decide +kernel
theorem dX6_cell_17 : decode cX6_cell 17 = .ok (.ireturn, 1) := by decide +kernel
def rm_X6_cell : Room := { frames := 0, cells := 0, slots := 0, locals := 0 }
abbrev p_X6_cell (g : kG) (h0 : Nat) (n : Nat) (f : Nat → Int32) (i : Int32) : Int32 → va_W → Prop := fun r w1 => r = kcell n f i ∧ w1 = [(h0, .inl (g.2.1.1, n, .inl f))]
set_option maxHeartbeats 4000000 in
set_option maxRecDepth 100000 in
theorem c_X6_cell (l : Launch) (g : kG) (h0 : Nat) (n : Nat) (f : Nat → Int32) (i : Int32) (hn : n < 2 ^ 31) : KI l yX6_cell wsX6_cell rm_X6_cell g [.ref h0, .int i] [(h0, .inl (g.2.1.1, n, .inl f))] (p_X6_cell g h0 n f i) := by
  refine kbodyI (cc := cX6_cell) (n := 2) (k := 1) (own := RX6) (plainFor_of_name (by decide)) rfl rfl rfl rfl ?_
  intro p e s m below meth cd A ls hcx
  obtain ⟨hx, hb, hRt, hml, hts, hown, hlk, hA, hP, hK, hD, hE, hS, hl⟩ := hcx
  have hl : lv_has ls 2 [(0, .ref h0), (1, .int i)] := hl
  refine lv_iload_n hx hb dX6_cell_0 rfl (lv_at hl 1 rfl) ?_
  refine lv_if_lt (tgt := 16) hx hb dX6_cell_1 (by decide) (fun c_1 => ?_) (fun c_1 => ?_)
  · skip
    refine lv_iconst (v := 0) hx hb dX6_cell_16 (by decide) ?_
    exact kreti hx hb hRt hlk hK hP hD hS rfl dX6_cell_17 (⟨by simp [kcell, c_1], rfl⟩)
  · skip
    refine lv_iload_n hx hb dX6_cell_4 rfl (lv_at hl 1 rfl) ?_
    refine lv_aload_n hx hb dX6_cell_5 rfl (lv_at hl 0 rfl) ?_
    refine va_alen (v := nI n) hx hb hK hP 0 0 rfl rfl rfl dX6_cell_6 ?_
    refine lv_icmp_ge (tgt := 16) hx hb dX6_cell_7 (by decide) (fun c_7 => ?_) (fun c_7 => ?_)
    · skip
      refine lv_iconst (v := 0) hx hb dX6_cell_16 (by decide) ?_
      exact kreti hx hb hRt hlk hK hP hD hS rfl dX6_cell_17 (⟨by simp [kcell, c_1, c_7], rfl⟩)
    · skip
      refine lv_aload_n hx hb dX6_cell_10 rfl (lv_at hl 0 rfl) ?_
      refine lv_iload_n hx hb dX6_cell_11 rfl (lv_at hl 1 rfl) ?_
      refine va_iald hx hb hK hP 0 0 rfl rfl (kin hn c_1 c_7) dX6_cell_12 ?_
      refine lv_goto (tgt := 17) hx hb dX6_cell_13 (by decide) ?_
      exact kreti hx hb hRt hlk hK hP hD hS rfl dX6_cell_17 (⟨by simp [kcell, c_1, c_7], rfl⟩)
theorem dX6_store_0 : decode cX6_store 0 = .ok (.iload_n 1, 1) := by decide +kernel
theorem dX6_store_1 : decode cX6_store 1 = .ok (.ifCond .lt 13, 3) := by decide +kernel
theorem dX6_store_4 : decode cX6_store 4 = .ok (.iload_n 1, 1) := by decide +kernel
theorem dX6_store_5 : decode cX6_store 5 = .ok (.aload_n 0, 1) := by decide +kernel
theorem dX6_store_6 : decode cX6_store 6 = .ok (.arraylength, 1) := by decide +kernel
theorem dX6_store_7 : decode cX6_store 7 = .ok (.if_icmp .ge 7, 3) := by decide +kernel
theorem dX6_store_10 : decode cX6_store 10 = .ok (.aload_n 0, 1) := by decide +kernel
theorem dX6_store_11 : decode cX6_store 11 = .ok (.iload_n 1, 1) := by decide +kernel
theorem dX6_store_12 : decode cX6_store 12 = .ok (.iload_n 2, 1) := by decide +kernel
theorem dX6_store_13 : decode cX6_store 13 = .ok (.iastore, 1) := by decide +kernel
theorem dX6_store_14 : decode cX6_store 14 = .ok (.return_, 1) := by decide +kernel
def rm_X6_store : Room := { frames := 0, cells := 0, slots := 0, locals := 0 }
abbrev p_X6_store (g : kG) (h0 : Nat) (n : Nat) (f : Nat → Int32) (i : Int32) (v : Int32) : va_W → Prop := fun w1 => w1 = [(h0, .inl (g.2.1.1, n, .inl (kstore n f i v)))]
set_option maxHeartbeats 4000000 in
set_option maxRecDepth 100000 in
theorem c_X6_store (l : Launch) (g : kG) (h0 : Nat) (n : Nat) (f : Nat → Int32) (i : Int32) (v : Int32) (hn : n < 2 ^ 31) : KV l yX6_store wsX6_store rm_X6_store g [.ref h0, .int i, .int v] [(h0, .inl (g.2.1.1, n, .inl f))] (p_X6_store g h0 n f i v) := by
  refine kbodyV (cc := cX6_store) (n := 3) (k := 1) (own := RX6) (plainFor_of_name (by decide)) rfl rfl rfl rfl ?_
  intro p e s m below meth cd A ls hcx
  obtain ⟨hx, hb, hRt, hml, hts, hown, hlk, hA, hP, hK, hD, hE, hS, hl⟩ := hcx
  have hl : lv_has ls 3 [(0, .ref h0), (1, .int i), (2, .int v)] := hl
  refine lv_iload_n hx hb dX6_store_0 rfl (lv_at hl 1 rfl) ?_
  refine lv_if_lt (tgt := 14) hx hb dX6_store_1 (by decide) (fun c_1 => ?_) (fun c_1 => ?_)
  · skip
    exact kretv hx hb hRt hlk hK hP hD hS rfl dX6_store_14 (by show _ = _; simp [kstore, c_1])
  · skip
    refine lv_iload_n hx hb dX6_store_4 rfl (lv_at hl 1 rfl) ?_
    refine lv_aload_n hx hb dX6_store_5 rfl (lv_at hl 0 rfl) ?_
    refine va_alen (v := nI n) hx hb hK hP 0 0 rfl rfl rfl dX6_store_6 ?_
    refine lv_icmp_ge (tgt := 14) hx hb dX6_store_7 (by decide) (fun c_7 => ?_) (fun c_7 => ?_)
    · skip
      exact kretv hx hb hRt hlk hK hP hD hS rfl dX6_store_14 (by show _ = _; simp [kstore, c_1, c_7])
    · skip
      refine lv_aload_n hx hb dX6_store_10 rfl (lv_at hl 0 rfl) ?_
      refine lv_iload_n hx hb dX6_store_11 rfl (lv_at hl 1 rfl) ?_
      refine lv_iload_n hx hb dX6_store_12 rfl (lv_at hl 2 rfl) ?_
      refine va_iast hx hb hK hP hD hS 0 0 rfl rfl (kin hn c_1 c_7) dX6_store_13 (fun H locs hP hD hS => ?_)
      have hP : va_P g.1 vwCl [(h0, .inl (g.2.1.1, n, .inl (upd f i.toNatClampNeg v)))] H := hP
      have hD : va_D A [(h0, .inl (g.2.1.1, n, .inl (upd f i.toNatClampNeg v)))] := hD
      exact kretv hx hb hRt hlk hK hP hD hS rfl dX6_store_14 (by show _ = _; simp [kstore, c_1, c_7])
set_option maxRecDepth 20000 in
theorem ggX6_copyRow_X6_cell : GoodIn wsX6_copyRow wsX6_cell := goodIn_ca (goodIn_r _ [4] (by decide +kernel) (by decide +kernel)) (goodIn_sub (fun _ h => List.mem_cons_of_mem _ (List.mem_append_right _ h)) (by decide +kernel))
set_option maxRecDepth 20000 in
theorem gX6_copyRow_X6_cell : GoodIn wsX6_copyRow (va_wsS RX6 124 yX6_cell wsX6_cell) := goodIn_app (goodIn_of _ (by decide +kernel)) ggX6_copyRow_X6_cell
set_option maxRecDepth 20000 in
theorem ggX6_copyRow_X6_store : GoodIn wsX6_copyRow wsX6_store := goodIn_ca (goodIn_r _ [7] (by decide +kernel) (by decide +kernel)) (goodIn_sub (fun _ h => List.mem_cons_of_mem _ (List.mem_append_right _ h)) (by decide +kernel))
set_option maxRecDepth 20000 in
theorem gX6_copyRow_X6_store : GoodIn wsX6_copyRow (va_wsS RX6 133 yX6_store wsX6_store) := goodIn_app (goodIn_of _ (by decide +kernel)) ggX6_copyRow_X6_store
theorem dX6_copyRow_0 : decode cX6_copyRow 0 = .ok (.iconst 0, 1) := by decide +kernel
theorem dX6_copyRow_1 : decode cX6_copyRow 1 = .ok (.istore_n 3, 1) := by decide +kernel
theorem dX6_copyRow_2 : decode cX6_copyRow 2 = .ok (.iload_n 3, 1) := by decide +kernel
theorem dX6_copyRow_3 : decode cX6_copyRow 3 = .ok (.iload_n 2, 1) := by decide +kernel
theorem dX6_copyRow_4 : decode cX6_copyRow 4 = .ok (.if_icmp .ge 19, 3) := by decide +kernel
theorem dX6_copyRow_7 : decode cX6_copyRow 7 = .ok (.aload_n 1, 1) := by decide +kernel
theorem dX6_copyRow_8 : decode cX6_copyRow 8 = .ok (.iload_n 3, 1) := by decide +kernel
theorem dX6_copyRow_9 : decode cX6_copyRow 9 = .ok (.aload_n 0, 1) := by decide +kernel
theorem dX6_copyRow_10 : decode cX6_copyRow 10 = .ok (.iload_n 3, 1) := by decide +kernel
theorem dX6_copyRow_11 : decode cX6_copyRow 11 = .ok (.invokestatic 124, 3) := by decide +kernel
theorem dX6_copyRow_14 : decode cX6_copyRow 14 = .ok (.invokestatic 133, 3) := by decide +kernel
theorem dX6_copyRow_17 : decode cX6_copyRow 17 = .ok (.iinc 3 1, 3) := by decide +kernel
theorem dX6_copyRow_20 : decode cX6_copyRow 20 = .ok (.goto (-18), 3) := by decide +kernel
theorem dX6_copyRow_23 : decode cX6_copyRow 23 = .ok (.return_, 1) := by decide +kernel
def rm_X6_copyRow : Room := { frames := 1, cells := 0, slots := 0, locals := 22 }
abbrev p_X6_copyRow (g : kG) (h0 : Nat) (h1 : Nat) (nf : Nat) (f : Nat → Int32) (nt : Nat) (t : Nat → Int32) (k : Nat) : va_W → Prop := fun w1 => w1 = [(h0, .inl (g.2.1.1, nf, .inl f)), (h1, .inl (g.2.1.1, nt, .inl (kcpy f t k)))]
set_option maxHeartbeats 4000000 in
set_option maxRecDepth 100000 in
theorem c_X6_copyRow (l : Launch) (g : kG) (h0 : Nat) (h1 : Nat) (nf : Nat) (f : Nat → Int32) (nt : Nat) (t : Nat → Int32) (k : Nat) (hf : nf < 2 ^ 31) (ht : nt < 2 ^ 31) (hkf : k ≤ nf) (hkt : k ≤ nt) : KV l yX6_copyRow wsX6_copyRow rm_X6_copyRow g [.ref h0, .ref h1, .int (nI k)] [(h0, .inl (g.2.1.1, nf, .inl f)), (h1, .inl (g.2.1.1, nt, .inl t))] (p_X6_copyRow g h0 h1 nf f nt t k) := by
  refine kbodyV (cc := cX6_copyRow) (n := 4) (k := 2) (own := RX6) (plainFor_of_name (by decide)) rfl rfl rfl rfl ?_
  intro p e s m below meth cd A ls hcx
  obtain ⟨hx, hb, hRt, hml, hts, hown, hlk, hA, hP, hK, hD, hE, hS, hl⟩ := hcx
  have hl : lv_has ls 4 [(0, .ref h0), (1, .ref h1), (2, .int (nI k))] := hl
  refine lv_iconst (v := 0) hx hb dX6_copyRow_0 (by decide) ?_
  refine lv_istore_n (lv' := [(3, .int 0), (0, .ref h0), (1, .ref h1), (2, .int (nI k))]) hx hb dX6_copyRow_1 rfl hl (by decide) rfl (fun ls hl => ?_)
  have L2 : ∀ (n9 : Nat) (i : Nat) (u : Nat → Int32) (H : Heap) (locs : List Loc) (ls : Array Slot), (i ≤ k) → (u = kcpy f t i) → k - i < n9 → va_P g.1 vwCl [(h0, .inl (g.2.1.1, nf, .inl f)), (h1, .inl (g.2.1.1, nt, .inl u))] H → va_D A [(h0, .inl (g.2.1.1, nf, .inl f)), (h1, .inl (g.2.1.1, nt, .inl u))] → va_S A s.heap H locs → lv_has ls 4 [(3, .int (nI i)), (0, .ref h0), (1, .ref h1), (2, .int (nI k))] → W p l e rm_X6_copyRow s m ([.ref h0, .ref h1, .int (nI k)] : List Value).toArray below meth cd H locs 0 0 (kQv g 2 A (p_X6_copyRow g h0 h1 nf f nt t k) below ([.ref h0, .ref h1, .int (nI k)] : List Value).toArray s) (F0 m 2 ls []) := by
    intro n9
    induction n9 with
    | zero => intro i u H locs ls hi hu h9; exact absurd h9 (Nat.not_lt_zero _)
    | succ n9 ih2 =>
      intro i u H locs ls hi hu hn2 hP hD hS hl
      refine lv_iload_n hx hb dX6_copyRow_2 rfl (lv_at hl 0 rfl) ?_
      refine lv_iload_n hx hb dX6_copyRow_3 rfl (lv_at hl 3 rfl) ?_
      refine lv_icmp_ge (tgt := 23) hx hb dX6_copyRow_4 (by decide) (fun c_4 => ?_) (fun c_4 => ?_)
      · skip
        have hik : k ≤ i := kg (by omega) (by omega) c_4
        exact kretv hx hb hRt hlk hK hP hD hS rfl dX6_copyRow_23 (by show _ = _; rw [hu, show i = k by omega])
      · skip
        have hik : i < k := kl (by omega) (by omega) c_4
        refine lv_aload_n hx hb dX6_copyRow_7 rfl (lv_at hl 2 rfl) ?_
        refine lv_iload_n hx hb dX6_copyRow_8 rfl (lv_at hl 0 rfl) ?_
        refine lv_aload_n hx hb dX6_copyRow_9 rfl (lv_at hl 1 rfl) ?_
        refine lv_iload_n hx hb dX6_copyRow_10 rfl (lv_at hl 0 rfl) ?_
        refine kcalli (wc := [(h0, .inl (g.2.1.1, nf, .inl f))]) [0] (va_runS (As := [.ref h0, .int (nI i)]) (rest := [.int (nI i), .ref h1]) ⟨hx, hb, hml, hown, hts⟩ ((c_X6_cell l g h0 nf f (nI i) hf) _) (va_cwS 2 hts gX6_copyRow_X6_cell rfl rfl rfl (by decide +kernel) ⟨Nat.le_of_ble_eq_true rfl, Nat.le_of_ble_eq_true rfl⟩) (kpreS (wc := [(h0, .inl (g.2.1.1, nf, .inl f))]) hK hP hD hS hA hE [0] rfl rfl) rfl rfl hl.1 rfl (lv_room (Nat.le_of_ble_eq_true rfl)) dX6_copyRow_11 ⟨Nat.zero_le _, Nat.zero_le _⟩) hP hD hS hA rfl (fun r_1 w_1 H locs hp hP hD hS => ?_)
        obtain ⟨rfl, rfl⟩ := hp
        have hP : va_P g.1 vwCl [(h0, .inl (g.2.1.1, nf, .inl f)), (h1, .inl (g.2.1.1, nt, .inl u))] H := hP
        have hD : va_D A [(h0, .inl (g.2.1.1, nf, .inl f)), (h1, .inl (g.2.1.1, nt, .inl u))] := hD
        refine kcallv (wc := [(h1, .inl (g.2.1.1, nt, .inl u))]) [1] (va_runS (As := [.ref h1, .int (nI i), .int (kcell nf f (nI i))]) (rest := []) ⟨hx, hb, hml, hown, hts⟩ ((c_X6_store l g h1 nt u (nI i) (kcell nf f (nI i)) ht) _) (va_cwS 3 hts gX6_copyRow_X6_store rfl rfl rfl (by decide +kernel) ⟨Nat.le_of_ble_eq_true rfl, Nat.le_of_ble_eq_true rfl⟩) (kpreS (wc := [(h1, .inl (g.2.1.1, nt, .inl u))]) hK hP hD hS hA hE [1] rfl rfl) rfl rfl hl.1 rfl (lv_room (Nat.le_of_ble_eq_true rfl)) dX6_copyRow_14 ⟨Nat.zero_le _, Nat.zero_le _⟩) hP hD hS hA rfl (fun w_2 H locs hp hP hD hS => ?_)
        obtain rfl := hp
        have hP : va_P g.1 vwCl [(h0, .inl (g.2.1.1, nf, .inl f)), (h1, .inl (g.2.1.1, nt, .inl (kstore nt u (nI i) (kcell nf f (nI i)))))] H := hP
        have hD : va_D A [(h0, .inl (g.2.1.1, nf, .inl f)), (h1, .inl (g.2.1.1, nt, .inl (kstore nt u (nI i) (kcell nf f (nI i)))))] := hD
        refine lv_iinc (v := nI (i + 1)) (lv' := [(3, .int (nI (i + 1))), (0, .ref h0), (1, .ref h1), (2, .int (nI k))]) hx hb dX6_copyRow_17 hl (k := 0) rfl (nI_1 i) (by decide) rfl (fun ls hl => ?_)
        refine lv_goto (tgt := 2) hx hb dX6_copyRow_20 (by decide) ?_
        exact ih2 (i + 1) (kstore nt u (nI i) (kcell nf f (nI i))) _ _ ls hik (by rw [hu]; exact kcpy_s hf ht (by omega) (by omega)) (by omega) hP hD hS (lv_sub hl [0, 1, 2, 3] rfl)
  exact L2 _ 0 t _ _ ls (Nat.zero_le _) (kcpy_0 f t) (Nat.lt_succ_self _) hP hD hS (lv_sub hl [0, 1, 2, 3] rfl)
