/-! ===== the law's context out of what holds at its entry ===== -/
theorem st_row {args : Array Value} {s : State} {n : String} {f : Nat → Int32} (hl : (Cond.laysStatic "LearnedIndex" n "[I").before args s = true) (hini : (Cond.initialized "LearnedIndex").before args s = true)
    (ha : (Cond.arrayOf (.static "LearnedIndex" n "[I") .int).before args s = true) (hn : (Cond.eq (.length (.static "LearnedIndex" n "[I")) (.int 4)).before args s = true)
    (he : ∀ j : Nat, j < 4 → (Cond.eq (.elem (.static "LearnedIndex" n "[I") (.int (Int32.ofNat j))) (.int (f j))).before args s = true) : ∃ t, kRow n t f (fun q => s.heap.size ≤ q) s s.heap := by
  obtain ⟨t, h1, h2⟩ := va_Tof (N := 4) (f := fun j => .int (f j)) (A := fun q : Nat => s.heap.size ≤ q) (by decide) ha (va_eqt hn) (fun j hj => va_eqt (he j hj)) (fun a h => Nat.not_le.mpr h)
  exact ⟨t, va_Zof hl hini h1 (fun a h => Nat.not_le.mpr h), h2⟩
theorem st_arr {args : Array Value} {s : State} {ty : FieldType} (hty : ∀ C, ty ≠ .object C) (h : (Cond.arrayClass ty).before args s = true) : ∃ cA : ClassId, ArrOfT s cA ty ∧ va_RA s cA ty := by
  obtain ⟨cA, kA, comp, h1, h2, h3⟩ := Cond.arrayClass_spec h
  refine ⟨cA, fun n z => ⟨fun k h => (by cases h), kA, h2, comp, h3⟩, ?_⟩
  cases ty with
  | object C => exact absurd rfl (hty C)
  | _ => exact h1
theorem st_str {args : Array Value} {s : State} {k : Nat} {tx : String} (h : (Cond.stringRef "LearnedIndex" k tx).before args s = true) : ∃ a, vk_R "LearnedIndex" k tx a s := by
  have h0 : (Cond.stringRef "LearnedIndex" k tx).before #[] s = true := h
  have hc : ∃ cur, s.vm.findClass "LearnedIndex" = some cur := by
    cases hc : s.vm.findClass "LearnedIndex" with
    | none => simp [Cond.before, Cond.holds, Cond.value, hc] at h0
    | some cur => exact ⟨cur, rfl⟩
  obtain ⟨cur, hc⟩ := hc
  obtain ⟨-, -, -, a, -, -, -, -, -, h1⟩ := Cond.stringRef_spec hc h0
  exact ⟨a, h0, h1⟩
theorem st_known {s : State} {args : Array Value} (m9 : ClassId) (hts : ∀ w ∈ lw_tbl, w.before args s = true) : ∃ D : va_G, ∀ (k : Nat) (q : vw_C), vwCl[k]? = some q → u_Kn s q.1 q.2.1 q.2.2 (D.1 k) (D.2 k) := by
  have hcl : ∀ k : Nat, ∃ y : ClassId × (Nat → Nat), ∀ q : vw_C, vwCl[k]? = some q → u_Kn s q.1 q.2.1 q.2.2 y.1 y.2 := by
    intro k
    match k with
    | 0 => obtain ⟨c9, i9, h9⟩ := u_known (C := RJ0) (T := TJ0) (N := 2) (n := 4) hts inJ0 (hts (.instantiable RJ0 4) (by decide +kernel)); exact ⟨(c9, i9), fun q hq => by cases hq; exact h9⟩
    | 1 => obtain ⟨c9, i9, h9⟩ := u_known (C := RJx00060) (T := TJx00060) (N := 6) (n := 6) hts inJx00060 (hts (.instantiable RJx00060 6) (by decide +kernel)); exact ⟨(c9, i9), fun q hq => by cases hq; exact h9⟩
    | 2 => obtain ⟨c9, i9, h9⟩ := u_known (C := RX0) (T := TX0) (N := 4) (n := 4) hts inX0 (hts (.instantiable RX0 4) (by decide +kernel)); exact ⟨(c9, i9), fun q hq => by cases hq; exact h9⟩
    | 3 => obtain ⟨c9, i9, h9⟩ := u_known (C := RX1) (T := TX1) (N := 8) (n := 8) hts inX1 (hts (.instantiable RX1 8) (by decide +kernel)); exact ⟨(c9, i9), fun q hq => by cases hq; exact h9⟩
    | 4 => obtain ⟨c9, i9, h9⟩ := u_known (C := RX2) (T := TX2) (N := 5) (n := 5) hts inX2 (hts (.instantiable RX2 5) (by decide +kernel)); exact ⟨(c9, i9), fun q hq => by cases hq; exact h9⟩
    | 5 => obtain ⟨c9, i9, h9⟩ := u_known (C := RX3) (T := TX3) (N := 5) (n := 5) hts inX3 (hts (.instantiable RX3 5) (by decide +kernel)); exact ⟨(c9, i9), fun q hq => by cases hq; exact h9⟩
    | 6 => obtain ⟨c9, i9, h9⟩ := u_known (C := RX4) (T := TX4) (N := 6) (n := 6) hts inX4 (hts (.instantiable RX4 6) (by decide +kernel)); exact ⟨(c9, i9), fun q hq => by cases hq; exact h9⟩
    | 7 => obtain ⟨c9, i9, h9⟩ := u_known (C := RX5) (T := TX5) (N := 4) (n := 4) hts inX5 (hts (.instantiable RX5 4) (by decide +kernel)); exact ⟨(c9, i9), fun q hq => by cases hq; exact h9⟩
    | 8 => obtain ⟨c9, i9, h9⟩ := u_known (C := RX6) (T := TX6) (N := 10) (n := 10) hts inX6 (hts (.instantiable RX6 10) (by decide +kernel)); exact ⟨(c9, i9), fun q hq => by cases hq; exact h9⟩
    | 9 => obtain ⟨c9, i9, h9⟩ := u_known (C := RX7) (T := TX7) (N := 40) (n := 40) hts inX7 (hts (.instantiable RX7 40) (by decide +kernel)); exact ⟨(c9, i9), fun q hq => by cases hq; exact h9⟩
    | k + 10 => exact ⟨(m9, fun _ => 0), fun q hq => by simp [vwCl] at hq⟩
  obtain ⟨y, hy⟩ := Classical.skolem.mp hcl
  exact ⟨(fun k => (y k).1, fun k => (y k).2), hy⟩
theorem kNw_tbl : ∀ w ∈ kNw, w ∈ lw_tbl := by decide +kernel
theorem kNw_on : ∀ w ∈ kNw, w.onTables = true := by decide +kernel
theorem st_x {s : State} {args : Array Value} (hts : ∀ w ∈ lw_tbl, w.before args s = true) (hgv : (Jvm.Cond.and given_1 narrow_1).before args s = true) : kX s := by
  have hq := flat_of_before _ hgv
  refine ⟨fun w hw => ?_, fun q hq9 => ?_, va_Nc.of (hq _ (by decide +kernel)), va_Nc.of (hq _ (by decide +kernel)), va_Nc.of (hq _ (by decide +kernel))⟩
  · refine va_tabs (A := args) (u := s) (kXw_ok w hw).1 rfl ?_
    simp only [kXw, List.mem_cons, List.not_mem_nil, or_false] at hw
    rcases hw with rfl | rfl | rfl | rfl | rfl | rfl | rfl | rfl <;> first | exact hts _ (by decide +kernel) | exact hq _ (by decide +kernel)
  · simp only [kXt, List.mem_cons, List.not_mem_nil, or_false] at hq9
    rcases hq9 with rfl | rfl | rfl | rfl | rfl | rfl | rfl | rfl | rfl | rfl | rfl | rfl | rfl | rfl | rfl | rfl | rfl | rfl | rfl | rfl | rfl <;> exact st_str (by first | exact hts _ (by decide +kernel) | exact hq _ (by decide +kernel))
theorem st_ctx {s : State} {args : Array Value} (m9 : ClassId) (hts : ∀ w ∈ lw_tbl, w.before args s = true) (hgv : (Jvm.Cond.and given_1 narrow_1).before args s = true) : ∃ g : kG, va_K g.1 vwCl (kTy g) s ∧ kEnv g (fun q => s.heap.size ≤ q) s s.heap := by
  have hq := flat_of_before _ hgv
  obtain ⟨D, hD⟩ := st_known m9 hts
  obtain ⟨cI, hI⟩ := st_arr (ty := .int) (fun _ h => by cases h) (hts _ (by decide +kernel))
  obtain ⟨cC, hC⟩ := st_arr (ty := .char) (fun _ h => by cases h) (hts _ (by decide +kernel))
  obtain ⟨cL, hL⟩ := st_arr (ty := .long) (fun _ h => by cases h) (hts _ (by decide +kernel))
  obtain ⟨cD, hDd⟩ := st_arr (ty := .double) (fun _ h => by cases h) (hts _ (by decide +kernel))
  obtain ⟨t1, h1⟩ := st_row (n := "FIRST_SETTINGS") (f := kFirst) (hts _ (by decide +kernel)) (hts _ (by decide +kernel)) (hq _ (by decide +kernel)) (hq _ (by decide +kernel)) (fun j hj => by rcases (show j = 0 ∨ j = 1 ∨ j = 2 ∨ j = 3 by omega) with rfl | rfl | rfl | rfl <;> exact hq _ (by decide +kernel))
  obtain ⟨t2, h2⟩ := st_row (n := "LEAST_SETTINGS") (f := kLeast) (hts _ (by decide +kernel)) (hts _ (by decide +kernel)) (hq _ (by decide +kernel)) (hq _ (by decide +kernel)) (fun j hj => by rcases (show j = 0 ∨ j = 1 ∨ j = 2 ∨ j = 3 by omega) with rfl | rfl | rfl | rfl <;> exact hq _ (by decide +kernel))
  obtain ⟨t3, h3⟩ := st_row (n := "GREATEST_SETTINGS") (f := kGreatest) (hts _ (by decide +kernel)) (hts _ (by decide +kernel)) (hq _ (by decide +kernel)) (hq _ (by decide +kernel)) (fun j hj => by rcases (show j = 0 ∨ j = 1 ∨ j = 2 ∨ j = 3 by omega) with rfl | rfl | rfl | rfl <;> exact hq _ (by decide +kernel))
  refine ⟨(D, (cI, cC, cL, cD), (t1, t2, t3)), ⟨hD, fun k q hk => ?_⟩, fun w hw => va_Nw.of (kNw_on w hw) (hts w (kNw_tbl w hw)), ⟨h1, h2, h3⟩, ?_, ?_, st_x hts hgv⟩
  · match k, hk with
    | 0, hk => cases hk; exact hI
    | 1, hk => cases hk; exact hC
    | 2, hk => cases hk; exact hL
    | 3, hk => cases hk; exact hDd
    | k + 4, hk => simp [kTy] at hk
  · exact vx_Zqof (hts _ (by decide +kernel)) (hts _ (by decide +kernel)) (hq _ (by decide +kernel)) (fun a h => Nat.not_le.mpr h)
  · exact vx_Zqof (hts _ (by decide +kernel)) (hts _ (by decide +kernel)) (hq _ (by decide +kernel)) (fun a h => Nat.not_le.mpr h)
