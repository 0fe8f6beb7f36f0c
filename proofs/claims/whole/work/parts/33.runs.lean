/-! ===== the model: startRun, narrows, longestRun, common, build ===== -/
theorem gw_end1 {κ : Nat → Int} {f n p : Nat} {β a b c d : Int} (h : (gw κ f β (n - p) p a b c d).1 = p - 1) (hp : 0 < p) : (gw κ f β (n - p) p a b c d) = (p - 1, a, b) := by
  rcases Nat.lt_or_ge p n with hn | hn
  · cases ht : tk β ((p : Int) - (f : Int)) (κ p - κ f) a b c d with
    | none => exact gw_none hn ht
    | some S =>
      obtain ⟨a2, b2, c2, d2⟩ := S
      exfalso
      rw [gw_some hn ht] at h
      have : ∀ (k q : Nat) (a b c d : Int), q - 1 ≤ (gw κ f β k q a b c d).1 := by
        intro k
        induction k with
        | zero => intro q a b c d; simp [gw]
        | succ k ih =>
          intro q a b c d
          rw [gw]
          split
          · simp
          · have := ih (q + 1)
            rename_i a3 b3 c3 d3 _
            have h5 := this a3 b3 c3 d3
            omega
      have h6 := this (n - (p + 1)) (p + 1) a2 b2 c2 d2
      omega
  · exact gw_end hn
theorem gw_in {κ : Nat → Int} {f n p : Nat} {β a b c d : Int} (h : p ≤ (gw κ f β (n - p) p a b c d).1) (hp : 0 < p) : p < n ∧ ∃ a2 b2 c2 d2, tk β ((p : Int) - (f : Int)) (κ p - κ f) a b c d = some (a2, b2, c2, d2) := by
  rcases Nat.lt_or_ge p n with hn | hn
  · refine ⟨hn, ?_⟩
    cases ht : tk β ((p : Int) - (f : Int)) (κ p - κ f) a b c d with
    | none => rw [gw_none hn ht] at h; simp only at h; omega
    | some S => obtain ⟨a2, b2, c2, d2⟩ := S; exact ⟨a2, b2, c2, d2, rfl⟩
  · rw [gw_end hn] at h; simp only at h; omega
def rmG (d : Nat) : Room := { frames := d, cells := 0, slots := 0, locals := 21 * d }
/-- a run as the model's fields hold it: what narrows leaves, and the class's view of it -/
def kRun (κ : Nat → Int) (n f : Nat) (β : Int) (q : Nat) (a b C D : Int) : Prop := ∃ c d : Int, kbd a b c d ∧ kmb a b C D ∧ c ≤ d ∧ kre c d C D ∧ a * D ≤ C * b ∧ gw κ f β (n - q) q a b c d = gw0 κ n f β
theorem kRun_0 (κ : Nat → Int) (n f : Nat) (β : Int) : kRun κ n f β (f + 1) 0 1 1 0 := ⟨1, 1, kbd_0, kmb_0, by omega, kre_0, by omega, rfl⟩
theorem kRun_s {κ : Nat → Int} {n f q : Nat} {β a b C D : Int} (hasc : kasc κ n) (hn : n ≤ 160) (hβ : 0 ≤ β ∧ β ≤ 8) (hf : f < q) (hq : q < n) (h : kRun κ n f β q a b C D) :
    (((nrL β ((q : Int) - (f : Int)) (κ q - κ f) a b).1 * (nrH β ((q : Int) - (f : Int)) (κ q - κ f) C D).2 ≤ (nrH β ((q : Int) - (f : Int)) (κ q - κ f) C D).1 * (nrL β ((q : Int) - (f : Int)) (κ q - κ f) a b).2) → kRun κ n f β (q + 1) (nrL β ((q : Int) - (f : Int)) (κ q - κ f) a b).1 (nrL β ((q : Int) - (f : Int)) (κ q - κ f) a b).2 (nrH β ((q : Int) - (f : Int)) (κ q - κ f) C D).1 (nrH β ((q : Int) - (f : Int)) (κ q - κ f) C D).2) ∧
    (¬ ((nrL β ((q : Int) - (f : Int)) (κ q - κ f) a b).1 * (nrH β ((q : Int) - (f : Int)) (κ q - κ f) C D).2 ≤ (nrH β ((q : Int) - (f : Int)) (κ q - κ f) C D).1 * (nrL β ((q : Int) - (f : Int)) (κ q - κ f) a b).2) → (gw0 κ n f β).1 = q - 1) := by
  obtain ⟨c, d, hb, hm, hcd, hr, hac, hg⟩ := h
  have hd := kasc_d hasc hf hq
  have hnr := nr_tk (ρ := (q : Int) - (f : Int)) (δ := κ q - κ f) hβ ⟨by omega, by omega⟩ ⟨by omega, by omega⟩ hd.1 hb hm hcd hr hac
  refine ⟨fun hok => ?_, fun hno => ?_⟩
  · obtain ⟨c2, d2, ht, hr2, hcd2⟩ := hnr.1 hok
    exact ⟨c2, d2, tk_bd hb hβ ⟨by omega, by omega⟩ ⟨by omega, by omega⟩ hd.1 ht, nr_bd hβ ⟨by omega, by omega⟩ ⟨by omega, by omega⟩ hd.1 hm, hcd2, hr2, hok, by rw [← hg, gw_some hq ht]⟩
  · rw [← hg, gw_none hq (hnr.2 hno)]
/-- on positions that belong to the run the model's narrowing holds -/
theorem kRun_in {κ : Nat → Int} {n f q : Nat} {β a b C D : Int} (hasc : kasc κ n) (hn : n ≤ 160) (hβ : 0 ≤ β ∧ β ≤ 8) (hf : f < q) (hq : q ≤ (gw0 κ n f β).1) (h : kRun κ n f β q a b C D) :
    q < n ∧ ((nrL β ((q : Int) - (f : Int)) (κ q - κ f) a b).1 * (nrH β ((q : Int) - (f : Int)) (κ q - κ f) C D).2 ≤ (nrH β ((q : Int) - (f : Int)) (κ q - κ f) C D).1 * (nrL β ((q : Int) - (f : Int)) (κ q - κ f) a b).2) := by
  have h0 := h
  obtain ⟨c, d, hb, hm, hcd, hr, hac, hg⟩ := h
  rw [← hg] at hq
  obtain ⟨hqn, a2, b2, c2, d2, ht⟩ := gw_in hq (by omega)
  refine ⟨hqn, Decidable.byContradiction (fun z => ?_)⟩
  have h3 := (kRun_s hasc hn hβ hf hqn h0).2 z
  rw [hg] at hq
  omega
theorem kRun_end {κ : Nat → Int} {n f q : Nat} {β a b C D : Int} (hf : f < q) (h : kRun κ n f β q a b C D) (hq : (gw0 κ n f β).1 = q - 1) : gw0 κ n f β = (q - 1, a, b) := by
  obtain ⟨c, d, -, -, -, -, -, hg⟩ := h
  rw [← hg] at hq ⊢
  exact gw_end1 hq (by omega)
theorem kRun_m {κ : Nat → Int} {n f q : Nat} {β a b C D : Int} (h : kRun κ n f β q a b C D) : kmb a b C D := by
  obtain ⟨c, d, -, hm, -⟩ := h
  exact hm
theorem kmulm {a b C D ρ δ : Int} (hm : kmb a b C D) (hρ : -20 ≤ ρ ∧ ρ ≤ 200) (hδ : 1 ≤ δ ∧ δ ≤ 10000) : (-3000000 ≤ ρ * b ∧ ρ * b ≤ 3000000) ∧ (0 ≤ a * δ ∧ a * δ ≤ 3000000) ∧ (-3000000 ≤ ρ * D ∧ ρ * D ≤ 3000000) ∧ (0 ≤ C * δ ∧ C * δ ≤ 3000000) := by
  obtain ⟨⟨h1, h2, h2'⟩, ⟨h3, h4⟩, ⟨h5, h6⟩, ⟨h7, h8⟩⟩ := hm
  have m1 := kmulb (x := ρ) (w := b) (by omega) (by omega) (by omega) (by omega)
  have m2 := kmulb (x := a) (w := δ) (by omega) (by omega) (by omega) (by omega)
  have m3 := kmulb (x := ρ) (w := D) (by omega) (by omega) (by omega) (by omega)
  have m4 := kmulb (x := C) (w := δ) (by omega) (by omega) (by omega) (by omega)
  have n2 := Int.mul_nonneg h1 (show 0 ≤ δ by omega)
  have n4 := Int.mul_nonneg h5 (show 0 ≤ δ by omega)
  omega
theorem kmul2 {a b C D : Int} (hm : kmb a b C D) : (0 ≤ a * D ∧ a * D ≤ 3000000) ∧ (0 ≤ C * b ∧ C * b ≤ 3000000) := by
  obtain ⟨⟨h1, h2, h2'⟩, ⟨h3, h4⟩, ⟨h5, h6⟩, ⟨h7, h8⟩⟩ := hm
  have m1 := kmulb (x := a) (w := D) (by omega) (by omega) (by omega) (by omega)
  have m2 := kmulb (x := C) (w := b) (by omega) (by omega) (by omega) (by omega)
  have n1 := Int.mul_nonneg h1 h7
  have n2 := Int.mul_nonneg h5 (show 0 ≤ b by omega)
  omega
abbrev B3 (x : Int) : Prop := -3000000 ≤ x ∧ x ≤ 3000000
theorem kL_I3 {x : Int} (h : B3 x) : (kI x).toInt64 = kL x := kL_I (by omega) (by omega)
theorem lg3_le {x y : Int} (h : B3 x) (h2 : B3 y) : lg_cmp (kL x) (kL y) ≤ 0 ↔ x ≤ y := by rw [lg_cmp_le, kL_le (by omega) (by omega) (by omega) (by omega)]
theorem lg3_ge {x y : Int} (h : B3 x) (h2 : B3 y) : 0 ≤ lg_cmp (kL x) (kL y) ↔ y ≤ x := by rw [lg_cmp_ge, kL_le (by omega) (by omega) (by omega) (by omega)]
theorem lg3_eq {x y : Int} (h : B3 x) (h2 : B3 y) : lg_cmp (kL x) (kL y) = 0 ↔ x = y := by rw [lg_cmp_eq, kL_inj (by omega) (by omega) (by omega) (by omega)]
theorem lg3_gt {x y : Int} (h : B3 x) (h2 : B3 y) : 0 < lg_cmp (kL x) (kL y) ↔ y < x := by rw [lg_cmp_gt, kL_lt (by omega) (by omega) (by omega) (by omega)]
theorem nfacts {a b C D ρ δ β : Int} (hm : kmb a b C D) (hβ : 0 ≤ β ∧ β ≤ 8) (hr : 0 ≤ ρ ∧ ρ ≤ 160 ∧ ρ ≤ δ ∧ 1 ≤ δ ∧ δ ≤ 10000) :
    B3 (ρ - β) ∧ B3 (ρ + β) ∧ B3 δ ∧ B3 ((ρ - β) * b) ∧ B3 (a * δ) ∧ B3 ((ρ + β) * D) ∧ B3 (C * δ) ∧ B3 D ∧ B3 0 ∧ B3 ((nrL β ρ δ a b).1 * (nrH β ρ δ C D).2) ∧ B3 ((nrH β ρ δ C D).1 * (nrL β ρ δ a b).2) := by
  have m1 := kmulm (ρ := ρ - β) (δ := δ) hm ⟨by omega, by omega⟩ ⟨by omega, by omega⟩
  have m2 := kmulm (ρ := ρ + β) (δ := δ) hm ⟨by omega, by omega⟩ ⟨by omega, by omega⟩
  have m3 := kmul2 (nr_bd (ρ := ρ) (δ := δ) hβ ⟨by omega, by omega⟩ ⟨by omega, by omega⟩ hr.2.2.1 hm)
  have m4 := hm.2.2.2
  refine ⟨⟨by omega, by omega⟩, ⟨by omega, by omega⟩, ⟨by omega, by omega⟩, m1.1, ⟨by omega, by omega⟩, m2.2.2.1, ⟨by omega, by omega⟩, ⟨by omega, by omega⟩, ⟨by omega, by omega⟩, ⟨by omega, by omega⟩, ⟨by omega, by omega⟩⟩

theorem dX7_startRun_0 : decode cX7_startRun 0 = .ok (.aload_n 0, 1) := by decide +kernel
theorem dX7_startRun_1 : decode cX7_startRun 1 = .ok (.lconst 0, 1) := by decide +kernel
theorem dX7_startRun_2 : decode cX7_startRun 2 = .ok (.putfield 144, 3) := by decide +kernel
theorem dX7_startRun_5 : decode cX7_startRun 5 = .ok (.aload_n 0, 1) := by decide +kernel
theorem dX7_startRun_6 : decode cX7_startRun 6 = .ok (.lconst 1, 1) := by decide +kernel
theorem dX7_startRun_7 : decode cX7_startRun 7 = .ok (.putfield 140, 3) := by decide +kernel
theorem dX7_startRun_10 : decode cX7_startRun 10 = .ok (.aload_n 0, 1) := by decide +kernel
theorem dX7_startRun_11 : decode cX7_startRun 11 = .ok (.lconst 1, 1) := by decide +kernel
theorem dX7_startRun_12 : decode cX7_startRun 12 = .ok (.putfield 150, 3) := by decide +kernel
theorem dX7_startRun_15 : decode cX7_startRun 15 = .ok (.aload_n 0, 1) := by decide +kernel
theorem dX7_startRun_16 : decode cX7_startRun 16 = .ok (.lconst 0, 1) := by decide +kernel
theorem dX7_startRun_17 : decode cX7_startRun 17 = .ok (.putfield 147, 3) := by decide +kernel
theorem dX7_startRun_20 : decode cX7_startRun 20 = .ok (.return_, 1) := by decide +kernel
def rm_X7_startRun : Room := { frames := 0, cells := 0, slots := 0, locals := 0 }
abbrev p_X7_startRun (g : kG) (h : Nat) (zth : Int32) (zsz : Int32) (zch : Int32) (zsg : Int32) (zl1 : Int64) (zl2 : Int64) (zl3 : Int64) (zl4 : Int64) (zpb : Int32) (zln : Int32) (zat : Int32) (zrk : Int32) (zrv : Int32) (zre : Int32) (zwr : Int32) (zrm : Int32) (zrs : Int32) (zis : Int32) (zss : Int32) (zsc : Int32) (ak : Nat) (av : Nat) (bk : Nat) (bv : Nat) (br : Nat) (a_s : Nat) (a_t : Nat) (g1 : Nat) (g2 : Nat) (g3 : Nat) (pa : Nat) (ru : Nat) (tx : Nat) (dk : Nat) (dv : Nat) (ek : Nat) (ev : Nat) (er : Nat) (es : Nat) (et : Nat) : va_W → Prop := fun w1 => w1 = [(h, .inr (9, [.int zth, .int zsz, .int zch, .ref ak, .ref av, .ref bk, .ref bv, .ref br, .ref a_s, .ref a_t, .int zsg, .ref g1, .ref g2, .ref g3, .long 0, .long 1, .long 1, .long 0, .int zpb, .ref pa, .ref ru, .ref tx, .int zln, .int zat, .int zrk, .int zrv, .int zre, .int zwr, .int zrm, .int zrs, .int zis, .int zss, .int zsc, .ref dk, .ref dv, .ref ek, .ref ev, .ref er, .ref es, .ref et]))]
set_option maxHeartbeats 4000000 in
set_option maxRecDepth 100000 in
theorem c_X7_startRun (l : Launch) (g : kG) (h : Nat) (zth : Int32) (zsz : Int32) (zch : Int32) (zsg : Int32) (zl1 : Int64) (zl2 : Int64) (zl3 : Int64) (zl4 : Int64) (zpb : Int32) (zln : Int32) (zat : Int32) (zrk : Int32) (zrv : Int32) (zre : Int32) (zwr : Int32) (zrm : Int32) (zrs : Int32) (zis : Int32) (zss : Int32) (zsc : Int32) (ak : Nat) (av : Nat) (bk : Nat) (bv : Nat) (br : Nat) (a_s : Nat) (a_t : Nat) (g1 : Nat) (g2 : Nat) (g3 : Nat) (pa : Nat) (ru : Nat) (tx : Nat) (dk : Nat) (dv : Nat) (ek : Nat) (ev : Nat) (er : Nat) (es : Nat) (et : Nat) : KV l yX7_startRun wsX7_startRun rm_X7_startRun g [.ref h] [(h, .inr (9, [.int zth, .int zsz, .int zch, .ref ak, .ref av, .ref bk, .ref bv, .ref br, .ref a_s, .ref a_t, .int zsg, .ref g1, .ref g2, .ref g3, .long zl1, .long zl2, .long zl3, .long zl4, .int zpb, .ref pa, .ref ru, .ref tx, .int zln, .int zat, .int zrk, .int zrv, .int zre, .int zwr, .int zrm, .int zrs, .int zis, .int zss, .int zsc, .ref dk, .ref dv, .ref ek, .ref ev, .ref er, .ref es, .ref et]))] (p_X7_startRun g h zth zsz zch zsg zl1 zl2 zl3 zl4 zpb zln zat zrk zrv zre zwr zrm zrs zis zss zsc ak av bk bv br a_s a_t g1 g2 g3 pa ru tx dk dv ek ev er es et) := by
  refine kbodyV (cc := cX7_startRun) (n := 1) (k := 1) (own := RX7) (plainFor_of_name (by decide)) rfl rfl rfl rfl ?_
  intro p e s m below meth cd A ls hcx
  obtain ⟨hx, hb, hRt, hml, hts, hown, hlk, hA, hP, hK, hD, hE, hS, hl⟩ := hcx
  have hl : lv_has ls 1 [(0, .ref h)] := hl
  refine lv_aload_n hx hb dX7_startRun_0 rfl (lv_at hl 0 rfl) ?_
  refine lv_lconst (v := 0) hx hb dX7_startRun_1 (by decide) ?_
  refine va_put (D := g.1) (ci := 9) (v := .long 0) (ty := .long) (C := RX7) (T := TX7) (N := 40) hx hb hts (by decide +kernel) tyX7 tyX7_ok nmX7 hown hK hP hD hS 0 rfl rfl 14 (by decide) (hts (.fieldLink RX7 144 "LearnedIndexModel" "lowTop" "J") (by decide +kernel)) (fun _ h9 => h9) rfl (by decide +kernel) rfl rfl (Nat.le_of_ble_eq_true rfl) dX7_startRun_2 (fun H locs hP hD hS => ?_)
  have hP : va_P g.1 vwCl [(h, .inr (9, [.int zth, .int zsz, .int zch, .ref ak, .ref av, .ref bk, .ref bv, .ref br, .ref a_s, .ref a_t, .int zsg, .ref g1, .ref g2, .ref g3, .long 0, .long zl2, .long zl3, .long zl4, .int zpb, .ref pa, .ref ru, .ref tx, .int zln, .int zat, .int zrk, .int zrv, .int zre, .int zwr, .int zrm, .int zrs, .int zis, .int zss, .int zsc, .ref dk, .ref dv, .ref ek, .ref ev, .ref er, .ref es, .ref et]))] H := hP
  have hD : va_D A [(h, .inr (9, [.int zth, .int zsz, .int zch, .ref ak, .ref av, .ref bk, .ref bv, .ref br, .ref a_s, .ref a_t, .int zsg, .ref g1, .ref g2, .ref g3, .long 0, .long zl2, .long zl3, .long zl4, .int zpb, .ref pa, .ref ru, .ref tx, .int zln, .int zat, .int zrk, .int zrv, .int zre, .int zwr, .int zrm, .int zrs, .int zis, .int zss, .int zsc, .ref dk, .ref dv, .ref ek, .ref ev, .ref er, .ref es, .ref et]))] := hD
  refine lv_aload_n hx hb dX7_startRun_5 rfl (lv_at hl 0 rfl) ?_
  refine lv_lconst (v := 1) hx hb dX7_startRun_6 (by decide) ?_
  refine va_put (D := g.1) (ci := 9) (v := .long 1) (ty := .long) (C := RX7) (T := TX7) (N := 40) hx hb hts (by decide +kernel) tyX7 tyX7_ok nmX7 hown hK hP hD hS 0 rfl rfl 15 (by decide) (hts (.fieldLink RX7 140 "LearnedIndexModel" "lowBottom" "J") (by decide +kernel)) (fun _ h9 => h9) rfl (by decide +kernel) rfl rfl (Nat.le_of_ble_eq_true rfl) dX7_startRun_7 (fun H locs hP hD hS => ?_)
  have hP : va_P g.1 vwCl [(h, .inr (9, [.int zth, .int zsz, .int zch, .ref ak, .ref av, .ref bk, .ref bv, .ref br, .ref a_s, .ref a_t, .int zsg, .ref g1, .ref g2, .ref g3, .long 0, .long 1, .long zl3, .long zl4, .int zpb, .ref pa, .ref ru, .ref tx, .int zln, .int zat, .int zrk, .int zrv, .int zre, .int zwr, .int zrm, .int zrs, .int zis, .int zss, .int zsc, .ref dk, .ref dv, .ref ek, .ref ev, .ref er, .ref es, .ref et]))] H := hP
  have hD : va_D A [(h, .inr (9, [.int zth, .int zsz, .int zch, .ref ak, .ref av, .ref bk, .ref bv, .ref br, .ref a_s, .ref a_t, .int zsg, .ref g1, .ref g2, .ref g3, .long 0, .long 1, .long zl3, .long zl4, .int zpb, .ref pa, .ref ru, .ref tx, .int zln, .int zat, .int zrk, .int zrv, .int zre, .int zwr, .int zrm, .int zrs, .int zis, .int zss, .int zsc, .ref dk, .ref dv, .ref ek, .ref ev, .ref er, .ref es, .ref et]))] := hD
  refine lv_aload_n hx hb dX7_startRun_10 rfl (lv_at hl 0 rfl) ?_
  refine lv_lconst (v := 1) hx hb dX7_startRun_11 (by decide) ?_
  refine va_put (D := g.1) (ci := 9) (v := .long 1) (ty := .long) (C := RX7) (T := TX7) (N := 40) hx hb hts (by decide +kernel) tyX7 tyX7_ok nmX7 hown hK hP hD hS 0 rfl rfl 16 (by decide) (hts (.fieldLink RX7 150 "LearnedIndexModel" "highTop" "J") (by decide +kernel)) (fun _ h9 => h9) rfl (by decide +kernel) rfl rfl (Nat.le_of_ble_eq_true rfl) dX7_startRun_12 (fun H locs hP hD hS => ?_)
  have hP : va_P g.1 vwCl [(h, .inr (9, [.int zth, .int zsz, .int zch, .ref ak, .ref av, .ref bk, .ref bv, .ref br, .ref a_s, .ref a_t, .int zsg, .ref g1, .ref g2, .ref g3, .long 0, .long 1, .long 1, .long zl4, .int zpb, .ref pa, .ref ru, .ref tx, .int zln, .int zat, .int zrk, .int zrv, .int zre, .int zwr, .int zrm, .int zrs, .int zis, .int zss, .int zsc, .ref dk, .ref dv, .ref ek, .ref ev, .ref er, .ref es, .ref et]))] H := hP
  have hD : va_D A [(h, .inr (9, [.int zth, .int zsz, .int zch, .ref ak, .ref av, .ref bk, .ref bv, .ref br, .ref a_s, .ref a_t, .int zsg, .ref g1, .ref g2, .ref g3, .long 0, .long 1, .long 1, .long zl4, .int zpb, .ref pa, .ref ru, .ref tx, .int zln, .int zat, .int zrk, .int zrv, .int zre, .int zwr, .int zrm, .int zrs, .int zis, .int zss, .int zsc, .ref dk, .ref dv, .ref ek, .ref ev, .ref er, .ref es, .ref et]))] := hD
  refine lv_aload_n hx hb dX7_startRun_15 rfl (lv_at hl 0 rfl) ?_
  refine lv_lconst (v := 0) hx hb dX7_startRun_16 (by decide) ?_
  refine va_put (D := g.1) (ci := 9) (v := .long 0) (ty := .long) (C := RX7) (T := TX7) (N := 40) hx hb hts (by decide +kernel) tyX7 tyX7_ok nmX7 hown hK hP hD hS 0 rfl rfl 17 (by decide) (hts (.fieldLink RX7 147 "LearnedIndexModel" "highBottom" "J") (by decide +kernel)) (fun _ h9 => h9) rfl (by decide +kernel) rfl rfl (Nat.le_of_ble_eq_true rfl) dX7_startRun_17 (fun H locs hP hD hS => ?_)
  have hP : va_P g.1 vwCl [(h, .inr (9, [.int zth, .int zsz, .int zch, .ref ak, .ref av, .ref bk, .ref bv, .ref br, .ref a_s, .ref a_t, .int zsg, .ref g1, .ref g2, .ref g3, .long 0, .long 1, .long 1, .long 0, .int zpb, .ref pa, .ref ru, .ref tx, .int zln, .int zat, .int zrk, .int zrv, .int zre, .int zwr, .int zrm, .int zrs, .int zis, .int zss, .int zsc, .ref dk, .ref dv, .ref ek, .ref ev, .ref er, .ref es, .ref et]))] H := hP
  have hD : va_D A [(h, .inr (9, [.int zth, .int zsz, .int zch, .ref ak, .ref av, .ref bk, .ref bv, .ref br, .ref a_s, .ref a_t, .int zsg, .ref g1, .ref g2, .ref g3, .long 0, .long 1, .long 1, .long 0, .int zpb, .ref pa, .ref ru, .ref tx, .int zln, .int zat, .int zrk, .int zrv, .int zre, .int zwr, .int zrm, .int zrs, .int zis, .int zss, .int zsc, .ref dk, .ref dv, .ref ek, .ref ev, .ref er, .ref es, .ref et]))] := hD
  exact kretv hx hb hRt hlk hK hP hD hS rfl dX7_startRun_20 (rfl)
theorem dX7_narrows_0 : decode cX7_narrows 0 = .ok (.aload_n 0, 1) := by decide +kernel
theorem dX7_narrows_1 : decode cX7_narrows 1 = .ok (.getfield 9, 3) := by decide +kernel
theorem dX7_narrows_4 : decode cX7_narrows 4 = .ok (.iload_n 2, 1) := by decide +kernel
theorem dX7_narrows_5 : decode cX7_narrows 5 = .ok (.iaload, 1) := by decide +kernel
theorem dX7_narrows_6 : decode cX7_narrows 6 = .ok (.aload_n 0, 1) := by decide +kernel
theorem dX7_narrows_7 : decode cX7_narrows 7 = .ok (.getfield 9, 3) := by decide +kernel
theorem dX7_narrows_10 : decode cX7_narrows 10 = .ok (.iload_n 1, 1) := by decide +kernel
theorem dX7_narrows_11 : decode cX7_narrows 11 = .ok (.iaload, 1) := by decide +kernel
theorem dX7_narrows_12 : decode cX7_narrows 12 = .ok (.isub, 1) := by decide +kernel
theorem dX7_narrows_13 : decode cX7_narrows 13 = .ok (.i2l, 1) := by decide +kernel
theorem dX7_narrows_14 : decode cX7_narrows 14 = .ok (.lstore 4, 2) := by decide +kernel
theorem dX7_narrows_16 : decode cX7_narrows 16 = .ok (.iload_n 2, 1) := by decide +kernel
theorem dX7_narrows_17 : decode cX7_narrows 17 = .ok (.iload_n 1, 1) := by decide +kernel
theorem dX7_narrows_18 : decode cX7_narrows 18 = .ok (.isub, 1) := by decide +kernel
theorem dX7_narrows_19 : decode cX7_narrows 19 = .ok (.iload_n 3, 1) := by decide +kernel
theorem dX7_narrows_20 : decode cX7_narrows 20 = .ok (.isub, 1) := by decide +kernel
theorem dX7_narrows_21 : decode cX7_narrows 21 = .ok (.i2l, 1) := by decide +kernel
theorem dX7_narrows_22 : decode cX7_narrows 22 = .ok (.lstore 6, 2) := by decide +kernel
theorem dX7_narrows_24 : decode cX7_narrows 24 = .ok (.iload_n 2, 1) := by decide +kernel
theorem dX7_narrows_25 : decode cX7_narrows 25 = .ok (.iload_n 1, 1) := by decide +kernel
theorem dX7_narrows_26 : decode cX7_narrows 26 = .ok (.isub, 1) := by decide +kernel
theorem dX7_narrows_27 : decode cX7_narrows 27 = .ok (.iload_n 3, 1) := by decide +kernel
theorem dX7_narrows_28 : decode cX7_narrows 28 = .ok (.iadd, 1) := by decide +kernel
theorem dX7_narrows_29 : decode cX7_narrows 29 = .ok (.i2l, 1) := by decide +kernel
theorem dX7_narrows_30 : decode cX7_narrows 30 = .ok (.lstore 8, 2) := by decide +kernel
theorem dX7_narrows_32 : decode cX7_narrows 32 = .ok (.lload 6, 2) := by decide +kernel
theorem dX7_narrows_34 : decode cX7_narrows 34 = .ok (.aload_n 0, 1) := by decide +kernel
theorem dX7_narrows_35 : decode cX7_narrows 35 = .ok (.getfield 140, 3) := by decide +kernel
theorem dX7_narrows_38 : decode cX7_narrows 38 = .ok (.lmul, 1) := by decide +kernel
theorem dX7_narrows_39 : decode cX7_narrows 39 = .ok (.aload_n 0, 1) := by decide +kernel
theorem dX7_narrows_40 : decode cX7_narrows 40 = .ok (.getfield 144, 3) := by decide +kernel
theorem dX7_narrows_43 : decode cX7_narrows 43 = .ok (.lload 4, 2) := by decide +kernel
theorem dX7_narrows_45 : decode cX7_narrows 45 = .ok (.lmul, 1) := by decide +kernel
theorem dX7_narrows_46 : decode cX7_narrows 46 = .ok (.lcmp, 1) := by decide +kernel
theorem dX7_narrows_47 : decode cX7_narrows 47 = .ok (.ifCond .le 15, 3) := by decide +kernel
theorem dX7_narrows_50 : decode cX7_narrows 50 = .ok (.aload_n 0, 1) := by decide +kernel
theorem dX7_narrows_51 : decode cX7_narrows 51 = .ok (.lload 6, 2) := by decide +kernel
theorem dX7_narrows_53 : decode cX7_narrows 53 = .ok (.putfield 144, 3) := by decide +kernel
theorem dX7_narrows_56 : decode cX7_narrows 56 = .ok (.aload_n 0, 1) := by decide +kernel
theorem dX7_narrows_57 : decode cX7_narrows 57 = .ok (.lload 4, 2) := by decide +kernel
theorem dX7_narrows_59 : decode cX7_narrows 59 = .ok (.putfield 140, 3) := by decide +kernel
theorem dX7_narrows_62 : decode cX7_narrows 62 = .ok (.aload_n 0, 1) := by decide +kernel
theorem dX7_narrows_63 : decode cX7_narrows 63 = .ok (.getfield 147, 3) := by decide +kernel
theorem dX7_narrows_66 : decode cX7_narrows 66 = .ok (.lconst 0, 1) := by decide +kernel
theorem dX7_narrows_67 : decode cX7_narrows 67 = .ok (.lcmp, 1) := by decide +kernel
theorem dX7_narrows_68 : decode cX7_narrows 68 = .ok (.ifCond .eq 21, 3) := by decide +kernel
theorem dX7_narrows_71 : decode cX7_narrows 71 = .ok (.lload 8, 2) := by decide +kernel
theorem dX7_narrows_73 : decode cX7_narrows 73 = .ok (.aload_n 0, 1) := by decide +kernel
theorem dX7_narrows_74 : decode cX7_narrows 74 = .ok (.getfield 147, 3) := by decide +kernel
theorem dX7_narrows_77 : decode cX7_narrows 77 = .ok (.lmul, 1) := by decide +kernel
theorem dX7_narrows_78 : decode cX7_narrows 78 = .ok (.aload_n 0, 1) := by decide +kernel
theorem dX7_narrows_79 : decode cX7_narrows 79 = .ok (.getfield 150, 3) := by decide +kernel
theorem dX7_narrows_82 : decode cX7_narrows 82 = .ok (.lload 4, 2) := by decide +kernel
theorem dX7_narrows_84 : decode cX7_narrows 84 = .ok (.lmul, 1) := by decide +kernel
theorem dX7_narrows_85 : decode cX7_narrows 85 = .ok (.lcmp, 1) := by decide +kernel
theorem dX7_narrows_86 : decode cX7_narrows 86 = .ok (.ifCond .ge 15, 3) := by decide +kernel
theorem dX7_narrows_89 : decode cX7_narrows 89 = .ok (.aload_n 0, 1) := by decide +kernel
theorem dX7_narrows_90 : decode cX7_narrows 90 = .ok (.lload 8, 2) := by decide +kernel
theorem dX7_narrows_92 : decode cX7_narrows 92 = .ok (.putfield 150, 3) := by decide +kernel
theorem dX7_narrows_95 : decode cX7_narrows 95 = .ok (.aload_n 0, 1) := by decide +kernel
theorem dX7_narrows_96 : decode cX7_narrows 96 = .ok (.lload 4, 2) := by decide +kernel
theorem dX7_narrows_98 : decode cX7_narrows 98 = .ok (.putfield 147, 3) := by decide +kernel
theorem dX7_narrows_101 : decode cX7_narrows 101 = .ok (.aload_n 0, 1) := by decide +kernel
theorem dX7_narrows_102 : decode cX7_narrows 102 = .ok (.getfield 144, 3) := by decide +kernel
theorem dX7_narrows_105 : decode cX7_narrows 105 = .ok (.aload_n 0, 1) := by decide +kernel
theorem dX7_narrows_106 : decode cX7_narrows 106 = .ok (.getfield 147, 3) := by decide +kernel
theorem dX7_narrows_109 : decode cX7_narrows 109 = .ok (.lmul, 1) := by decide +kernel
theorem dX7_narrows_110 : decode cX7_narrows 110 = .ok (.aload_n 0, 1) := by decide +kernel
theorem dX7_narrows_111 : decode cX7_narrows 111 = .ok (.getfield 150, 3) := by decide +kernel
theorem dX7_narrows_114 : decode cX7_narrows 114 = .ok (.aload_n 0, 1) := by decide +kernel
theorem dX7_narrows_115 : decode cX7_narrows 115 = .ok (.getfield 140, 3) := by decide +kernel
theorem dX7_narrows_118 : decode cX7_narrows 118 = .ok (.lmul, 1) := by decide +kernel
theorem dX7_narrows_119 : decode cX7_narrows 119 = .ok (.lcmp, 1) := by decide +kernel
theorem dX7_narrows_120 : decode cX7_narrows 120 = .ok (.ifCond .gt 7, 3) := by decide +kernel
theorem dX7_narrows_123 : decode cX7_narrows 123 = .ok (.iconst 1, 1) := by decide +kernel
theorem dX7_narrows_124 : decode cX7_narrows 124 = .ok (.goto 4, 3) := by decide +kernel
theorem dX7_narrows_127 : decode cX7_narrows 127 = .ok (.iconst 0, 1) := by decide +kernel
theorem dX7_narrows_128 : decode cX7_narrows 128 = .ok (.ireturn, 1) := by decide +kernel
def rm_X7_narrows : Room := { frames := 0, cells := 0, slots := 0, locals := 0 }
abbrev p_X7_narrows (g : kG) (h : Nat) (zth : Int32) (zch : Int32) (zsg : Int32) (zpb : Int32) (zln : Int32) (zat : Int32) (zrk : Int32) (zrv : Int32) (zre : Int32) (zwr : Int32) (zrm : Int32) (zrs : Int32) (zis : Int32) (zss : Int32) (zsc : Int32) (ak : Nat) (av : Nat) (bk : Nat) (bv : Nat) (br : Nat) (a_s : Nat) (a_t : Nat) (g1 : Nat) (g2 : Nat) (g3 : Nat) (pa : Nat) (ru : Nat) (tx : Nat) (dk : Nat) (dv : Nat) (ek : Nat) (ev : Nat) (er : Nat) (es : Nat) (et : Nat) (nA : Nat) (fk : Nat → Int32) (a : Int) (b : Int) (C : Int) (D : Int) (β : Int) (i : Nat) (q : Nat) (κ : Nat → Int) : Int32 → va_W → Prop := fun r w1 => r = kbool (decide ((nrL β ((q : Int) - (i : Int)) (κ q - κ i) a b).1 * (nrH β ((q : Int) - (i : Int)) (κ q - κ i) C D).2 ≤ (nrH β ((q : Int) - (i : Int)) (κ q - κ i) C D).1 * (nrL β ((q : Int) - (i : Int)) (κ q - κ i) a b).2)) ∧ w1 = [(h, .inr (9, [.int zth, .int (nI nA), .int zch, .ref ak, .ref av, .ref bk, .ref bv, .ref br, .ref a_s, .ref a_t, .int zsg, .ref g1, .ref g2, .ref g3, .long (kL (nrL β ((q : Int) - (i : Int)) (κ q - κ i) a b).1), .long (kL (nrL β ((q : Int) - (i : Int)) (κ q - κ i) a b).2), .long (kL (nrH β ((q : Int) - (i : Int)) (κ q - κ i) C D).1), .long (kL (nrH β ((q : Int) - (i : Int)) (κ q - κ i) C D).2), .int zpb, .ref pa, .ref ru, .ref tx, .int zln, .int zat, .int zrk, .int zrv, .int zre, .int zwr, .int zrm, .int zrs, .int zis, .int zss, .int zsc, .ref dk, .ref dv, .ref ek, .ref ev, .ref er, .ref es, .ref et])), (ak, .inl (g.2.1.1, 152, .inl fk))]
set_option maxHeartbeats 4000000 in
set_option maxRecDepth 100000 in
theorem c_X7_narrows (l : Launch) (g : kG) (h : Nat) (zth : Int32) (zch : Int32) (zsg : Int32) (zpb : Int32) (zln : Int32) (zat : Int32) (zrk : Int32) (zrv : Int32) (zre : Int32) (zwr : Int32) (zrm : Int32) (zrs : Int32) (zis : Int32) (zss : Int32) (zsc : Int32) (ak : Nat) (av : Nat) (bk : Nat) (bv : Nat) (br : Nat) (a_s : Nat) (a_t : Nat) (g1 : Nat) (g2 : Nat) (g3 : Nat) (pa : Nat) (ru : Nat) (tx : Nat) (dk : Nat) (dv : Nat) (ek : Nat) (ev : Nat) (er : Nat) (es : Nat) (et : Nat) (nA : Nat) (fk : Nat → Int32) (a : Int) (b : Int) (C : Int) (D : Int) (β : Int) (i : Nat) (q : Nat) (κ : Nat → Int) (hκ : ∀ j, j < nA → fk j = kI (κ j)) (hasc : kasc κ nA) (hn : nA ≤ 150) (hβ : 0 ≤ β ∧ β ≤ 8) (hiq : i < q ∧ q < nA) (hm : kmb a b C D) : KI l yX7_narrows wsX7_narrows rm_X7_narrows g [.ref h, .int (nI i), .int (nI q), .int (kI β)] [(h, .inr (9, [.int zth, .int (nI nA), .int zch, .ref ak, .ref av, .ref bk, .ref bv, .ref br, .ref a_s, .ref a_t, .int zsg, .ref g1, .ref g2, .ref g3, .long (kL a), .long (kL b), .long (kL C), .long (kL D), .int zpb, .ref pa, .ref ru, .ref tx, .int zln, .int zat, .int zrk, .int zrv, .int zre, .int zwr, .int zrm, .int zrs, .int zis, .int zss, .int zsc, .ref dk, .ref dv, .ref ek, .ref ev, .ref er, .ref es, .ref et])), (ak, .inl (g.2.1.1, 152, .inl fk))] (p_X7_narrows g h zth zch zsg zpb zln zat zrk zrv zre zwr zrm zrs zis zss zsc ak av bk bv br a_s a_t g1 g2 g3 pa ru tx dk dv ek ev er es et nA fk a b C D β i q κ) := by
  refine kbodyI (cc := cX7_narrows) (n := 10) (k := 2) (own := RX7) (plainFor_of_name (by decide)) rfl rfl rfl rfl ?_
  intro p e s m below meth cd A ls hcx
  obtain ⟨hx, hb, hRt, hml, hts, hown, hlk, hA, hP, hK, hD, hE, hS, hl⟩ := hcx
  have hl : lv_has ls 10 [(0, .ref h), (1, .int (nI i)), (2, .int (nI q)), (3, .int (kI β))] := hl
  have hkd := kasc_d hasc hiq.1 hiq.2
  have hin : i < nA := Nat.lt_trans hiq.1 hiq.2
  obtain ⟨ρ, hρ⟩ : ∃ z : Int, z = (q : Int) - (i : Int) := ⟨_, rfl⟩
  obtain ⟨δ, hδ⟩ : ∃ z : Int, z = κ q - κ i := ⟨_, rfl⟩
  obtain ⟨w1, w2, w3, w4, w5, w6, w7, w8, w0, w9, w10⟩ := nfacts (ρ := ρ) (δ := δ) hm hβ (by omega)
  have hi152 : i < 152 ∧ q < 152 ∧ i < 2 ^ 31 ∧ q < 2 ^ 31 := by omega
  clear hm hkd hasc
  refine lv_aload_n hx hb dX7_narrows_0 rfl (lv_at hl 0 rfl) ?_
  refine va_get (D := g.1) (ci := 9) (v := .ref ak) (C := RX7) (T := TX7) (N := 40) hx hb hts (by decide +kernel) hown hK hP 0 rfl rfl 3 (by decide) (hts (.fieldLink RX7 9 "LearnedIndexModel" "keys" "[I") (by decide +kernel)) (fun _ h9 => h9) rfl dX7_narrows_1 ?_
  refine lv_iload_n hx hb dX7_narrows_4 rfl (lv_at hl 2 rfl) ?_
  refine va_iald hx hb hK hP 1 0 rfl rfl (vp_in_nI (show q < 152 by omega) (by omega)) dX7_narrows_5 ?_
  rw [show (nI q : Int32).toNatClampNeg = q from nI_clamp (n := q) (by omega)]
  refine lv_aload_n hx hb dX7_narrows_6 rfl (lv_at hl 0 rfl) ?_
  refine va_get (D := g.1) (ci := 9) (v := .ref ak) (C := RX7) (T := TX7) (N := 40) hx hb hts (by decide +kernel) hown hK hP 0 rfl rfl 3 (by decide) (hts (.fieldLink RX7 9 "LearnedIndexModel" "keys" "[I") (by decide +kernel)) (fun _ h9 => h9) rfl dX7_narrows_7 ?_
  refine lv_iload_n hx hb dX7_narrows_10 rfl (lv_at hl 1 rfl) ?_
  refine va_iald hx hb hK hP 1 0 rfl rfl (vp_in_nI (show i < 152 by omega) (by omega)) dX7_narrows_11 ?_
  rw [show (nI i : Int32).toNatClampNeg = i from nI_clamp (n := i) (by omega)]
  refine lv_isub hx hb dX7_narrows_12 ?_
  rw [show ((fk q) - (fk i) : Int32) = kI δ from by rw [hκ q hiq.2, hκ i hin, kI_sub, hδ]]
  refine lv_i2l hx hb dX7_narrows_13 rfl ?_
  rw [show ((kI δ).toInt64 : Int64) = kL δ from kL_I3 w3]
  refine lv_lstore (lv' := [(4, .long (kL δ)), (0, .ref h), (1, .int (nI i)), (2, .int (nI q)), (3, .int (kI β))]) hx hb dX7_narrows_14 hl (by decide) rfl (fun ls hl => ?_)
  refine lv_iload_n hx hb dX7_narrows_16 rfl (lv_at hl 3 rfl) ?_
  refine lv_iload_n hx hb dX7_narrows_17 rfl (lv_at hl 2 rfl) ?_
  refine lv_isub hx hb dX7_narrows_18 ?_
  rw [show ((nI q) - (nI i) : Int32) = kI ρ from by rw [kI_nI, kI_nI, kI_sub, hρ]]
  refine lv_iload_n hx hb dX7_narrows_19 rfl (lv_at hl 4 rfl) ?_
  refine lv_isub hx hb dX7_narrows_20 ?_
  rw [show ((kI ρ) - (kI β) : Int32) = kI (ρ - β) from kI_sub _ _]
  refine lv_i2l hx hb dX7_narrows_21 rfl ?_
  rw [show ((kI (ρ - β)).toInt64 : Int64) = kL (ρ - β) from kL_I3 w1]
  refine lv_lstore (lv' := [(6, .long (kL (ρ - β))), (4, .long (kL δ)), (0, .ref h), (1, .int (nI i)), (2, .int (nI q)), (3, .int (kI β))]) hx hb dX7_narrows_22 hl (by decide) rfl (fun ls hl => ?_)
  refine lv_iload_n hx hb dX7_narrows_24 rfl (lv_at hl 4 rfl) ?_
  refine lv_iload_n hx hb dX7_narrows_25 rfl (lv_at hl 3 rfl) ?_
  refine lv_isub hx hb dX7_narrows_26 ?_
  rw [show ((nI q) - (nI i) : Int32) = kI ρ from by rw [kI_nI, kI_nI, kI_sub, hρ]]
  refine lv_iload_n hx hb dX7_narrows_27 rfl (lv_at hl 5 rfl) ?_
  refine lv_iadd hx hb dX7_narrows_28 ?_
  rw [show ((kI ρ) + (kI β) : Int32) = kI (ρ + β) from kI_add _ _]
  refine lv_i2l hx hb dX7_narrows_29 rfl ?_
  rw [show ((kI (ρ + β)).toInt64 : Int64) = kL (ρ + β) from kL_I3 w2]
  refine lv_lstore (lv' := [(8, .long (kL (ρ + β))), (6, .long (kL (ρ - β))), (4, .long (kL δ)), (0, .ref h), (1, .int (nI i)), (2, .int (nI q)), (3, .int (kI β))]) hx hb dX7_narrows_30 hl (by decide) rfl (fun ls hl => ?_)
  refine lv_lload hx hb dX7_narrows_32 (lv_at hl 1 rfl) ?_
  refine lv_aload_n hx hb dX7_narrows_34 rfl (lv_at hl 3 rfl) ?_
  refine va_get (D := g.1) (ci := 9) (v := .long (kL b)) (C := RX7) (T := TX7) (N := 40) hx hb hts (by decide +kernel) hown hK hP 0 rfl rfl 15 (by decide) (hts (.fieldLink RX7 140 "LearnedIndexModel" "lowBottom" "J") (by decide +kernel)) (fun _ h9 => h9) rfl dX7_narrows_35 ?_
  refine lv_lmul hx hb dX7_narrows_38 ?_
  rw [show ((kL (ρ - β)) * (kL b) : Int64) = kL ((ρ - β) * b) from kL_mul _ _]
  refine lv_aload_n hx hb dX7_narrows_39 rfl (lv_at hl 3 rfl) ?_
  refine va_get (D := g.1) (ci := 9) (v := .long (kL a)) (C := RX7) (T := TX7) (N := 40) hx hb hts (by decide +kernel) hown hK hP 0 rfl rfl 14 (by decide) (hts (.fieldLink RX7 144 "LearnedIndexModel" "lowTop" "J") (by decide +kernel)) (fun _ h9 => h9) rfl dX7_narrows_40 ?_
  refine lv_lload hx hb dX7_narrows_43 (lv_at hl 2 rfl) ?_
  refine lv_lmul hx hb dX7_narrows_45 ?_
  rw [show ((kL a) * (kL δ) : Int64) = kL (a * δ) from kL_mul _ _]
  refine W.lcmp hx hb dX7_narrows_46 ?_
  refine lv_if_le (tgt := 62) hx hb dX7_narrows_47 (by decide) (fun c_47 => ?_) (fun c_47 => ?_)
  · skip
    rw [lg3_le w4 w5] at c_47
    have hL : nrL β ρ δ a b = (a, b) := by rw [nrL, if_neg (Int.not_lt.mpr c_47)]
    refine lv_aload_n hx hb dX7_narrows_62 rfl (lv_at hl 3 rfl) ?_
    refine va_get (D := g.1) (ci := 9) (v := .long (kL D)) (C := RX7) (T := TX7) (N := 40) hx hb hts (by decide +kernel) hown hK hP 0 rfl rfl 17 (by decide) (hts (.fieldLink RX7 147 "LearnedIndexModel" "highBottom" "J") (by decide +kernel)) (fun _ h9 => h9) rfl dX7_narrows_63 ?_
    refine lv_lconst (v := 0) hx hb dX7_narrows_66 (by decide) ?_
    rw [show (0 : Int64) = kL 0 from rfl]
    refine W.lcmp hx hb dX7_narrows_67 ?_
    refine lv_if_eq (tgt := 89) hx hb dX7_narrows_68 (by decide) (fun c_68 => ?_) (fun c_68 => ?_)
    · skip
      rw [lg3_eq w8 w0] at c_68
      have hH : nrH β ρ δ C D = (ρ + β, δ) := by rw [nrH, if_pos (Or.inl c_68)]
      refine lv_aload_n hx hb dX7_narrows_89 rfl (lv_at hl 3 rfl) ?_
      refine lv_lload hx hb dX7_narrows_90 (lv_at hl 0 rfl) ?_
      refine va_put (D := g.1) (ci := 9) (v := .long (kL (ρ + β))) (ty := .long) (C := RX7) (T := TX7) (N := 40) hx hb hts (by decide +kernel) tyX7 tyX7_ok nmX7 hown hK hP hD hS 0 rfl rfl 16 (by decide) (hts (.fieldLink RX7 150 "LearnedIndexModel" "highTop" "J") (by decide +kernel)) (fun _ h9 => h9) rfl (by decide +kernel) rfl rfl (Nat.le_of_ble_eq_true rfl) dX7_narrows_92 (fun H locs hP hD hS => ?_)
      have hP : va_P g.1 vwCl [(h, .inr (9, [.int zth, .int (nI nA), .int zch, .ref ak, .ref av, .ref bk, .ref bv, .ref br, .ref a_s, .ref a_t, .int zsg, .ref g1, .ref g2, .ref g3, .long (kL a), .long (kL b), .long (kL (ρ + β)), .long (kL D), .int zpb, .ref pa, .ref ru, .ref tx, .int zln, .int zat, .int zrk, .int zrv, .int zre, .int zwr, .int zrm, .int zrs, .int zis, .int zss, .int zsc, .ref dk, .ref dv, .ref ek, .ref ev, .ref er, .ref es, .ref et])), (ak, .inl (g.2.1.1, 152, .inl fk))] H := hP
      have hD : va_D A [(h, .inr (9, [.int zth, .int (nI nA), .int zch, .ref ak, .ref av, .ref bk, .ref bv, .ref br, .ref a_s, .ref a_t, .int zsg, .ref g1, .ref g2, .ref g3, .long (kL a), .long (kL b), .long (kL (ρ + β)), .long (kL D), .int zpb, .ref pa, .ref ru, .ref tx, .int zln, .int zat, .int zrk, .int zrv, .int zre, .int zwr, .int zrm, .int zrs, .int zis, .int zss, .int zsc, .ref dk, .ref dv, .ref ek, .ref ev, .ref er, .ref es, .ref et])), (ak, .inl (g.2.1.1, 152, .inl fk))] := hD
      refine lv_aload_n hx hb dX7_narrows_95 rfl (lv_at hl 3 rfl) ?_
      refine lv_lload hx hb dX7_narrows_96 (lv_at hl 2 rfl) ?_
      refine va_put (D := g.1) (ci := 9) (v := .long (kL δ)) (ty := .long) (C := RX7) (T := TX7) (N := 40) hx hb hts (by decide +kernel) tyX7 tyX7_ok nmX7 hown hK hP hD hS 0 rfl rfl 17 (by decide) (hts (.fieldLink RX7 147 "LearnedIndexModel" "highBottom" "J") (by decide +kernel)) (fun _ h9 => h9) rfl (by decide +kernel) rfl rfl (Nat.le_of_ble_eq_true rfl) dX7_narrows_98 (fun H locs hP hD hS => ?_)
      have hP : va_P g.1 vwCl [(h, .inr (9, [.int zth, .int (nI nA), .int zch, .ref ak, .ref av, .ref bk, .ref bv, .ref br, .ref a_s, .ref a_t, .int zsg, .ref g1, .ref g2, .ref g3, .long (kL a), .long (kL b), .long (kL (ρ + β)), .long (kL δ), .int zpb, .ref pa, .ref ru, .ref tx, .int zln, .int zat, .int zrk, .int zrv, .int zre, .int zwr, .int zrm, .int zrs, .int zis, .int zss, .int zsc, .ref dk, .ref dv, .ref ek, .ref ev, .ref er, .ref es, .ref et])), (ak, .inl (g.2.1.1, 152, .inl fk))] H := hP
      have hD : va_D A [(h, .inr (9, [.int zth, .int (nI nA), .int zch, .ref ak, .ref av, .ref bk, .ref bv, .ref br, .ref a_s, .ref a_t, .int zsg, .ref g1, .ref g2, .ref g3, .long (kL a), .long (kL b), .long (kL (ρ + β)), .long (kL δ), .int zpb, .ref pa, .ref ru, .ref tx, .int zln, .int zat, .int zrk, .int zrv, .int zre, .int zwr, .int zrm, .int zrs, .int zis, .int zss, .int zsc, .ref dk, .ref dv, .ref ek, .ref ev, .ref er, .ref es, .ref et])), (ak, .inl (g.2.1.1, 152, .inl fk))] := hD
      refine lv_aload_n hx hb dX7_narrows_101 rfl (lv_at hl 3 rfl) ?_
      refine va_get (D := g.1) (ci := 9) (v := .long (kL a)) (C := RX7) (T := TX7) (N := 40) hx hb hts (by decide +kernel) hown hK hP 0 rfl rfl 14 (by decide) (hts (.fieldLink RX7 144 "LearnedIndexModel" "lowTop" "J") (by decide +kernel)) (fun _ h9 => h9) rfl dX7_narrows_102 ?_
      refine lv_aload_n hx hb dX7_narrows_105 rfl (lv_at hl 3 rfl) ?_
      refine va_get (D := g.1) (ci := 9) (v := .long (kL δ)) (C := RX7) (T := TX7) (N := 40) hx hb hts (by decide +kernel) hown hK hP 0 rfl rfl 17 (by decide) (hts (.fieldLink RX7 147 "LearnedIndexModel" "highBottom" "J") (by decide +kernel)) (fun _ h9 => h9) rfl dX7_narrows_106 ?_
      refine lv_lmul hx hb dX7_narrows_109 ?_
      rw [show ((kL a) * (kL δ) : Int64) = kL ((nrL β ρ δ a b).1 * (nrH β ρ δ C D).2) from by rw [hL, hH, kL_mul]]
      refine lv_aload_n hx hb dX7_narrows_110 rfl (lv_at hl 3 rfl) ?_
      refine va_get (D := g.1) (ci := 9) (v := .long (kL (ρ + β))) (C := RX7) (T := TX7) (N := 40) hx hb hts (by decide +kernel) hown hK hP 0 rfl rfl 16 (by decide) (hts (.fieldLink RX7 150 "LearnedIndexModel" "highTop" "J") (by decide +kernel)) (fun _ h9 => h9) rfl dX7_narrows_111 ?_
      refine lv_aload_n hx hb dX7_narrows_114 rfl (lv_at hl 3 rfl) ?_
      refine va_get (D := g.1) (ci := 9) (v := .long (kL b)) (C := RX7) (T := TX7) (N := 40) hx hb hts (by decide +kernel) hown hK hP 0 rfl rfl 15 (by decide) (hts (.fieldLink RX7 140 "LearnedIndexModel" "lowBottom" "J") (by decide +kernel)) (fun _ h9 => h9) rfl dX7_narrows_115 ?_
      refine lv_lmul hx hb dX7_narrows_118 ?_
      rw [show ((kL (ρ + β)) * (kL b) : Int64) = kL ((nrH β ρ δ C D).1 * (nrL β ρ δ a b).2) from by rw [hL, hH, kL_mul]]
      refine W.lcmp hx hb dX7_narrows_119 ?_
      refine lv_if_gt (tgt := 127) hx hb dX7_narrows_120 (by decide) (fun c_120 => ?_) (fun c_120 => ?_)
      · skip
        rw [lg3_gt w9 w10] at c_120
        refine lv_iconst (v := 0) hx hb dX7_narrows_127 (by decide) ?_
        exact kretz hx hb hRt hlk hK hP hD hS rfl dX7_narrows_128 (by decide) (⟨by subst hρ; subst hδ; rw [decide_eq_false (Int.not_le.mpr c_120)]; rfl, by subst hρ; subst hδ; rw [hL, hH]⟩)
      · skip
        rw [lg3_gt w9 w10] at c_120
        refine lv_iconst (v := 1) hx hb dX7_narrows_123 (by decide) ?_
        refine lv_goto (tgt := 128) hx hb dX7_narrows_124 (by decide) ?_
        exact kretz hx hb hRt hlk hK hP hD hS rfl dX7_narrows_128 (by decide) (⟨by subst hρ; subst hδ; rw [decide_eq_true (Int.not_lt.mp c_120)]; rfl, by subst hρ; subst hδ; rw [hL, hH]⟩)
    · skip
      rw [lg3_eq w8 w0] at c_68
      refine lv_lload hx hb dX7_narrows_71 (lv_at hl 0 rfl) ?_
      refine lv_aload_n hx hb dX7_narrows_73 rfl (lv_at hl 3 rfl) ?_
      refine va_get (D := g.1) (ci := 9) (v := .long (kL D)) (C := RX7) (T := TX7) (N := 40) hx hb hts (by decide +kernel) hown hK hP 0 rfl rfl 17 (by decide) (hts (.fieldLink RX7 147 "LearnedIndexModel" "highBottom" "J") (by decide +kernel)) (fun _ h9 => h9) rfl dX7_narrows_74 ?_
      refine lv_lmul hx hb dX7_narrows_77 ?_
      rw [show ((kL (ρ + β)) * (kL D) : Int64) = kL ((ρ + β) * D) from kL_mul _ _]
      refine lv_aload_n hx hb dX7_narrows_78 rfl (lv_at hl 3 rfl) ?_
      refine va_get (D := g.1) (ci := 9) (v := .long (kL C)) (C := RX7) (T := TX7) (N := 40) hx hb hts (by decide +kernel) hown hK hP 0 rfl rfl 16 (by decide) (hts (.fieldLink RX7 150 "LearnedIndexModel" "highTop" "J") (by decide +kernel)) (fun _ h9 => h9) rfl dX7_narrows_79 ?_
      refine lv_lload hx hb dX7_narrows_82 (lv_at hl 2 rfl) ?_
      refine lv_lmul hx hb dX7_narrows_84 ?_
      rw [show ((kL C) * (kL δ) : Int64) = kL (C * δ) from kL_mul _ _]
      refine W.lcmp hx hb dX7_narrows_85 ?_
      refine lv_if_ge (tgt := 101) hx hb dX7_narrows_86 (by decide) (fun c_86 => ?_) (fun c_86 => ?_)
      · skip
        rw [lg3_ge w6 w7] at c_86
        have hH : nrH β ρ δ C D = (C, D) := by rw [nrH, if_neg (fun z => z.elim c_68 (fun z2 => (Int.not_lt.mpr c_86) z2))]
        refine lv_aload_n hx hb dX7_narrows_101 rfl (lv_at hl 3 rfl) ?_
        refine va_get (D := g.1) (ci := 9) (v := .long (kL a)) (C := RX7) (T := TX7) (N := 40) hx hb hts (by decide +kernel) hown hK hP 0 rfl rfl 14 (by decide) (hts (.fieldLink RX7 144 "LearnedIndexModel" "lowTop" "J") (by decide +kernel)) (fun _ h9 => h9) rfl dX7_narrows_102 ?_
        refine lv_aload_n hx hb dX7_narrows_105 rfl (lv_at hl 3 rfl) ?_
        refine va_get (D := g.1) (ci := 9) (v := .long (kL D)) (C := RX7) (T := TX7) (N := 40) hx hb hts (by decide +kernel) hown hK hP 0 rfl rfl 17 (by decide) (hts (.fieldLink RX7 147 "LearnedIndexModel" "highBottom" "J") (by decide +kernel)) (fun _ h9 => h9) rfl dX7_narrows_106 ?_
        refine lv_lmul hx hb dX7_narrows_109 ?_
        rw [show ((kL a) * (kL D) : Int64) = kL ((nrL β ρ δ a b).1 * (nrH β ρ δ C D).2) from by rw [hL, hH, kL_mul]]
        refine lv_aload_n hx hb dX7_narrows_110 rfl (lv_at hl 3 rfl) ?_
        refine va_get (D := g.1) (ci := 9) (v := .long (kL C)) (C := RX7) (T := TX7) (N := 40) hx hb hts (by decide +kernel) hown hK hP 0 rfl rfl 16 (by decide) (hts (.fieldLink RX7 150 "LearnedIndexModel" "highTop" "J") (by decide +kernel)) (fun _ h9 => h9) rfl dX7_narrows_111 ?_
        refine lv_aload_n hx hb dX7_narrows_114 rfl (lv_at hl 3 rfl) ?_
        refine va_get (D := g.1) (ci := 9) (v := .long (kL b)) (C := RX7) (T := TX7) (N := 40) hx hb hts (by decide +kernel) hown hK hP 0 rfl rfl 15 (by decide) (hts (.fieldLink RX7 140 "LearnedIndexModel" "lowBottom" "J") (by decide +kernel)) (fun _ h9 => h9) rfl dX7_narrows_115 ?_
        refine lv_lmul hx hb dX7_narrows_118 ?_
        rw [show ((kL C) * (kL b) : Int64) = kL ((nrH β ρ δ C D).1 * (nrL β ρ δ a b).2) from by rw [hL, hH, kL_mul]]
        refine W.lcmp hx hb dX7_narrows_119 ?_
        refine lv_if_gt (tgt := 127) hx hb dX7_narrows_120 (by decide) (fun c_120 => ?_) (fun c_120 => ?_)
        · skip
          rw [lg3_gt w9 w10] at c_120
          refine lv_iconst (v := 0) hx hb dX7_narrows_127 (by decide) ?_
          exact kretz hx hb hRt hlk hK hP hD hS rfl dX7_narrows_128 (by decide) (⟨by subst hρ; subst hδ; rw [decide_eq_false (Int.not_le.mpr c_120)]; rfl, by subst hρ; subst hδ; rw [hL, hH]⟩)
        · skip
          rw [lg3_gt w9 w10] at c_120
          refine lv_iconst (v := 1) hx hb dX7_narrows_123 (by decide) ?_
          refine lv_goto (tgt := 128) hx hb dX7_narrows_124 (by decide) ?_
          exact kretz hx hb hRt hlk hK hP hD hS rfl dX7_narrows_128 (by decide) (⟨by subst hρ; subst hδ; rw [decide_eq_true (Int.not_lt.mp c_120)]; rfl, by subst hρ; subst hδ; rw [hL, hH]⟩)
      · skip
        rw [lg3_ge w6 w7] at c_86
        have hH : nrH β ρ δ C D = (ρ + β, δ) := by rw [nrH, if_pos (Or.inr (Int.not_le.mp c_86))]
        refine lv_aload_n hx hb dX7_narrows_89 rfl (lv_at hl 3 rfl) ?_
        refine lv_lload hx hb dX7_narrows_90 (lv_at hl 0 rfl) ?_
        refine va_put (D := g.1) (ci := 9) (v := .long (kL (ρ + β))) (ty := .long) (C := RX7) (T := TX7) (N := 40) hx hb hts (by decide +kernel) tyX7 tyX7_ok nmX7 hown hK hP hD hS 0 rfl rfl 16 (by decide) (hts (.fieldLink RX7 150 "LearnedIndexModel" "highTop" "J") (by decide +kernel)) (fun _ h9 => h9) rfl (by decide +kernel) rfl rfl (Nat.le_of_ble_eq_true rfl) dX7_narrows_92 (fun H locs hP hD hS => ?_)
        have hP : va_P g.1 vwCl [(h, .inr (9, [.int zth, .int (nI nA), .int zch, .ref ak, .ref av, .ref bk, .ref bv, .ref br, .ref a_s, .ref a_t, .int zsg, .ref g1, .ref g2, .ref g3, .long (kL a), .long (kL b), .long (kL (ρ + β)), .long (kL D), .int zpb, .ref pa, .ref ru, .ref tx, .int zln, .int zat, .int zrk, .int zrv, .int zre, .int zwr, .int zrm, .int zrs, .int zis, .int zss, .int zsc, .ref dk, .ref dv, .ref ek, .ref ev, .ref er, .ref es, .ref et])), (ak, .inl (g.2.1.1, 152, .inl fk))] H := hP
        have hD : va_D A [(h, .inr (9, [.int zth, .int (nI nA), .int zch, .ref ak, .ref av, .ref bk, .ref bv, .ref br, .ref a_s, .ref a_t, .int zsg, .ref g1, .ref g2, .ref g3, .long (kL a), .long (kL b), .long (kL (ρ + β)), .long (kL D), .int zpb, .ref pa, .ref ru, .ref tx, .int zln, .int zat, .int zrk, .int zrv, .int zre, .int zwr, .int zrm, .int zrs, .int zis, .int zss, .int zsc, .ref dk, .ref dv, .ref ek, .ref ev, .ref er, .ref es, .ref et])), (ak, .inl (g.2.1.1, 152, .inl fk))] := hD
        refine lv_aload_n hx hb dX7_narrows_95 rfl (lv_at hl 3 rfl) ?_
        refine lv_lload hx hb dX7_narrows_96 (lv_at hl 2 rfl) ?_
        refine va_put (D := g.1) (ci := 9) (v := .long (kL δ)) (ty := .long) (C := RX7) (T := TX7) (N := 40) hx hb hts (by decide +kernel) tyX7 tyX7_ok nmX7 hown hK hP hD hS 0 rfl rfl 17 (by decide) (hts (.fieldLink RX7 147 "LearnedIndexModel" "highBottom" "J") (by decide +kernel)) (fun _ h9 => h9) rfl (by decide +kernel) rfl rfl (Nat.le_of_ble_eq_true rfl) dX7_narrows_98 (fun H locs hP hD hS => ?_)
        have hP : va_P g.1 vwCl [(h, .inr (9, [.int zth, .int (nI nA), .int zch, .ref ak, .ref av, .ref bk, .ref bv, .ref br, .ref a_s, .ref a_t, .int zsg, .ref g1, .ref g2, .ref g3, .long (kL a), .long (kL b), .long (kL (ρ + β)), .long (kL δ), .int zpb, .ref pa, .ref ru, .ref tx, .int zln, .int zat, .int zrk, .int zrv, .int zre, .int zwr, .int zrm, .int zrs, .int zis, .int zss, .int zsc, .ref dk, .ref dv, .ref ek, .ref ev, .ref er, .ref es, .ref et])), (ak, .inl (g.2.1.1, 152, .inl fk))] H := hP
        have hD : va_D A [(h, .inr (9, [.int zth, .int (nI nA), .int zch, .ref ak, .ref av, .ref bk, .ref bv, .ref br, .ref a_s, .ref a_t, .int zsg, .ref g1, .ref g2, .ref g3, .long (kL a), .long (kL b), .long (kL (ρ + β)), .long (kL δ), .int zpb, .ref pa, .ref ru, .ref tx, .int zln, .int zat, .int zrk, .int zrv, .int zre, .int zwr, .int zrm, .int zrs, .int zis, .int zss, .int zsc, .ref dk, .ref dv, .ref ek, .ref ev, .ref er, .ref es, .ref et])), (ak, .inl (g.2.1.1, 152, .inl fk))] := hD
        refine lv_aload_n hx hb dX7_narrows_101 rfl (lv_at hl 3 rfl) ?_
        refine va_get (D := g.1) (ci := 9) (v := .long (kL a)) (C := RX7) (T := TX7) (N := 40) hx hb hts (by decide +kernel) hown hK hP 0 rfl rfl 14 (by decide) (hts (.fieldLink RX7 144 "LearnedIndexModel" "lowTop" "J") (by decide +kernel)) (fun _ h9 => h9) rfl dX7_narrows_102 ?_
        refine lv_aload_n hx hb dX7_narrows_105 rfl (lv_at hl 3 rfl) ?_
        refine va_get (D := g.1) (ci := 9) (v := .long (kL δ)) (C := RX7) (T := TX7) (N := 40) hx hb hts (by decide +kernel) hown hK hP 0 rfl rfl 17 (by decide) (hts (.fieldLink RX7 147 "LearnedIndexModel" "highBottom" "J") (by decide +kernel)) (fun _ h9 => h9) rfl dX7_narrows_106 ?_
        refine lv_lmul hx hb dX7_narrows_109 ?_
        rw [show ((kL a) * (kL δ) : Int64) = kL ((nrL β ρ δ a b).1 * (nrH β ρ δ C D).2) from by rw [hL, hH, kL_mul]]
        refine lv_aload_n hx hb dX7_narrows_110 rfl (lv_at hl 3 rfl) ?_
        refine va_get (D := g.1) (ci := 9) (v := .long (kL (ρ + β))) (C := RX7) (T := TX7) (N := 40) hx hb hts (by decide +kernel) hown hK hP 0 rfl rfl 16 (by decide) (hts (.fieldLink RX7 150 "LearnedIndexModel" "highTop" "J") (by decide +kernel)) (fun _ h9 => h9) rfl dX7_narrows_111 ?_
        refine lv_aload_n hx hb dX7_narrows_114 rfl (lv_at hl 3 rfl) ?_
        refine va_get (D := g.1) (ci := 9) (v := .long (kL b)) (C := RX7) (T := TX7) (N := 40) hx hb hts (by decide +kernel) hown hK hP 0 rfl rfl 15 (by decide) (hts (.fieldLink RX7 140 "LearnedIndexModel" "lowBottom" "J") (by decide +kernel)) (fun _ h9 => h9) rfl dX7_narrows_115 ?_
        refine lv_lmul hx hb dX7_narrows_118 ?_
        rw [show ((kL (ρ + β)) * (kL b) : Int64) = kL ((nrH β ρ δ C D).1 * (nrL β ρ δ a b).2) from by rw [hL, hH, kL_mul]]
        refine W.lcmp hx hb dX7_narrows_119 ?_
        refine lv_if_gt (tgt := 127) hx hb dX7_narrows_120 (by decide) (fun c_120 => ?_) (fun c_120 => ?_)
        · skip
          rw [lg3_gt w9 w10] at c_120
          refine lv_iconst (v := 0) hx hb dX7_narrows_127 (by decide) ?_
          exact kretz hx hb hRt hlk hK hP hD hS rfl dX7_narrows_128 (by decide) (⟨by subst hρ; subst hδ; rw [decide_eq_false (Int.not_le.mpr c_120)]; rfl, by subst hρ; subst hδ; rw [hL, hH]⟩)
        · skip
          rw [lg3_gt w9 w10] at c_120
          refine lv_iconst (v := 1) hx hb dX7_narrows_123 (by decide) ?_
          refine lv_goto (tgt := 128) hx hb dX7_narrows_124 (by decide) ?_
          exact kretz hx hb hRt hlk hK hP hD hS rfl dX7_narrows_128 (by decide) (⟨by subst hρ; subst hδ; rw [decide_eq_true (Int.not_lt.mp c_120)]; rfl, by subst hρ; subst hδ; rw [hL, hH]⟩)
  · skip
    rw [lg3_le w4 w5] at c_47
    have hL : nrL β ρ δ a b = (ρ - β, δ) := by rw [nrL, if_pos (Int.not_le.mp c_47)]
    refine lv_aload_n hx hb dX7_narrows_50 rfl (lv_at hl 3 rfl) ?_
    refine lv_lload hx hb dX7_narrows_51 (lv_at hl 1 rfl) ?_
    refine va_put (D := g.1) (ci := 9) (v := .long (kL (ρ - β))) (ty := .long) (C := RX7) (T := TX7) (N := 40) hx hb hts (by decide +kernel) tyX7 tyX7_ok nmX7 hown hK hP hD hS 0 rfl rfl 14 (by decide) (hts (.fieldLink RX7 144 "LearnedIndexModel" "lowTop" "J") (by decide +kernel)) (fun _ h9 => h9) rfl (by decide +kernel) rfl rfl (Nat.le_of_ble_eq_true rfl) dX7_narrows_53 (fun H locs hP hD hS => ?_)
    have hP : va_P g.1 vwCl [(h, .inr (9, [.int zth, .int (nI nA), .int zch, .ref ak, .ref av, .ref bk, .ref bv, .ref br, .ref a_s, .ref a_t, .int zsg, .ref g1, .ref g2, .ref g3, .long (kL (ρ - β)), .long (kL b), .long (kL C), .long (kL D), .int zpb, .ref pa, .ref ru, .ref tx, .int zln, .int zat, .int zrk, .int zrv, .int zre, .int zwr, .int zrm, .int zrs, .int zis, .int zss, .int zsc, .ref dk, .ref dv, .ref ek, .ref ev, .ref er, .ref es, .ref et])), (ak, .inl (g.2.1.1, 152, .inl fk))] H := hP
    have hD : va_D A [(h, .inr (9, [.int zth, .int (nI nA), .int zch, .ref ak, .ref av, .ref bk, .ref bv, .ref br, .ref a_s, .ref a_t, .int zsg, .ref g1, .ref g2, .ref g3, .long (kL (ρ - β)), .long (kL b), .long (kL C), .long (kL D), .int zpb, .ref pa, .ref ru, .ref tx, .int zln, .int zat, .int zrk, .int zrv, .int zre, .int zwr, .int zrm, .int zrs, .int zis, .int zss, .int zsc, .ref dk, .ref dv, .ref ek, .ref ev, .ref er, .ref es, .ref et])), (ak, .inl (g.2.1.1, 152, .inl fk))] := hD
    refine lv_aload_n hx hb dX7_narrows_56 rfl (lv_at hl 3 rfl) ?_
    refine lv_lload hx hb dX7_narrows_57 (lv_at hl 2 rfl) ?_
    refine va_put (D := g.1) (ci := 9) (v := .long (kL δ)) (ty := .long) (C := RX7) (T := TX7) (N := 40) hx hb hts (by decide +kernel) tyX7 tyX7_ok nmX7 hown hK hP hD hS 0 rfl rfl 15 (by decide) (hts (.fieldLink RX7 140 "LearnedIndexModel" "lowBottom" "J") (by decide +kernel)) (fun _ h9 => h9) rfl (by decide +kernel) rfl rfl (Nat.le_of_ble_eq_true rfl) dX7_narrows_59 (fun H locs hP hD hS => ?_)
    have hP : va_P g.1 vwCl [(h, .inr (9, [.int zth, .int (nI nA), .int zch, .ref ak, .ref av, .ref bk, .ref bv, .ref br, .ref a_s, .ref a_t, .int zsg, .ref g1, .ref g2, .ref g3, .long (kL (ρ - β)), .long (kL δ), .long (kL C), .long (kL D), .int zpb, .ref pa, .ref ru, .ref tx, .int zln, .int zat, .int zrk, .int zrv, .int zre, .int zwr, .int zrm, .int zrs, .int zis, .int zss, .int zsc, .ref dk, .ref dv, .ref ek, .ref ev, .ref er, .ref es, .ref et])), (ak, .inl (g.2.1.1, 152, .inl fk))] H := hP
    have hD : va_D A [(h, .inr (9, [.int zth, .int (nI nA), .int zch, .ref ak, .ref av, .ref bk, .ref bv, .ref br, .ref a_s, .ref a_t, .int zsg, .ref g1, .ref g2, .ref g3, .long (kL (ρ - β)), .long (kL δ), .long (kL C), .long (kL D), .int zpb, .ref pa, .ref ru, .ref tx, .int zln, .int zat, .int zrk, .int zrv, .int zre, .int zwr, .int zrm, .int zrs, .int zis, .int zss, .int zsc, .ref dk, .ref dv, .ref ek, .ref ev, .ref er, .ref es, .ref et])), (ak, .inl (g.2.1.1, 152, .inl fk))] := hD
    refine lv_aload_n hx hb dX7_narrows_62 rfl (lv_at hl 3 rfl) ?_
    refine va_get (D := g.1) (ci := 9) (v := .long (kL D)) (C := RX7) (T := TX7) (N := 40) hx hb hts (by decide +kernel) hown hK hP 0 rfl rfl 17 (by decide) (hts (.fieldLink RX7 147 "LearnedIndexModel" "highBottom" "J") (by decide +kernel)) (fun _ h9 => h9) rfl dX7_narrows_63 ?_
    refine lv_lconst (v := 0) hx hb dX7_narrows_66 (by decide) ?_
    rw [show (0 : Int64) = kL 0 from rfl]
    refine W.lcmp hx hb dX7_narrows_67 ?_
    refine lv_if_eq (tgt := 89) hx hb dX7_narrows_68 (by decide) (fun c_68 => ?_) (fun c_68 => ?_)
    · skip
      rw [lg3_eq w8 w0] at c_68
      have hH : nrH β ρ δ C D = (ρ + β, δ) := by rw [nrH, if_pos (Or.inl c_68)]
      refine lv_aload_n hx hb dX7_narrows_89 rfl (lv_at hl 3 rfl) ?_
      refine lv_lload hx hb dX7_narrows_90 (lv_at hl 0 rfl) ?_
      refine va_put (D := g.1) (ci := 9) (v := .long (kL (ρ + β))) (ty := .long) (C := RX7) (T := TX7) (N := 40) hx hb hts (by decide +kernel) tyX7 tyX7_ok nmX7 hown hK hP hD hS 0 rfl rfl 16 (by decide) (hts (.fieldLink RX7 150 "LearnedIndexModel" "highTop" "J") (by decide +kernel)) (fun _ h9 => h9) rfl (by decide +kernel) rfl rfl (Nat.le_of_ble_eq_true rfl) dX7_narrows_92 (fun H locs hP hD hS => ?_)
      have hP : va_P g.1 vwCl [(h, .inr (9, [.int zth, .int (nI nA), .int zch, .ref ak, .ref av, .ref bk, .ref bv, .ref br, .ref a_s, .ref a_t, .int zsg, .ref g1, .ref g2, .ref g3, .long (kL (ρ - β)), .long (kL δ), .long (kL (ρ + β)), .long (kL D), .int zpb, .ref pa, .ref ru, .ref tx, .int zln, .int zat, .int zrk, .int zrv, .int zre, .int zwr, .int zrm, .int zrs, .int zis, .int zss, .int zsc, .ref dk, .ref dv, .ref ek, .ref ev, .ref er, .ref es, .ref et])), (ak, .inl (g.2.1.1, 152, .inl fk))] H := hP
      have hD : va_D A [(h, .inr (9, [.int zth, .int (nI nA), .int zch, .ref ak, .ref av, .ref bk, .ref bv, .ref br, .ref a_s, .ref a_t, .int zsg, .ref g1, .ref g2, .ref g3, .long (kL (ρ - β)), .long (kL δ), .long (kL (ρ + β)), .long (kL D), .int zpb, .ref pa, .ref ru, .ref tx, .int zln, .int zat, .int zrk, .int zrv, .int zre, .int zwr, .int zrm, .int zrs, .int zis, .int zss, .int zsc, .ref dk, .ref dv, .ref ek, .ref ev, .ref er, .ref es, .ref et])), (ak, .inl (g.2.1.1, 152, .inl fk))] := hD
      refine lv_aload_n hx hb dX7_narrows_95 rfl (lv_at hl 3 rfl) ?_
      refine lv_lload hx hb dX7_narrows_96 (lv_at hl 2 rfl) ?_
      refine va_put (D := g.1) (ci := 9) (v := .long (kL δ)) (ty := .long) (C := RX7) (T := TX7) (N := 40) hx hb hts (by decide +kernel) tyX7 tyX7_ok nmX7 hown hK hP hD hS 0 rfl rfl 17 (by decide) (hts (.fieldLink RX7 147 "LearnedIndexModel" "highBottom" "J") (by decide +kernel)) (fun _ h9 => h9) rfl (by decide +kernel) rfl rfl (Nat.le_of_ble_eq_true rfl) dX7_narrows_98 (fun H locs hP hD hS => ?_)
      have hP : va_P g.1 vwCl [(h, .inr (9, [.int zth, .int (nI nA), .int zch, .ref ak, .ref av, .ref bk, .ref bv, .ref br, .ref a_s, .ref a_t, .int zsg, .ref g1, .ref g2, .ref g3, .long (kL (ρ - β)), .long (kL δ), .long (kL (ρ + β)), .long (kL δ), .int zpb, .ref pa, .ref ru, .ref tx, .int zln, .int zat, .int zrk, .int zrv, .int zre, .int zwr, .int zrm, .int zrs, .int zis, .int zss, .int zsc, .ref dk, .ref dv, .ref ek, .ref ev, .ref er, .ref es, .ref et])), (ak, .inl (g.2.1.1, 152, .inl fk))] H := hP
      have hD : va_D A [(h, .inr (9, [.int zth, .int (nI nA), .int zch, .ref ak, .ref av, .ref bk, .ref bv, .ref br, .ref a_s, .ref a_t, .int zsg, .ref g1, .ref g2, .ref g3, .long (kL (ρ - β)), .long (kL δ), .long (kL (ρ + β)), .long (kL δ), .int zpb, .ref pa, .ref ru, .ref tx, .int zln, .int zat, .int zrk, .int zrv, .int zre, .int zwr, .int zrm, .int zrs, .int zis, .int zss, .int zsc, .ref dk, .ref dv, .ref ek, .ref ev, .ref er, .ref es, .ref et])), (ak, .inl (g.2.1.1, 152, .inl fk))] := hD
      refine lv_aload_n hx hb dX7_narrows_101 rfl (lv_at hl 3 rfl) ?_
      refine va_get (D := g.1) (ci := 9) (v := .long (kL (ρ - β))) (C := RX7) (T := TX7) (N := 40) hx hb hts (by decide +kernel) hown hK hP 0 rfl rfl 14 (by decide) (hts (.fieldLink RX7 144 "LearnedIndexModel" "lowTop" "J") (by decide +kernel)) (fun _ h9 => h9) rfl dX7_narrows_102 ?_
      refine lv_aload_n hx hb dX7_narrows_105 rfl (lv_at hl 3 rfl) ?_
      refine va_get (D := g.1) (ci := 9) (v := .long (kL δ)) (C := RX7) (T := TX7) (N := 40) hx hb hts (by decide +kernel) hown hK hP 0 rfl rfl 17 (by decide) (hts (.fieldLink RX7 147 "LearnedIndexModel" "highBottom" "J") (by decide +kernel)) (fun _ h9 => h9) rfl dX7_narrows_106 ?_
      refine lv_lmul hx hb dX7_narrows_109 ?_
      rw [show ((kL (ρ - β)) * (kL δ) : Int64) = kL ((nrL β ρ δ a b).1 * (nrH β ρ δ C D).2) from by rw [hL, hH, kL_mul]]
      refine lv_aload_n hx hb dX7_narrows_110 rfl (lv_at hl 3 rfl) ?_
      refine va_get (D := g.1) (ci := 9) (v := .long (kL (ρ + β))) (C := RX7) (T := TX7) (N := 40) hx hb hts (by decide +kernel) hown hK hP 0 rfl rfl 16 (by decide) (hts (.fieldLink RX7 150 "LearnedIndexModel" "highTop" "J") (by decide +kernel)) (fun _ h9 => h9) rfl dX7_narrows_111 ?_
      refine lv_aload_n hx hb dX7_narrows_114 rfl (lv_at hl 3 rfl) ?_
      refine va_get (D := g.1) (ci := 9) (v := .long (kL δ)) (C := RX7) (T := TX7) (N := 40) hx hb hts (by decide +kernel) hown hK hP 0 rfl rfl 15 (by decide) (hts (.fieldLink RX7 140 "LearnedIndexModel" "lowBottom" "J") (by decide +kernel)) (fun _ h9 => h9) rfl dX7_narrows_115 ?_
      refine lv_lmul hx hb dX7_narrows_118 ?_
      rw [show ((kL (ρ + β)) * (kL δ) : Int64) = kL ((nrH β ρ δ C D).1 * (nrL β ρ δ a b).2) from by rw [hL, hH, kL_mul]]
      refine W.lcmp hx hb dX7_narrows_119 ?_
      refine lv_if_gt (tgt := 127) hx hb dX7_narrows_120 (by decide) (fun c_120 => ?_) (fun c_120 => ?_)
      · skip
        rw [lg3_gt w9 w10] at c_120
        refine lv_iconst (v := 0) hx hb dX7_narrows_127 (by decide) ?_
        exact kretz hx hb hRt hlk hK hP hD hS rfl dX7_narrows_128 (by decide) (⟨by subst hρ; subst hδ; rw [decide_eq_false (Int.not_le.mpr c_120)]; rfl, by subst hρ; subst hδ; rw [hL, hH]⟩)
      · skip
        rw [lg3_gt w9 w10] at c_120
        refine lv_iconst (v := 1) hx hb dX7_narrows_123 (by decide) ?_
        refine lv_goto (tgt := 128) hx hb dX7_narrows_124 (by decide) ?_
        exact kretz hx hb hRt hlk hK hP hD hS rfl dX7_narrows_128 (by decide) (⟨by subst hρ; subst hδ; rw [decide_eq_true (Int.not_lt.mp c_120)]; rfl, by subst hρ; subst hδ; rw [hL, hH]⟩)
    · skip
      rw [lg3_eq w8 w0] at c_68
      refine lv_lload hx hb dX7_narrows_71 (lv_at hl 0 rfl) ?_
      refine lv_aload_n hx hb dX7_narrows_73 rfl (lv_at hl 3 rfl) ?_
      refine va_get (D := g.1) (ci := 9) (v := .long (kL D)) (C := RX7) (T := TX7) (N := 40) hx hb hts (by decide +kernel) hown hK hP 0 rfl rfl 17 (by decide) (hts (.fieldLink RX7 147 "LearnedIndexModel" "highBottom" "J") (by decide +kernel)) (fun _ h9 => h9) rfl dX7_narrows_74 ?_
      refine lv_lmul hx hb dX7_narrows_77 ?_
      rw [show ((kL (ρ + β)) * (kL D) : Int64) = kL ((ρ + β) * D) from kL_mul _ _]
      refine lv_aload_n hx hb dX7_narrows_78 rfl (lv_at hl 3 rfl) ?_
      refine va_get (D := g.1) (ci := 9) (v := .long (kL C)) (C := RX7) (T := TX7) (N := 40) hx hb hts (by decide +kernel) hown hK hP 0 rfl rfl 16 (by decide) (hts (.fieldLink RX7 150 "LearnedIndexModel" "highTop" "J") (by decide +kernel)) (fun _ h9 => h9) rfl dX7_narrows_79 ?_
      refine lv_lload hx hb dX7_narrows_82 (lv_at hl 2 rfl) ?_
      refine lv_lmul hx hb dX7_narrows_84 ?_
      rw [show ((kL C) * (kL δ) : Int64) = kL (C * δ) from kL_mul _ _]
      refine W.lcmp hx hb dX7_narrows_85 ?_
      refine lv_if_ge (tgt := 101) hx hb dX7_narrows_86 (by decide) (fun c_86 => ?_) (fun c_86 => ?_)
      · skip
        rw [lg3_ge w6 w7] at c_86
        have hH : nrH β ρ δ C D = (C, D) := by rw [nrH, if_neg (fun z => z.elim c_68 (fun z2 => (Int.not_lt.mpr c_86) z2))]
        refine lv_aload_n hx hb dX7_narrows_101 rfl (lv_at hl 3 rfl) ?_
        refine va_get (D := g.1) (ci := 9) (v := .long (kL (ρ - β))) (C := RX7) (T := TX7) (N := 40) hx hb hts (by decide +kernel) hown hK hP 0 rfl rfl 14 (by decide) (hts (.fieldLink RX7 144 "LearnedIndexModel" "lowTop" "J") (by decide +kernel)) (fun _ h9 => h9) rfl dX7_narrows_102 ?_
        refine lv_aload_n hx hb dX7_narrows_105 rfl (lv_at hl 3 rfl) ?_
        refine va_get (D := g.1) (ci := 9) (v := .long (kL D)) (C := RX7) (T := TX7) (N := 40) hx hb hts (by decide +kernel) hown hK hP 0 rfl rfl 17 (by decide) (hts (.fieldLink RX7 147 "LearnedIndexModel" "highBottom" "J") (by decide +kernel)) (fun _ h9 => h9) rfl dX7_narrows_106 ?_
        refine lv_lmul hx hb dX7_narrows_109 ?_
        rw [show ((kL (ρ - β)) * (kL D) : Int64) = kL ((nrL β ρ δ a b).1 * (nrH β ρ δ C D).2) from by rw [hL, hH, kL_mul]]
        refine lv_aload_n hx hb dX7_narrows_110 rfl (lv_at hl 3 rfl) ?_
        refine va_get (D := g.1) (ci := 9) (v := .long (kL C)) (C := RX7) (T := TX7) (N := 40) hx hb hts (by decide +kernel) hown hK hP 0 rfl rfl 16 (by decide) (hts (.fieldLink RX7 150 "LearnedIndexModel" "highTop" "J") (by decide +kernel)) (fun _ h9 => h9) rfl dX7_narrows_111 ?_
        refine lv_aload_n hx hb dX7_narrows_114 rfl (lv_at hl 3 rfl) ?_
        refine va_get (D := g.1) (ci := 9) (v := .long (kL δ)) (C := RX7) (T := TX7) (N := 40) hx hb hts (by decide +kernel) hown hK hP 0 rfl rfl 15 (by decide) (hts (.fieldLink RX7 140 "LearnedIndexModel" "lowBottom" "J") (by decide +kernel)) (fun _ h9 => h9) rfl dX7_narrows_115 ?_
        refine lv_lmul hx hb dX7_narrows_118 ?_
        rw [show ((kL C) * (kL δ) : Int64) = kL ((nrH β ρ δ C D).1 * (nrL β ρ δ a b).2) from by rw [hL, hH, kL_mul]]
        refine W.lcmp hx hb dX7_narrows_119 ?_
        refine lv_if_gt (tgt := 127) hx hb dX7_narrows_120 (by decide) (fun c_120 => ?_) (fun c_120 => ?_)
        · skip
          rw [lg3_gt w9 w10] at c_120
          refine lv_iconst (v := 0) hx hb dX7_narrows_127 (by decide) ?_
          exact kretz hx hb hRt hlk hK hP hD hS rfl dX7_narrows_128 (by decide) (⟨by subst hρ; subst hδ; rw [decide_eq_false (Int.not_le.mpr c_120)]; rfl, by subst hρ; subst hδ; rw [hL, hH]⟩)
        · skip
          rw [lg3_gt w9 w10] at c_120
          refine lv_iconst (v := 1) hx hb dX7_narrows_123 (by decide) ?_
          refine lv_goto (tgt := 128) hx hb dX7_narrows_124 (by decide) ?_
          exact kretz hx hb hRt hlk hK hP hD hS rfl dX7_narrows_128 (by decide) (⟨by subst hρ; subst hδ; rw [decide_eq_true (Int.not_lt.mp c_120)]; rfl, by subst hρ; subst hδ; rw [hL, hH]⟩)
      · skip
        rw [lg3_ge w6 w7] at c_86
        have hH : nrH β ρ δ C D = (ρ + β, δ) := by rw [nrH, if_pos (Or.inr (Int.not_le.mp c_86))]
        refine lv_aload_n hx hb dX7_narrows_89 rfl (lv_at hl 3 rfl) ?_
        refine lv_lload hx hb dX7_narrows_90 (lv_at hl 0 rfl) ?_
        refine va_put (D := g.1) (ci := 9) (v := .long (kL (ρ + β))) (ty := .long) (C := RX7) (T := TX7) (N := 40) hx hb hts (by decide +kernel) tyX7 tyX7_ok nmX7 hown hK hP hD hS 0 rfl rfl 16 (by decide) (hts (.fieldLink RX7 150 "LearnedIndexModel" "highTop" "J") (by decide +kernel)) (fun _ h9 => h9) rfl (by decide +kernel) rfl rfl (Nat.le_of_ble_eq_true rfl) dX7_narrows_92 (fun H locs hP hD hS => ?_)
        have hP : va_P g.1 vwCl [(h, .inr (9, [.int zth, .int (nI nA), .int zch, .ref ak, .ref av, .ref bk, .ref bv, .ref br, .ref a_s, .ref a_t, .int zsg, .ref g1, .ref g2, .ref g3, .long (kL (ρ - β)), .long (kL δ), .long (kL (ρ + β)), .long (kL D), .int zpb, .ref pa, .ref ru, .ref tx, .int zln, .int zat, .int zrk, .int zrv, .int zre, .int zwr, .int zrm, .int zrs, .int zis, .int zss, .int zsc, .ref dk, .ref dv, .ref ek, .ref ev, .ref er, .ref es, .ref et])), (ak, .inl (g.2.1.1, 152, .inl fk))] H := hP
        have hD : va_D A [(h, .inr (9, [.int zth, .int (nI nA), .int zch, .ref ak, .ref av, .ref bk, .ref bv, .ref br, .ref a_s, .ref a_t, .int zsg, .ref g1, .ref g2, .ref g3, .long (kL (ρ - β)), .long (kL δ), .long (kL (ρ + β)), .long (kL D), .int zpb, .ref pa, .ref ru, .ref tx, .int zln, .int zat, .int zrk, .int zrv, .int zre, .int zwr, .int zrm, .int zrs, .int zis, .int zss, .int zsc, .ref dk, .ref dv, .ref ek, .ref ev, .ref er, .ref es, .ref et])), (ak, .inl (g.2.1.1, 152, .inl fk))] := hD
        refine lv_aload_n hx hb dX7_narrows_95 rfl (lv_at hl 3 rfl) ?_
        refine lv_lload hx hb dX7_narrows_96 (lv_at hl 2 rfl) ?_
        refine va_put (D := g.1) (ci := 9) (v := .long (kL δ)) (ty := .long) (C := RX7) (T := TX7) (N := 40) hx hb hts (by decide +kernel) tyX7 tyX7_ok nmX7 hown hK hP hD hS 0 rfl rfl 17 (by decide) (hts (.fieldLink RX7 147 "LearnedIndexModel" "highBottom" "J") (by decide +kernel)) (fun _ h9 => h9) rfl (by decide +kernel) rfl rfl (Nat.le_of_ble_eq_true rfl) dX7_narrows_98 (fun H locs hP hD hS => ?_)
        have hP : va_P g.1 vwCl [(h, .inr (9, [.int zth, .int (nI nA), .int zch, .ref ak, .ref av, .ref bk, .ref bv, .ref br, .ref a_s, .ref a_t, .int zsg, .ref g1, .ref g2, .ref g3, .long (kL (ρ - β)), .long (kL δ), .long (kL (ρ + β)), .long (kL δ), .int zpb, .ref pa, .ref ru, .ref tx, .int zln, .int zat, .int zrk, .int zrv, .int zre, .int zwr, .int zrm, .int zrs, .int zis, .int zss, .int zsc, .ref dk, .ref dv, .ref ek, .ref ev, .ref er, .ref es, .ref et])), (ak, .inl (g.2.1.1, 152, .inl fk))] H := hP
        have hD : va_D A [(h, .inr (9, [.int zth, .int (nI nA), .int zch, .ref ak, .ref av, .ref bk, .ref bv, .ref br, .ref a_s, .ref a_t, .int zsg, .ref g1, .ref g2, .ref g3, .long (kL (ρ - β)), .long (kL δ), .long (kL (ρ + β)), .long (kL δ), .int zpb, .ref pa, .ref ru, .ref tx, .int zln, .int zat, .int zrk, .int zrv, .int zre, .int zwr, .int zrm, .int zrs, .int zis, .int zss, .int zsc, .ref dk, .ref dv, .ref ek, .ref ev, .ref er, .ref es, .ref et])), (ak, .inl (g.2.1.1, 152, .inl fk))] := hD
        refine lv_aload_n hx hb dX7_narrows_101 rfl (lv_at hl 3 rfl) ?_
        refine va_get (D := g.1) (ci := 9) (v := .long (kL (ρ - β))) (C := RX7) (T := TX7) (N := 40) hx hb hts (by decide +kernel) hown hK hP 0 rfl rfl 14 (by decide) (hts (.fieldLink RX7 144 "LearnedIndexModel" "lowTop" "J") (by decide +kernel)) (fun _ h9 => h9) rfl dX7_narrows_102 ?_
        refine lv_aload_n hx hb dX7_narrows_105 rfl (lv_at hl 3 rfl) ?_
        refine va_get (D := g.1) (ci := 9) (v := .long (kL δ)) (C := RX7) (T := TX7) (N := 40) hx hb hts (by decide +kernel) hown hK hP 0 rfl rfl 17 (by decide) (hts (.fieldLink RX7 147 "LearnedIndexModel" "highBottom" "J") (by decide +kernel)) (fun _ h9 => h9) rfl dX7_narrows_106 ?_
        refine lv_lmul hx hb dX7_narrows_109 ?_
        rw [show ((kL (ρ - β)) * (kL δ) : Int64) = kL ((nrL β ρ δ a b).1 * (nrH β ρ δ C D).2) from by rw [hL, hH, kL_mul]]
        refine lv_aload_n hx hb dX7_narrows_110 rfl (lv_at hl 3 rfl) ?_
        refine va_get (D := g.1) (ci := 9) (v := .long (kL (ρ + β))) (C := RX7) (T := TX7) (N := 40) hx hb hts (by decide +kernel) hown hK hP 0 rfl rfl 16 (by decide) (hts (.fieldLink RX7 150 "LearnedIndexModel" "highTop" "J") (by decide +kernel)) (fun _ h9 => h9) rfl dX7_narrows_111 ?_
        refine lv_aload_n hx hb dX7_narrows_114 rfl (lv_at hl 3 rfl) ?_
        refine va_get (D := g.1) (ci := 9) (v := .long (kL δ)) (C := RX7) (T := TX7) (N := 40) hx hb hts (by decide +kernel) hown hK hP 0 rfl rfl 15 (by decide) (hts (.fieldLink RX7 140 "LearnedIndexModel" "lowBottom" "J") (by decide +kernel)) (fun _ h9 => h9) rfl dX7_narrows_115 ?_
        refine lv_lmul hx hb dX7_narrows_118 ?_
        rw [show ((kL (ρ + β)) * (kL δ) : Int64) = kL ((nrH β ρ δ C D).1 * (nrL β ρ δ a b).2) from by rw [hL, hH, kL_mul]]
        refine W.lcmp hx hb dX7_narrows_119 ?_
        refine lv_if_gt (tgt := 127) hx hb dX7_narrows_120 (by decide) (fun c_120 => ?_) (fun c_120 => ?_)
        · skip
          rw [lg3_gt w9 w10] at c_120
          refine lv_iconst (v := 0) hx hb dX7_narrows_127 (by decide) ?_
          exact kretz hx hb hRt hlk hK hP hD hS rfl dX7_narrows_128 (by decide) (⟨by subst hρ; subst hδ; rw [decide_eq_false (Int.not_le.mpr c_120)]; rfl, by subst hρ; subst hδ; rw [hL, hH]⟩)
        · skip
          rw [lg3_gt w9 w10] at c_120
          refine lv_iconst (v := 1) hx hb dX7_narrows_123 (by decide) ?_
          refine lv_goto (tgt := 128) hx hb dX7_narrows_124 (by decide) ?_
          exact kretz hx hb hRt hlk hK hP hD hS rfl dX7_narrows_128 (by decide) (⟨by subst hρ; subst hδ; rw [decide_eq_true (Int.not_lt.mp c_120)]; rfl, by subst hρ; subst hδ; rw [hL, hH]⟩)
set_option maxRecDepth 20000 in
theorem ggX7_longestRun_X7_startRun : GoodIn wsX7_longestRun wsX7_startRun := goodIn_r _ [6, 7, 8, 9, 10, 16, 17, 18, 19, 20, 21, 22, 23, 24, 25, 26, 27, 28, 29, 30, 31, 32, 33, 34, 35, 36, 37, 38, 39, 40, 41, 42, 43, 44, 45, 46, 47, 48, 49, 50, 51, 52, 53, 54, 55] (by decide +kernel) (by decide +kernel)
set_option maxRecDepth 20000 in
theorem gX7_longestRun_X7_startRun : GoodIn wsX7_longestRun (wsV RX7 153 RX7 yX7_startRun wsX7_startRun) := goodIn_app (goodIn_of _ (by decide +kernel)) ggX7_longestRun_X7_startRun
set_option maxRecDepth 20000 in
theorem ggX7_longestRun_X7_narrows : GoodIn wsX7_longestRun wsX7_narrows := goodIn_ca (goodIn_r _ [14, 15, 8, 7, 10, 9, 16, 17, 18, 19, 20, 21, 22, 23, 24, 25, 26, 27, 28, 29, 30, 31, 32, 33, 34, 35, 36, 37, 38, 39, 40, 41, 42, 43, 44, 45, 46, 47, 48, 49, 50, 51, 52, 53, 54, 55] (by decide +kernel) (by decide +kernel)) (goodIn_sub (fun _ h => List.mem_cons_of_mem _ (List.mem_append_right _ h)) (by decide +kernel))
set_option maxRecDepth 20000 in
theorem gX7_longestRun_X7_narrows : GoodIn wsX7_longestRun (wsV RX7 156 RX7 yX7_narrows wsX7_narrows) := goodIn_app (goodIn_of _ (by decide +kernel)) ggX7_longestRun_X7_narrows
theorem dX7_longestRun_0 : decode cX7_longestRun 0 = .ok (.aload_n 0, 1) := by decide +kernel
theorem dX7_longestRun_1 : decode cX7_longestRun 1 = .ok (.invokevirtual 153, 3) := by decide +kernel
theorem dX7_longestRun_4 : decode cX7_longestRun 4 = .ok (.iload_n 1, 1) := by decide +kernel
theorem dX7_longestRun_5 : decode cX7_longestRun 5 = .ok (.istore_n 3, 1) := by decide +kernel
theorem dX7_longestRun_6 : decode cX7_longestRun 6 = .ok (.iload_n 3, 1) := by decide +kernel
theorem dX7_longestRun_7 : decode cX7_longestRun 7 = .ok (.iconst 1, 1) := by decide +kernel
theorem dX7_longestRun_8 : decode cX7_longestRun 8 = .ok (.iadd, 1) := by decide +kernel
theorem dX7_longestRun_9 : decode cX7_longestRun 9 = .ok (.aload_n 0, 1) := by decide +kernel
theorem dX7_longestRun_10 : decode cX7_longestRun 10 = .ok (.getfield 79, 3) := by decide +kernel
theorem dX7_longestRun_13 : decode cX7_longestRun 13 = .ok (.if_icmp .ge 21, 3) := by decide +kernel
theorem dX7_longestRun_16 : decode cX7_longestRun 16 = .ok (.aload_n 0, 1) := by decide +kernel
theorem dX7_longestRun_17 : decode cX7_longestRun 17 = .ok (.iload_n 1, 1) := by decide +kernel
theorem dX7_longestRun_18 : decode cX7_longestRun 18 = .ok (.iload_n 3, 1) := by decide +kernel
theorem dX7_longestRun_19 : decode cX7_longestRun 19 = .ok (.iconst 1, 1) := by decide +kernel
theorem dX7_longestRun_20 : decode cX7_longestRun 20 = .ok (.iadd, 1) := by decide +kernel
theorem dX7_longestRun_21 : decode cX7_longestRun 21 = .ok (.iload_n 2, 1) := by decide +kernel
theorem dX7_longestRun_22 : decode cX7_longestRun 22 = .ok (.invokevirtual 156, 3) := by decide +kernel
theorem dX7_longestRun_25 : decode cX7_longestRun 25 = .ok (.ifCond .eq 9, 3) := by decide +kernel
theorem dX7_longestRun_28 : decode cX7_longestRun 28 = .ok (.iinc 3 1, 3) := by decide +kernel
theorem dX7_longestRun_31 : decode cX7_longestRun 31 = .ok (.goto (-25), 3) := by decide +kernel
theorem dX7_longestRun_34 : decode cX7_longestRun 34 = .ok (.iload_n 3, 1) := by decide +kernel
theorem dX7_longestRun_35 : decode cX7_longestRun 35 = .ok (.ireturn, 1) := by decide +kernel
def rm_X7_longestRun : Room := { frames := 1, cells := 0, slots := 0, locals := 29 }
abbrev p_X7_longestRun (g : kG) (h : Nat) (zth : Int32) (zch : Int32) (zsg : Int32) (zl1 : Int64) (zl2 : Int64) (zl3 : Int64) (zl4 : Int64) (zpb : Int32) (zln : Int32) (zat : Int32) (zrk : Int32) (zrv : Int32) (zre : Int32) (zwr : Int32) (zrm : Int32) (zrs : Int32) (zis : Int32) (zss : Int32) (zsc : Int32) (ak : Nat) (av : Nat) (bk : Nat) (bv : Nat) (br : Nat) (a_s : Nat) (a_t : Nat) (g1 : Nat) (g2 : Nat) (g3 : Nat) (pa : Nat) (ru : Nat) (tx : Nat) (dk : Nat) (dv : Nat) (ek : Nat) (ev : Nat) (er : Nat) (es : Nat) (et : Nat) (nA : Nat) (fk : Nat → Int32) (β : Int) (i : Nat) (κ : Nat → Int) : Int32 → va_W → Prop := fun r w1 => ∃ (l1x : Int64), ∃ (l2x : Int64), ∃ (l3x : Int64), ∃ (l4x : Int64), r = nI (gw0 κ nA i β).1 ∧ w1 = [(h, .inr (9, [.int zth, .int (nI nA), .int zch, .ref ak, .ref av, .ref bk, .ref bv, .ref br, .ref a_s, .ref a_t, .int zsg, .ref g1, .ref g2, .ref g3, .long l1x, .long l2x, .long l3x, .long l4x, .int zpb, .ref pa, .ref ru, .ref tx, .int zln, .int zat, .int zrk, .int zrv, .int zre, .int zwr, .int zrm, .int zrs, .int zis, .int zss, .int zsc, .ref dk, .ref dv, .ref ek, .ref ev, .ref er, .ref es, .ref et])), (ak, .inl (g.2.1.1, 152, .inl fk))]
set_option maxHeartbeats 4000000 in
set_option maxRecDepth 100000 in
theorem c_X7_longestRun (l : Launch) (g : kG) (h : Nat) (zth : Int32) (zch : Int32) (zsg : Int32) (zl1 : Int64) (zl2 : Int64) (zl3 : Int64) (zl4 : Int64) (zpb : Int32) (zln : Int32) (zat : Int32) (zrk : Int32) (zrv : Int32) (zre : Int32) (zwr : Int32) (zrm : Int32) (zrs : Int32) (zis : Int32) (zss : Int32) (zsc : Int32) (ak : Nat) (av : Nat) (bk : Nat) (bv : Nat) (br : Nat) (a_s : Nat) (a_t : Nat) (g1 : Nat) (g2 : Nat) (g3 : Nat) (pa : Nat) (ru : Nat) (tx : Nat) (dk : Nat) (dv : Nat) (ek : Nat) (ev : Nat) (er : Nat) (es : Nat) (et : Nat) (nA : Nat) (fk : Nat → Int32) (β : Int) (i : Nat) (κ : Nat → Int) (hκ : ∀ j, j < nA → fk j = kI (κ j)) (hasc : kasc κ nA) (hn : nA ≤ 150) (hβ : 0 ≤ β ∧ β ≤ 8) (hi : i < nA) : KI l yX7_longestRun wsX7_longestRun rm_X7_longestRun g [.ref h, .int (nI i), .int (kI β)] [(h, .inr (9, [.int zth, .int (nI nA), .int zch, .ref ak, .ref av, .ref bk, .ref bv, .ref br, .ref a_s, .ref a_t, .int zsg, .ref g1, .ref g2, .ref g3, .long zl1, .long zl2, .long zl3, .long zl4, .int zpb, .ref pa, .ref ru, .ref tx, .int zln, .int zat, .int zrk, .int zrv, .int zre, .int zwr, .int zrm, .int zrs, .int zis, .int zss, .int zsc, .ref dk, .ref dv, .ref ek, .ref ev, .ref er, .ref es, .ref et])), (ak, .inl (g.2.1.1, 152, .inl fk))] (p_X7_longestRun g h zth zch zsg zl1 zl2 zl3 zl4 zpb zln zat zrk zrv zre zwr zrm zrs zis zss zsc ak av bk bv br a_s a_t g1 g2 g3 pa ru tx dk dv ek ev er es et nA fk β i κ) := by
  refine kbodyI (cc := cX7_longestRun) (n := 4) (k := 2) (own := RX7) (plainFor_of_name (by decide)) rfl rfl rfl rfl ?_
  intro p e s m below meth cd A ls hcx
  obtain ⟨hx, hb, hRt, hml, hts, hown, hlk, hA, hP, hK, hD, hE, hS, hl⟩ := hcx
  have hl : lv_has ls 4 [(0, .ref h), (1, .int (nI i)), (2, .int (kI β))] := hl
  refine lv_aload_n hx hb dX7_longestRun_0 rfl (lv_at hl 0 rfl) ?_
  refine kcallv (wc := [(h, .inr (9, [.int zth, .int (nI nA), .int zch, .ref ak, .ref av, .ref bk, .ref bv, .ref br, .ref a_s, .ref a_t, .int zsg, .ref g1, .ref g2, .ref g3, .long zl1, .long zl2, .long zl3, .long zl4, .int zpb, .ref pa, .ref ru, .ref tx, .int zln, .int zat, .int zrk, .int zrv, .int zre, .int zwr, .int zrm, .int zrs, .int zis, .int zss, .int zsc, .ref dk, .ref dv, .ref ek, .ref ev, .ref er, .ref es, .ref et]))]) [0] (va_runV (C := RX7) (As := []) (rest := []) ⟨hx, hb, hml, hown, hts⟩ ((c_X7_startRun l g h zth (nI nA) zch zsg zl1 zl2 zl3 zl4 zpb zln zat zrk zrv zre zwr zrm zrs zis zss zsc ak av bk bv br a_s a_t g1 g2 g3 pa ru tx dk dv ek ev er es et) _) (cwV 0 hts gX7_longestRun_X7_startRun rfl rfl rfl (by decide +kernel) ⟨Nat.le_of_ble_eq_true rfl, Nat.le_of_ble_eq_true rfl⟩) (kpreV (wc := [(h, .inr (9, [.int zth, .int (nI nA), .int zch, .ref ak, .ref av, .ref bk, .ref bv, .ref br, .ref a_s, .ref a_t, .int zsg, .ref g1, .ref g2, .ref g3, .long zl1, .long zl2, .long zl3, .long zl4, .int zpb, .ref pa, .ref ru, .ref tx, .int zln, .int zat, .int zrk, .int zrv, .int zre, .int zwr, .int zrm, .int zrs, .int zis, .int zss, .int zsc, .ref dk, .ref dv, .ref ek, .ref ev, .ref er, .ref es, .ref et]))]) (ci := 9) hK hP hD hS hA hE [0] rfl rfl rfl rfl) rfl rfl hl.1 rfl (lv_room (Nat.le_of_ble_eq_true rfl)) dX7_longestRun_1 ⟨Nat.zero_le _, Nat.zero_le _⟩) hP hD hS hA rfl (fun w_1 H locs hp hP hD hS => ?_)
  obtain rfl := hp
  have hP : va_P g.1 vwCl [(h, .inr (9, [.int zth, .int (nI nA), .int zch, .ref ak, .ref av, .ref bk, .ref bv, .ref br, .ref a_s, .ref a_t, .int zsg, .ref g1, .ref g2, .ref g3, .long 0, .long 1, .long 1, .long 0, .int zpb, .ref pa, .ref ru, .ref tx, .int zln, .int zat, .int zrk, .int zrv, .int zre, .int zwr, .int zrm, .int zrs, .int zis, .int zss, .int zsc, .ref dk, .ref dv, .ref ek, .ref ev, .ref er, .ref es, .ref et])), (ak, .inl (g.2.1.1, 152, .inl fk))] H := hP
  have hD : va_D A [(h, .inr (9, [.int zth, .int (nI nA), .int zch, .ref ak, .ref av, .ref bk, .ref bv, .ref br, .ref a_s, .ref a_t, .int zsg, .ref g1, .ref g2, .ref g3, .long 0, .long 1, .long 1, .long 0, .int zpb, .ref pa, .ref ru, .ref tx, .int zln, .int zat, .int zrk, .int zrv, .int zre, .int zwr, .int zrm, .int zrs, .int zis, .int zss, .int zsc, .ref dk, .ref dv, .ref ek, .ref ev, .ref er, .ref es, .ref et])), (ak, .inl (g.2.1.1, 152, .inl fk))] := hD
  rw [show (0 : Int64) = kL 0 from rfl, show (1 : Int64) = kL 1 from rfl] at hP hD
  have hP : va_P g.1 vwCl [(h, .inr (9, [.int zth, .int (nI nA), .int zch, .ref ak, .ref av, .ref bk, .ref bv, .ref br, .ref a_s, .ref a_t, .int zsg, .ref g1, .ref g2, .ref g3, .long (kL 0), .long (kL 1), .long (kL 1), .long (kL 0), .int zpb, .ref pa, .ref ru, .ref tx, .int zln, .int zat, .int zrk, .int zrv, .int zre, .int zwr, .int zrm, .int zrs, .int zis, .int zss, .int zsc, .ref dk, .ref dv, .ref ek, .ref ev, .ref er, .ref es, .ref et])), (ak, .inl (g.2.1.1, 152, .inl fk))] H := hP
  have hD : va_D A [(h, .inr (9, [.int zth, .int (nI nA), .int zch, .ref ak, .ref av, .ref bk, .ref bv, .ref br, .ref a_s, .ref a_t, .int zsg, .ref g1, .ref g2, .ref g3, .long (kL 0), .long (kL 1), .long (kL 1), .long (kL 0), .int zpb, .ref pa, .ref ru, .ref tx, .int zln, .int zat, .int zrk, .int zrv, .int zre, .int zwr, .int zrm, .int zrs, .int zis, .int zss, .int zsc, .ref dk, .ref dv, .ref ek, .ref ev, .ref er, .ref es, .ref et])), (ak, .inl (g.2.1.1, 152, .inl fk))] := hD
  refine lv_iload_n hx hb dX7_longestRun_4 rfl (lv_at hl 1 rfl) ?_
  refine lv_istore_n (lv' := [(3, .int (nI i)), (0, .ref h), (1, .int (nI i)), (2, .int (kI β))]) hx hb dX7_longestRun_5 rfl hl (by decide) rfl (fun ls hl => ?_)
  have L6 : ∀ (n9 : Nat) (j : Nat) (a : Int) (b : Int) (C : Int) (D : Int) (H : Heap) (locs : List Loc) (ls : Array Slot), (i ≤ j ∧ j < nA) → (kRun κ nA i β (j + 1) a b C D) → nA - j < n9 → va_P g.1 vwCl [(h, .inr (9, [.int zth, .int (nI nA), .int zch, .ref ak, .ref av, .ref bk, .ref bv, .ref br, .ref a_s, .ref a_t, .int zsg, .ref g1, .ref g2, .ref g3, .long (kL a), .long (kL b), .long (kL C), .long (kL D), .int zpb, .ref pa, .ref ru, .ref tx, .int zln, .int zat, .int zrk, .int zrv, .int zre, .int zwr, .int zrm, .int zrs, .int zis, .int zss, .int zsc, .ref dk, .ref dv, .ref ek, .ref ev, .ref er, .ref es, .ref et])), (ak, .inl (g.2.1.1, 152, .inl fk))] H → va_D A [(h, .inr (9, [.int zth, .int (nI nA), .int zch, .ref ak, .ref av, .ref bk, .ref bv, .ref br, .ref a_s, .ref a_t, .int zsg, .ref g1, .ref g2, .ref g3, .long (kL a), .long (kL b), .long (kL C), .long (kL D), .int zpb, .ref pa, .ref ru, .ref tx, .int zln, .int zat, .int zrk, .int zrv, .int zre, .int zwr, .int zrm, .int zrs, .int zis, .int zss, .int zsc, .ref dk, .ref dv, .ref ek, .ref ev, .ref er, .ref es, .ref et])), (ak, .inl (g.2.1.1, 152, .inl fk))] → va_S A s.heap H locs → lv_has ls 4 [(3, .int (nI j)), (0, .ref h), (1, .int (nI i)), (2, .int (kI β))] → W p l e rm_X7_longestRun s m ([.ref h, .int (nI i), .int (kI β)] : List Value).toArray below meth cd H locs 0 0 (kQi g 2 A (p_X7_longestRun g h zth zch zsg zl1 zl2 zl3 zl4 zpb zln zat zrk zrv zre zwr zrm zrs zis zss zsc ak av bk bv br a_s a_t g1 g2 g3 pa ru tx dk dv ek ev er es et nA fk β i κ) below ([.ref h, .int (nI i), .int (kI β)] : List Value).toArray s) (F0 m 6 ls []) := by
    intro n9
    induction n9 with
    | zero => intro j a b C D H locs ls hj hrun h9; exact absurd h9 (Nat.not_lt_zero _)
    | succ n9 ih6 =>
      intro j a b C D H locs ls hj hrun hn6 hP hD hS hl
      refine lv_iload_n hx hb dX7_longestRun_6 rfl (lv_at hl 0 rfl) ?_
      refine lv_iconst (v := 1) hx hb dX7_longestRun_7 (by decide) ?_
      refine lv_iadd hx hb dX7_longestRun_8 ?_
      rw [show (nI j) + 1 = nI (j + 1) from nI_1 j]
      refine lv_aload_n hx hb dX7_longestRun_9 rfl (lv_at hl 1 rfl) ?_
      refine va_get (D := g.1) (ci := 9) (v := .int (nI nA)) (C := RX7) (T := TX7) (N := 40) hx hb hts (by decide +kernel) hown hK hP 0 rfl rfl 1 (by decide) (hts (.fieldLink RX7 79 "LearnedIndexModel" "size" "I") (by decide +kernel)) (fun _ h9 => h9) rfl dX7_longestRun_10 ?_
      refine lv_icmp_ge (tgt := 34) hx hb dX7_longestRun_13 (by decide) (fun c_13 => ?_) (fun c_13 => ?_)
      · skip
        have hjn : nA ≤ j + 1 := kg (by omega) (by omega) c_13
        have hgb := (gw0_bd hasc (by omega) hβ hi).1
        have hres : (gw0 κ nA i β).1 = j := by obtain ⟨c, d, hb1, hb2, hb3, hb4, hb5, hg⟩ := hrun; rw [← hg, gw_end hjn]; rfl
        refine lv_iload_n hx hb dX7_longestRun_34 rfl (lv_at hl 0 rfl) ?_
        exact kreti hx hb hRt hlk hK hP hD hS rfl dX7_longestRun_35 (⟨_, _, _, _, by rw [hres], rfl⟩)
      · skip
        have hjn : j + 1 < nA := kl (by omega) (by omega) c_13
        have hrs := kRun_s hasc (by omega) hβ (show i < j + 1 by omega) hjn hrun
        have hgb := (gw0_bd hasc (by omega) hβ hi).1
        refine lv_aload_n hx hb dX7_longestRun_16 rfl (lv_at hl 1 rfl) ?_
        refine lv_iload_n hx hb dX7_longestRun_17 rfl (lv_at hl 2 rfl) ?_
        refine lv_iload_n hx hb dX7_longestRun_18 rfl (lv_at hl 0 rfl) ?_
        refine lv_iconst (v := 1) hx hb dX7_longestRun_19 (by decide) ?_
        refine lv_iadd hx hb dX7_longestRun_20 ?_
        rw [show (nI j) + 1 = nI (j + 1) from nI_1 j]
        refine lv_iload_n hx hb dX7_longestRun_21 rfl (lv_at hl 3 rfl) ?_
        refine kcalli (wc := [(h, .inr (9, [.int zth, .int (nI nA), .int zch, .ref ak, .ref av, .ref bk, .ref bv, .ref br, .ref a_s, .ref a_t, .int zsg, .ref g1, .ref g2, .ref g3, .long (kL a), .long (kL b), .long (kL C), .long (kL D), .int zpb, .ref pa, .ref ru, .ref tx, .int zln, .int zat, .int zrk, .int zrv, .int zre, .int zwr, .int zrm, .int zrs, .int zis, .int zss, .int zsc, .ref dk, .ref dv, .ref ek, .ref ev, .ref er, .ref es, .ref et])), (ak, .inl (g.2.1.1, 152, .inl fk))]) [0, 1] (va_runV (C := RX7) (As := [.int (nI i), .int (nI (j + 1)), .int (kI β)]) (rest := []) ⟨hx, hb, hml, hown, hts⟩ ((c_X7_narrows l g h zth zch zsg zpb zln zat zrk zrv zre zwr zrm zrs zis zss zsc ak av bk bv br a_s a_t g1 g2 g3 pa ru tx dk dv ek ev er es et nA fk a b C D β i (j + 1) κ hκ hasc hn hβ (⟨by omega, hjn⟩) (kRun_m hrun)) _) (cwV 3 hts gX7_longestRun_X7_narrows rfl rfl rfl (by decide +kernel) ⟨Nat.le_of_ble_eq_true rfl, Nat.le_of_ble_eq_true rfl⟩) (kpreV (wc := [(h, .inr (9, [.int zth, .int (nI nA), .int zch, .ref ak, .ref av, .ref bk, .ref bv, .ref br, .ref a_s, .ref a_t, .int zsg, .ref g1, .ref g2, .ref g3, .long (kL a), .long (kL b), .long (kL C), .long (kL D), .int zpb, .ref pa, .ref ru, .ref tx, .int zln, .int zat, .int zrk, .int zrv, .int zre, .int zwr, .int zrm, .int zrs, .int zis, .int zss, .int zsc, .ref dk, .ref dv, .ref ek, .ref ev, .ref er, .ref es, .ref et])), (ak, .inl (g.2.1.1, 152, .inl fk))]) (ci := 9) hK hP hD hS hA hE [0, 1] rfl rfl rfl rfl) rfl rfl hl.1 rfl (lv_room (Nat.le_of_ble_eq_true rfl)) dX7_longestRun_22 ⟨Nat.zero_le _, Nat.zero_le _⟩) hP hD hS hA rfl (fun r_2 w_2 H locs hp hP hD hS => ?_)
        obtain ⟨rfl, rfl⟩ := hp
        have hP : va_P g.1 vwCl [(h, .inr (9, [.int zth, .int (nI nA), .int zch, .ref ak, .ref av, .ref bk, .ref bv, .ref br, .ref a_s, .ref a_t, .int zsg, .ref g1, .ref g2, .ref g3, .long (kL (nrL β (((j + 1) : Int) - (i : Int)) (κ (j + 1) - κ i) a b).1), .long (kL (nrL β (((j + 1) : Int) - (i : Int)) (κ (j + 1) - κ i) a b).2), .long (kL (nrH β (((j + 1) : Int) - (i : Int)) (κ (j + 1) - κ i) C D).1), .long (kL (nrH β (((j + 1) : Int) - (i : Int)) (κ (j + 1) - κ i) C D).2), .int zpb, .ref pa, .ref ru, .ref tx, .int zln, .int zat, .int zrk, .int zrv, .int zre, .int zwr, .int zrm, .int zrs, .int zis, .int zss, .int zsc, .ref dk, .ref dv, .ref ek, .ref ev, .ref er, .ref es, .ref et])), (ak, .inl (g.2.1.1, 152, .inl fk))] H := hP
        have hD : va_D A [(h, .inr (9, [.int zth, .int (nI nA), .int zch, .ref ak, .ref av, .ref bk, .ref bv, .ref br, .ref a_s, .ref a_t, .int zsg, .ref g1, .ref g2, .ref g3, .long (kL (nrL β (((j + 1) : Int) - (i : Int)) (κ (j + 1) - κ i) a b).1), .long (kL (nrL β (((j + 1) : Int) - (i : Int)) (κ (j + 1) - κ i) a b).2), .long (kL (nrH β (((j + 1) : Int) - (i : Int)) (κ (j + 1) - κ i) C D).1), .long (kL (nrH β (((j + 1) : Int) - (i : Int)) (κ (j + 1) - κ i) C D).2), .int zpb, .ref pa, .ref ru, .ref tx, .int zln, .int zat, .int zrk, .int zrv, .int zre, .int zwr, .int zrm, .int zrs, .int zis, .int zss, .int zsc, .ref dk, .ref dv, .ref ek, .ref ev, .ref er, .ref es, .ref et])), (ak, .inl (g.2.1.1, 152, .inl fk))] := hD
        refine lv_if_eq (tgt := 34) hx hb dX7_longestRun_25 (by decide) (fun c_25 => ?_) (fun c_25 => ?_)
        · skip
          have hres : (gw0 κ nA i β).1 = j := hrs.2 (of_decide_eq_false ((kbool_eq _).mp c_25))
          refine lv_iload_n hx hb dX7_longestRun_34 rfl (lv_at hl 0 rfl) ?_
          exact kreti hx hb hRt hlk hK hP hD hS rfl dX7_longestRun_35 (⟨_, _, _, _, by rw [hres], rfl⟩)
        · skip
          have hrun2 := hrs.1 (of_decide_eq_true ((kbool_ne _).mp c_25))
          refine lv_iinc (v := nI (j + 1)) (lv' := [(3, .int (nI (j + 1))), (0, .ref h), (1, .int (nI i)), (2, .int (kI β))]) hx hb dX7_longestRun_28 hl (k := 0) rfl (nI_1 j) (by decide) rfl (fun ls hl => ?_)
          refine lv_goto (tgt := 6) hx hb dX7_longestRun_31 (by decide) ?_
          exact ih6 (j + 1) ((nrL β (((j + 1) : Int) - (i : Int)) (κ (j + 1) - κ i) a b).1) ((nrL β (((j + 1) : Int) - (i : Int)) (κ (j + 1) - κ i) a b).2) ((nrH β (((j + 1) : Int) - (i : Int)) (κ (j + 1) - κ i) C D).1) ((nrH β (((j + 1) : Int) - (i : Int)) (κ (j + 1) - κ i) C D).2) _ _ ls (⟨by omega, hjn⟩) hrun2 (by omega) hP hD hS (lv_sub hl [0, 1, 2, 3] rfl)
  exact L6 _ i 0 1 1 0 _ _ ls (⟨Nat.le_refl _, hi⟩) (kRun_0 κ nA i β) (Nat.lt_succ_self _) hP hD hS (lv_sub hl [0, 1, 2, 3] rfl)
