theorem dL_law_28 : decode cL_law 28 = .ok (.iload 5, 2) := by decide +kernel
theorem dL_law_30 : decode cL_law 30 = .ok (.aload_n 0, 1) := by decide +kernel
theorem dL_law_31 : decode cL_law 31 = .ok (.arraylength, 1) := by decide +kernel
theorem dL_law_32 : decode cL_law 32 = .ok (.iconst 3, 1) := by decide +kernel
theorem dL_law_33 : decode cL_law 33 = .ok (.isub, 1) := by decide +kernel
theorem dL_law_34 : decode cL_law 34 = .ok (.if_icmp .gt 1551, 3) := by decide +kernel
theorem dL_law_37 : decode cL_law 37 = .ok (.aload_n 0, 1) := by decide +kernel
theorem dL_law_38 : decode cL_law 38 = .ok (.iload 5, 2) := by decide +kernel
theorem dL_law_40 : decode cL_law 40 = .ok (.iaload, 1) := by decide +kernel
theorem dL_law_41 : decode cL_law 41 = .ok (.bipush 31, 2) := by decide +kernel
theorem dL_law_43 : decode cL_law 43 = .ok (.iand, 1) := by decide +kernel
theorem dL_law_44 : decode cL_law 44 = .ok (.tableswitch 1535 0 26 #[124, 192, 248, 304, 367, 423, 436, 492, 517, 601, 639, 723, 791, 804, 872, 940, 996, 1064, 1077, 1133, 1189, 1245, 1310, 1376, 1434, 1478, 1491], 124) := by decide +kernel
theorem dL_law_1579 : decode cL_law 1579 = .ok (.iinc 5 3, 3) := by decide +kernel
theorem dL_law_1582 : decode cL_law 1582 = .ok (.goto (-1554), 3) := by decide +kernel
theorem dL_law_1585 : decode cL_law 1585 = .ok (.iconst 1, 1) := by decide +kernel
theorem dL_law_1586 : decode cL_law 1586 = .ok (.ireturn, 1) := by decide +kernel
theorem lw_gt {L k : Nat} (hL : L ≤ 1536) (hk : k ≤ 600) : (Int32.ofNat L - 3 < nI (3 * k)) ↔ L < 3 * k + 3 := by
  rw [show Int32.ofNat L = nI L from rfl, kI_nI, kI_nI, show (3 : Int32) = kI 3 from rfl, kI_sub, Int32.lt_iff_toInt_lt, kI_toInt (by omega) (by omega), kI_toInt (by omega) (by omega)]
  omega
section
variable {p : Program} {l : Launch} {e : Env} {s : State} {m : MethodId} {below : List Frame} {meth : Method} {cd : Code} {Q : State → Prop} {g : kG} {A : Nat → Prop} {b L : Nat} {sx : Nat → Int32} {x0 h ob od k cells slots : Nat} {ws : va_W} {H : Heap} {locs : List Loc} {ls : Array Slot}
/-- the head of the loop, to the switch -/
theorem law_head (hcx : kLx l g b L sx p s m cd A) (hk3 : 3 * k + 3 ≤ L) (_hP : va_P g.1 vwCl ws H) (_hD : va_D A ws) (hS : va_S A s.heap H locs) (hl : lv_has ls 9 (lwL b x0 h ob od k))
    (kk : ∀ ls : Array Slot, lv_has ls 9 (lwL b x0 h ob od k) → W p l e room_1 s m #[Value.ref b] below meth cd H locs cells slots Q (F0 m 44 ls [.int (sx (3 * k) &&& 31)])) : W p l e room_1 s m #[Value.ref b] below meth cd H locs cells slots Q (F0 m 28 ls []) := by
  obtain ⟨htr, hx, hb, hml, hown, hts, hX, hbl, hbA, hA, hK, hE, hL⟩ := hcx
  refine lv_iload hx hb dL_law_28 (lv_at hl 0 rfl) ?_
  refine lv_aload_n hx hb dL_law_30 rfl (lv_at hl 5 rfl) ?_
  refine va_slen hx hb hX hbl hbA hS dL_law_31 ?_
  refine lv_iconst (v := 3) hx hb dL_law_32 (by decide) ?_
  refine lv_isub hx hb dL_law_33 ?_
  refine lv_icmp_gt (tgt := 1585) hx hb dL_law_34 (by decide) (fun c9 => absurd ((lw_gt hL (show k ≤ 600 by omega)).mp c9) (by omega)) (fun c9 => ?_)
  refine lv_aload_n hx hb dL_law_37 rfl (lv_at hl 5 rfl) ?_
  refine lv_iload hx hb dL_law_38 (lv_at hl 0 rfl) ?_
  refine va_sld hx hb hX hbl hbA hS (vp_in_nI (show 3 * k < L by omega) (by omega)) dL_law_40 ?_
  rw [show (nI (3 * k) : Int32).toNatClampNeg = 3 * k from nI_clamp (n := 3 * k) (by omega)]
  refine lv_bipush (v := 31) hx hb dL_law_41 (by decide) ?_
  refine lv_iand hx hb dL_law_43 ?_
  exact kk ls hl
/-- the loop's end -/
theorem law_out (hcx : kLx l g b L sx p s m cd A) (hAA : ∀ q, A q → s.heap.size ≤ q) (hk3 : L < 3 * k + 3) (hk : 3 * k ≤ L) (hce : cells ≤ room_1.cells) (hse : slots ≤ room_1.slots) (hS : va_S A s.heap H locs) (hl : lv_has ls 9 (lwL b x0 h ob od k))
    (hend : ∀ (H : Heap) (ls : Array Slot), W p l e room_1 s m #[Value.ref b] below meth cd H [] room_1.cells room_1.slots Q (F0 m 1585 ls [])) : W p l e room_1 s m #[Value.ref b] below meth cd H locs cells slots Q (F0 m 28 ls []) := by
  obtain ⟨htr, hx, hb, hml, hown, hts, hX, hbl, hbA, hA, hK, hE, hL⟩ := hcx
  refine lv_iload hx hb dL_law_28 (lv_at hl 0 rfl) ?_
  refine lv_aload_n hx hb dL_law_30 rfl (lv_at hl 5 rfl) ?_
  refine va_slen hx hb hX hbl hbA hS dL_law_31 ?_
  refine lv_iconst (v := 3) hx hb dL_law_32 (by decide) ?_
  refine lv_isub hx hb dL_law_33 ?_
  refine lv_icmp_gt (tgt := 1585) hx hb dL_law_34 (by decide) (fun c9 => ?_) (fun c9 => absurd ((lw_gt hL (show k ≤ 600 by omega)).mpr hk3) c9)
  exact va_forget (fun q hq => hAA _ (hS.2.2 q hq)) (W.widen hce hse (hend H ls))
/-- the loop's step -/
theorem law_step (hcx : kLx l g b L sx p s m cd A) (hk3 : 3 * k + 3 ≤ L) (hl : lv_has ls 9 (lwL b x0 h ob od k))
    (kk : ∀ ls : Array Slot, lv_has ls 9 (lwL b x0 h ob od (k + 1)) → W p l e room_1 s m #[Value.ref b] below meth cd H locs cells slots Q (F0 m 28 ls [])) : W p l e room_1 s m #[Value.ref b] below meth cd H locs cells slots Q (F0 m 1579 ls []) := by
  obtain ⟨htr, hx, hb, hml, hown, hts, hX, hbl, hbA, hA, hK, hE, hL⟩ := hcx
  refine lv_iinc (v := nI (3 * (k + 1))) (lv' := lwL b x0 h ob od (k + 1)) hx hb dL_law_1579 hl (k := 0) rfl (nI_add (3 * k) 3) (by decide) rfl (fun ls hl => ?_)
  refine lv_goto (tgt := 28) hx hb dL_law_1582 (by decide) ?_
  exact kk ls hl
end
theorem kLA_go {g : kG} {x0 yn ys xc xs xt xr xf xh xi am ac as_ atx mka mva mra cka cva cra oka ova ora s1 s2 s3 s4 s5 t1 t2 t3 t4 t5 iq1 iq2 iq3 iq4 vm vc vs_ vt_ vmk vmv vmr vck vcv vcr h ak av bk bv br a_s a_t g1 g2 g3 pa ru tx dk dv ek ev er es et ob od : Nat} {k : Nat} {G G' : va_W → Prop} (hk9 : kLA g x0 yn ys xc xs xt xr xf xh xi am ac as_ atx mka mva mra cka cva cra oka ova ora s1 s2 s3 s4 s5 t1 t2 t3 t4 t5 iq1 iq2 iq3 iq4 vm vc vs_ vt_ vmk vmv vmr vck vcv vcr h ak av bk bv br a_s a_t g1 g2 g3 pa ru tx dk dv ek ev er es et ob od k G) (hG : ∀ ws, G ws → G' ws) : kLA g x0 yn ys xc xs xt xr xf xh xi am ac as_ atx mka mva mra cka cva cra oka ova ora s1 s2 s3 s4 s5 t1 t2 t3 t4 t5 iq1 iq2 iq3 iq4 vm vc vs_ vt_ vmk vmv vmr vck vcv vcr h ak av bk bv br a_s a_t g1 g2 g3 pa ru tx dk dv ek ev er es et ob od k G' := kLA_mono hG hk9
set_option maxHeartbeats 4000000 in
set_option maxRecDepth 100000 in
theorem law_loop {p : Program} {l : Launch} {e : Env} {s : State} {m : MethodId} {below : List Frame} {meth : Method} {cd : Code} {Q : State → Prop} {g : kG} {A : Nat → Prop} {b L : Nat} {sx : Nat → Int32} {x0 yn ys xc xs xt xr xf xh xi am ac as_ atx mka mva mra cka cva cra oka ova ora s1 s2 s3 s4 s5 t1 t2 t3 t4 t5 iq1 iq2 iq3 iq4 vm vc vs_ vt_ vmk vmv vmr vck vcv vcr h ak av bk bv br a_s a_t g1 g2 g3 pa ru tx dk dv ek ev er es et ob od : Nat} (hcx : kLx l g b L sx p s m cd A) (hAA : ∀ q, A q → s.heap.size ≤ q) (hend : ∀ (H : Heap) (ls : Array Slot), W p l e room_1 s m #[Value.ref b] below meth cd H [] room_1.cells room_1.slots Q (F0 m 1585 ls [])) :
    ∀ (n k : Nat), L < 3 * k + 3 * n → 3 * k ≤ L → kLA g x0 yn ys xc xs xt xr xf xh xi am ac as_ atx mka mva mra cka cva cra oka ova ora s1 s2 s3 s4 s5 t1 t2 t3 t4 t5 iq1 iq2 iq3 iq4 vm vc vs_ vt_ vmk vmv vmr vck vcv vcr h ak av bk bv br a_s a_t g1 g2 g3 pa ru tx dk dv ek ev er es et ob od k (kLG p l e s m below meth cd g A b x0 h ob od k (70 + 2 * k) (6318 + 12 * k) 28 Q) := by
  intro n
  induction n with
  | zero => intro k hlt hle; exact absurd hlt (by omega)
  | succ n ihn =>
  intro k hlt hle
  have ih := fun q9 => ihn (k + 1) (by omega) q9
  have hL : L ≤ 1536 := hcx.2.2.2.2.2.2.2.2.2.2.2.2
  have hrc : 2000 ≤ room_1.cells := Nat.le_of_ble_eq_true rfl
  have hrs : 20000 ≤ room_1.slots := Nat.le_of_ble_eq_true rfl
  by_cases c9 : L < 3 * k + 3
  · exact kLA_of (fun ws H locs ls hP hD hS hl => law_out hcx hAA c9 hle (by omega) (by omega) hS hl hend)
  have hk3 : 3 * k + 3 ≤ L := by omega
  have hnext : kLA g x0 yn ys xc xs xt xr xf xh xi am ac as_ atx mka mva mra cka cva cra oka ova ora s1 s2 s3 s4 s5 t1 t2 t3 t4 t5 iq1 iq2 iq3 iq4 vm vc vs_ vt_ vmk vmv vmr vck vcv vcr h ak av bk bv br a_s a_t g1 g2 g3 pa ru tx dk dv ek ev er es et ob od (k + 1) (kLG p l e s m below meth cd g A b x0 h ob od k (70 + 2 * k + 2) (6318 + 12 * k + 12) 1579 Q) :=
    kLA_go (ih (by omega)) (fun ws hG H locs ls hP hD hS hl => law_step hcx hk3 hl (fun ls hl => W.widen (by omega) (by omega) (hG H locs ls hP hD hS hl)))
  have hx := hcx.2.1
  have hb := hcx.2.2.1
  rcases (show (sx (3 * k) &&& 31).toInt < 0 ∨ 26 < (sx (3 * k) &&& 31).toInt ∨ (sx (3 * k) &&& 31).toInt = 0 ∨ (sx (3 * k) &&& 31).toInt = 1 ∨ (sx (3 * k) &&& 31).toInt = 2 ∨ (sx (3 * k) &&& 31).toInt = 3 ∨ (sx (3 * k) &&& 31).toInt = 4 ∨ (sx (3 * k) &&& 31).toInt = 5 ∨ (sx (3 * k) &&& 31).toInt = 6 ∨ (sx (3 * k) &&& 31).toInt = 7 ∨ (sx (3 * k) &&& 31).toInt = 8 ∨ (sx (3 * k) &&& 31).toInt = 9 ∨ (sx (3 * k) &&& 31).toInt = 10 ∨ (sx (3 * k) &&& 31).toInt = 11 ∨ (sx (3 * k) &&& 31).toInt = 12 ∨ (sx (3 * k) &&& 31).toInt = 13 ∨ (sx (3 * k) &&& 31).toInt = 14 ∨ (sx (3 * k) &&& 31).toInt = 15 ∨ (sx (3 * k) &&& 31).toInt = 16 ∨ (sx (3 * k) &&& 31).toInt = 17 ∨ (sx (3 * k) &&& 31).toInt = 18 ∨ (sx (3 * k) &&& 31).toInt = 19 ∨ (sx (3 * k) &&& 31).toInt = 20 ∨ (sx (3 * k) &&& 31).toInt = 21 ∨ (sx (3 * k) &&& 31).toInt = 22 ∨ (sx (3 * k) &&& 31).toInt = 23 ∨ (sx (3 * k) &&& 31).toInt = 24 ∨ (sx (3 * k) &&& 31).toInt = 25 ∨ (sx (3 * k) &&& 31).toInt = 26 from by omega) with s9 | s9 | s9 | s9 | s9 | s9 | s9 | s9 | s9 | s9 | s9 | s9 | s9 | s9 | s9 | s9 | s9 | s9 | s9 | s9 | s9 | s9 | s9 | s9 | s9 | s9 | s9 | s9 | s9
  · exact kLA_go (kLA_s hnext) (fun ws hG H locs ls hP hD hS hl => law_head hcx hk3 hP hD hS hl (fun ls hl => lv_tableOut (tgt := 1579) hx hb dL_law_44 (Or.inl s9) (by decide) (W.widen (by omega) (by omega) (hG H locs ls hP hD hS hl))))
  · exact kLA_go (kLA_s hnext) (fun ws hG H locs ls hP hD hS hl => law_head hcx hk3 hP hD hS hl (fun ls hl => lv_tableOut (tgt := 1579) hx hb dL_law_44 (Or.inr s9) (by decide) (W.widen (by omega) (by omega) (hG H locs ls hP hD hS hl))))
  · exact kLA_go (lc_put hcx hk3 (by omega) (by omega) hnext) (fun ws hG H locs ls hP hD hS hl => law_head hcx hk3 hP hD hS hl (fun ls hl => lv_tableIn (off := 124) (tgt := 168) hx hb dL_law_44 (by omega) (by omega) (by rw [s9]; rfl) (by decide) (hG H locs ls hP hD hS hl)))
  · exact kLA_go (lc_remove hcx hk3 (by omega) (by omega) hnext) (fun ws hG H locs ls hP hD hS hl => law_head hcx hk3 hP hD hS hl (fun ls hl => lv_tableIn (off := 192) (tgt := 236) hx hb dL_law_44 (by omega) (by omega) (by rw [s9]; rfl) (by decide) (hG H locs ls hP hD hS hl)))
  · exact kLA_go (lc_get hcx hk3 (by omega) (by omega) hnext) (fun ws hG H locs ls hP hD hS hl => law_head hcx hk3 hP hD hS hl (fun ls hl => lv_tableIn (off := 248) (tgt := 292) hx hb dL_law_44 (by omega) (by omega) (by rw [s9]; rfl) (by decide) (hG H locs ls hP hD hS hl)))
  · exact kLA_go (lc_contains hcx hk3 (by omega) (by omega) hnext) (fun ws hG H locs ls hP hD hS hl => law_head hcx hk3 hP hD hS hl (fun ls hl => lv_tableIn (off := 304) (tgt := 348) hx hb dL_law_44 (by omega) (by omega) (by rw [s9]; rfl) (by decide) (hG H locs ls hP hD hS hl)))
  · exact kLA_go (lc_count hcx hk3 (by omega) (by omega) hnext) (fun ws hG H locs ls hP hD hS hl => law_head hcx hk3 hP hD hS hl (fun ls hl => lv_tableIn (off := 367) (tgt := 411) hx hb dL_law_44 (by omega) (by omega) (by rw [s9]; rfl) (by decide) (hG H locs ls hP hD hS hl)))
  · exact kLA_go (lc_clear hcx hk3 (by omega) (by omega) hnext) (fun ws hG H locs ls hP hD hS hl => law_head hcx hk3 hP hD hS hl (fun ls hl => lv_tableIn (off := 423) (tgt := 467) hx hb dL_law_44 (by omega) (by omega) (by rw [s9]; rfl) (by decide) (hG H locs ls hP hD hS hl)))
  · exact kLA_go (lc_keyAt hcx hk3 (by omega) (by omega) hnext) (fun ws hG H locs ls hP hD hS hl => law_head hcx hk3 hP hD hS hl (fun ls hl => lv_tableIn (off := 436) (tgt := 480) hx hb dL_law_44 (by omega) (by omega) (by rw [s9]; rfl) (by decide) (hG H locs ls hP hD hS hl)))
  · exact kLA_go (lc_rank hcx hk3 (by omega) (by omega) hnext) (fun ws hG H locs ls hP hD hS hl => law_head hcx hk3 hP hD hS hl (fun ls hl => lv_tableIn (off := 492) (tgt := 536) hx hb dL_law_44 (by omega) (by omega) (by rw [s9]; rfl) (by decide) (hG H locs ls hP hD hS hl)))
  · exact kLA_go (lc_neighbor hcx hk3 (by omega) (by omega) hnext) (fun ws hG H locs ls hP hD hS hl => law_head hcx hk3 hP hD hS hl (fun ls hl => lv_tableIn (off := 517) (tgt := 561) hx hb dL_law_44 (by omega) (by omega) (by rw [s9]; rfl) (by decide) (hG H locs ls hP hD hS hl)))
  · exact kLA_go (lc_sum hcx hk3 (by omega) (by omega) hnext) (fun ws hG H locs ls hP hD hS hl => law_head hcx hk3 hP hD hS hl (fun ls hl => lv_tableIn (off := 601) (tgt := 645) hx hb dL_law_44 (by omega) (by omega) (by rw [s9]; rfl) (by decide) (hG H locs ls hP hD hS hl)))
  · exact kLA_go (lc_main hcx hk3 (by omega) (by omega) hnext) (fun ws hG H locs ls hP hD hS hl => law_head hcx hk3 hP hD hS hl (fun ls hl => lv_tableIn (off := 639) (tgt := 683) hx hb dL_law_44 (by omega) (by omega) (by rw [s9]; rfl) (by decide) (hG H locs ls hP hD hS hl)))
  · exact kLA_go (lc_change hcx hk3 (by omega) (by omega) hnext) (fun ws hG H locs ls hP hD hS hl => law_head hcx hk3 hP hD hS hl (fun ls hl => lv_tableIn (off := 723) (tgt := 767) hx hb dL_law_44 (by omega) (by omega) (by rw [s9]; rfl) (by decide) (hG H locs ls hP hD hS hl)))
  · exact kLA_go (lc_merge hcx hk3 (by omega) (by omega) hnext) (fun ws hG H locs ls hP hD hS hl => law_head hcx hk3 hP hD hS hl (fun ls hl => lv_tableIn (off := 791) (tgt := 835) hx hb dL_law_44 (by omega) (by omega) (by rw [s9]; rfl) (by decide) (hG H locs ls hP hD hS hl)))
  · exact kLA_go (lc_set hcx hk3 (by omega) (by omega) hnext) (fun ws hG H locs ls hP hD hS hl => law_head hcx hk3 hP hD hS hl (fun ls hl => lv_tableIn (off := 804) (tgt := 848) hx hb dL_law_44 (by omega) (by omega) (by rw [s9]; rfl) (by decide) (hG H locs ls hP hD hS hl)))
  · exact kLA_go (lc_segment hcx hk3 (by omega) (by omega) hnext) (fun ws hG H locs ls hP hD hS hl => law_head hcx hk3 hP hD hS hl (fun ls hl => lv_tableIn (off := 872) (tgt := 916) hx hb dL_law_44 (by omega) (by omega) (by rw [s9]; rfl) (by decide) (hG H locs ls hP hD hS hl)))
  · exact kLA_go (lc_segmentOf hcx hk3 (by omega) (by omega) hnext) (fun ws hG H locs ls hP hD hS hl => law_head hcx hk3 hP hD hS hl (fun ls hl => lv_tableIn (off := 940) (tgt := 984) hx hb dL_law_44 (by omega) (by omega) (by rw [s9]; rfl) (by decide) (hG H locs ls hP hD hS hl)))
  · exact kLA_go (lc_predict hcx hk3 (by omega) (by omega) hnext) (fun ws hG H locs ls hP hD hS hl => law_head hcx hk3 hP hD hS hl (fun ls hl => lv_tableIn (off := 996) (tgt := 1040) hx hb dL_law_44 (by omega) (by omega) (by rw [s9]; rfl) (by decide) (hG H locs ls hP hD hS hl)))
  · exact kLA_go (lc_worst hcx hk3 (by omega) (by omega) hnext) (fun ws hG H locs ls hP hD hS hl => law_head hcx hk3 hP hD hS hl (fun ls hl => lv_tableIn (off := 1064) (tgt := 1108) hx hb dL_law_44 (by omega) (by omega) (by rw [s9]; rfl) (by decide) (hG H locs ls hP hD hS hl)))
  · exact kLA_go (lc_fewest hcx hk3 (by omega) (by omega) hnext) (fun ws hG H locs ls hP hD hS hl => law_head hcx hk3 hP hD hS hl (fun ls hl => lv_tableIn (off := 1077) (tgt := 1121) hx hb dL_law_44 (by omega) (by omega) (by rw [s9]; rfl) (by decide) (hG H locs ls hP hD hS hl)))
  · exact kLA_go (lc_leastBound hcx hk3 (by omega) (by omega) hnext) (fun ws hG H locs ls hP hD hS hl => law_head hcx hk3 hP hD hS hl (fun ls hl => lv_tableIn (off := 1133) (tgt := 1177) hx hb dL_law_44 (by omega) (by omega) (by rw [s9]; rfl) (by decide) (hG H locs ls hP hD hS hl)))
  · exact kLA_go (lc_probes hcx hk3 (by omega) (by omega) hnext) (fun ws hG H locs ls hP hD hS hl => law_head hcx hk3 hP hD hS hl (fun ls hl => lv_tableIn (off := 1189) (tgt := 1233) hx hb dL_law_44 (by omega) (by omega) (by rw [s9]; rfl) (by decide) (hG H locs ls hP hD hS hl)))
  · exact kLA_go (lc_meanWindow hcx hk3 (by omega) (by omega) hnext) (fun ws hG H locs ls hP hD hS hl => law_head hcx hk3 hP hD hS hl (fun ls hl => lv_tableIn (off := 1245) (tgt := 1289) hx hb dL_law_44 (by omega) (by omega) (by rw [s9]; rfl) (by decide) (hG H locs ls hP hD hS hl)))
  · exact kLA_go (lc_meanProbes hcx hk3 (by omega) (by omega) hnext) (fun ws hG H locs ls hP hD hS hl => law_head hcx hk3 hP hD hS hl (fun ls hl => lv_tableIn (off := 1310) (tgt := 1354) hx hb dL_law_44 (by omega) (by omega) (by rw [s9]; rfl) (by decide) (hG H locs ls hP hD hS hl)))
  · exact kLA_go (lc_feed hcx hk3 (by omega) (by omega) hnext) (fun ws hG H locs ls hP hD hS hl => law_head hcx hk3 hP hD hS hl (fun ls hl => lv_tableIn (off := 1376) (tgt := 1420) hx hb dL_law_44 (by omega) (by omega) (by rw [s9]; rfl) (by decide) (hG H locs ls hP hD hS hl)))
  · exact kLA_go (lc_load hcx hk3 (by omega) (by omega) hnext) (fun ws hG H locs ls hP hD hS hl => law_head hcx hk3 hP hD hS hl (fun ls hl => lv_tableIn (off := 1434) (tgt := 1478) hx hb dL_law_44 (by omega) (by omega) (by rw [s9]; rfl) (by decide) (hG H locs ls hP hD hS hl)))
  · exact kLA_go (lc_save hcx hk3 (by omega) (by omega) hnext) (fun ws hG H locs ls hP hD hS hl => law_head hcx hk3 hP hD hS hl (fun ls hl => lv_tableIn (off := 1478) (tgt := 1522) hx hb dL_law_44 (by omega) (by omega) (by rw [s9]; rfl) (by decide) (hG H locs ls hP hD hS hl)))
  · exact kLA_go (lc_restore hcx hk3 (by omega) (by omega) hnext) (fun ws hG H locs ls hP hD hS hl => law_head hcx hk3 hP hD hS hl (fun ls hl => lv_tableIn (off := 1491) (tgt := 1535) hx hb dL_law_44 (by omega) (by omega) (by rw [s9]; rfl) (by decide) (hG H locs ls hP hD hS hl)))
