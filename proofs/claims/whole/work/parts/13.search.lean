/-! ===== Search; floorDiv and bitCount ===== -/
theorem dJ9_floorDiv_7cf53_0 : decode cJ9_floorDiv_7cf53 0 = .ok (.iload_n 0, 1) := by decide +kernel
theorem dJ9_floorDiv_7cf53_1 : decode cJ9_floorDiv_7cf53 1 = .ok (.iload_n 1, 1) := by decide +kernel
theorem dJ9_floorDiv_7cf53_2 : decode cJ9_floorDiv_7cf53 2 = .ok (.idiv, 1) := by decide +kernel
theorem dJ9_floorDiv_7cf53_3 : decode cJ9_floorDiv_7cf53 3 = .ok (.istore_n 2, 1) := by decide +kernel
theorem dJ9_floorDiv_7cf53_4 : decode cJ9_floorDiv_7cf53 4 = .ok (.iload_n 0, 1) := by decide +kernel
theorem dJ9_floorDiv_7cf53_5 : decode cJ9_floorDiv_7cf53 5 = .ok (.iload_n 1, 1) := by decide +kernel
theorem dJ9_floorDiv_7cf53_6 : decode cJ9_floorDiv_7cf53 6 = .ok (.ixor, 1) := by decide +kernel
theorem dJ9_floorDiv_7cf53_7 : decode cJ9_floorDiv_7cf53 7 = .ok (.ifCond .ge 14, 3) := by decide +kernel
theorem dJ9_floorDiv_7cf53_10 : decode cJ9_floorDiv_7cf53 10 = .ok (.iload_n 2, 1) := by decide +kernel
theorem dJ9_floorDiv_7cf53_11 : decode cJ9_floorDiv_7cf53 11 = .ok (.iload_n 1, 1) := by decide +kernel
theorem dJ9_floorDiv_7cf53_12 : decode cJ9_floorDiv_7cf53 12 = .ok (.imul, 1) := by decide +kernel
theorem dJ9_floorDiv_7cf53_13 : decode cJ9_floorDiv_7cf53 13 = .ok (.iload_n 0, 1) := by decide +kernel
theorem dJ9_floorDiv_7cf53_14 : decode cJ9_floorDiv_7cf53 14 = .ok (.if_icmp .eq 7, 3) := by decide +kernel
theorem dJ9_floorDiv_7cf53_17 : decode cJ9_floorDiv_7cf53 17 = .ok (.iload_n 2, 1) := by decide +kernel
theorem dJ9_floorDiv_7cf53_18 : decode cJ9_floorDiv_7cf53 18 = .ok (.iconst 1, 1) := by decide +kernel
theorem dJ9_floorDiv_7cf53_19 : decode cJ9_floorDiv_7cf53 19 = .ok (.isub, 1) := by decide +kernel
theorem dJ9_floorDiv_7cf53_20 : decode cJ9_floorDiv_7cf53 20 = .ok (.ireturn, 1) := by decide +kernel
theorem dJ9_floorDiv_7cf53_21 : decode cJ9_floorDiv_7cf53 21 = .ok (.iload_n 2, 1) := by decide +kernel
theorem dJ9_floorDiv_7cf53_22 : decode cJ9_floorDiv_7cf53 22 = .ok (.ireturn, 1) := by decide +kernel
def rm_J9_floorDiv_7cf53 : Room := { frames := 0, cells := 0, slots := 0, locals := 0 }
abbrev p_J9_floorDiv_7cf53 (g : kG) (u : Int) (b : Int) : Int32 → va_W → Prop := fun r w1 => r = kI (u / b) ∧ w1 = []
set_option maxHeartbeats 4000000 in
set_option maxRecDepth 100000 in
theorem c_J9_floorDiv_7cf53 (l : Launch) (g : kG) (u : Int) (b : Int) (hu : -3000000 ≤ u ∧ u ≤ 3000000) (hb0 : 0 < b ∧ b ≤ 10000) : KI l yJ9_floorDiv_7cf53 wsJ9_floorDiv_7cf53 rm_J9_floorDiv_7cf53 g [.int (kI u), .int (kI b)] [] (p_J9_floorDiv_7cf53 g u b) := by
  refine kbodyI (cc := cJ9_floorDiv_7cf53) (n := 3) (k := 0) (own := RJ9) (by decide +kernel) rfl rfl rfl rfl ?_
  intro p e s m below meth cd A ls hcx
  obtain ⟨hx, hb, hRt, hml, hts, hown, hlk, hA, hP, hK, hD, hE, hS, hl⟩ := hcx
  have hl : lv_has ls 3 [(0, .int (kI u)), (1, .int (kI b))] := hl
  refine lv_iload_n hx hb dJ9_floorDiv_7cf53_0 rfl (lv_at hl 0 rfl) ?_
  refine lv_iload_n hx hb dJ9_floorDiv_7cf53_1 rfl (lv_at hl 1 rfl) ?_
  refine lv_idiv hx hb dJ9_floorDiv_7cf53_2 (fun z => by rw [show (0 : Int32) = kI 0 from rfl, kI_inj (by omega) (by omega) (by omega) (by omega)] at z; omega) ?_
  rw [show ((kI u) / (kI b) : Int32) = kI (u.tdiv b) from kI_div (by omega) (by omega) hb0.1 (by omega)]
  refine lv_istore_n (lv' := [(2, .int (kI (u.tdiv b))), (0, .int (kI u)), (1, .int (kI b))]) hx hb dJ9_floorDiv_7cf53_3 rfl hl (by decide) rfl (fun ls hl => ?_)
  refine lv_iload_n hx hb dJ9_floorDiv_7cf53_4 rfl (lv_at hl 1 rfl) ?_
  refine lv_iload_n hx hb dJ9_floorDiv_7cf53_5 rfl (lv_at hl 2 rfl) ?_
  refine lv_ixor hx hb dJ9_floorDiv_7cf53_6 ?_
  refine lv_if_ge (tgt := 21) hx hb dJ9_floorDiv_7cf53_7 (by decide) (fun c_7 => ?_) (fun c_7 => ?_)
  · skip
    have hpos : 0 ≤ u := (kI_xor (by omega) (by omega) hb0.1 (by omega)).mp c_7
    refine lv_iload_n hx hb dJ9_floorDiv_7cf53_21 rfl (lv_at hl 0 rfl) ?_
    exact kreti hx hb hRt hlk hK hP hD hS rfl dJ9_floorDiv_7cf53_22 (⟨by rw [kfloor_pos hpos], rfl⟩)
  · skip
    have hneg : u < 0 := Int.not_le.mp (fun z => c_7 ((kI_xor (by omega) (by omega) hb0.1 (by omega)).mpr z))
    have hq := ktdiv_bd hu.1 hu.2 hb0.1
    have hfl := kfloor_neg hneg hb0.1
    have hqb : u ≤ u.tdiv b * b ∧ u.tdiv b * b ≤ 0 := by have e1 := Int.mul_tdiv_add_tmod u b; have e2 : (-u).tmod b = -(u.tmod b) := Int.neg_tmod u b; have e3 := Int.tmod_nonneg (a := -u) b (by omega); have e4 := Int.tmod_lt_of_pos (-u) hb0.1; have e5 : u.tdiv b * b = b * u.tdiv b := Int.mul_comm _ _; rw [e5]; refine ⟨by omega, ?_⟩; rw [← e5]; have e6 : (-u).tdiv b = -(u.tdiv b) := Int.neg_tdiv u b; have e7 := Int.tdiv_nonneg (a := -u) (b := b) (by omega) (by omega); have e8 := Int.mul_nonneg e7 (show 0 ≤ b by omega); rw [e6, Int.neg_mul] at e8; omega
    refine lv_iload_n hx hb dJ9_floorDiv_7cf53_10 rfl (lv_at hl 0 rfl) ?_
    refine lv_iload_n hx hb dJ9_floorDiv_7cf53_11 rfl (lv_at hl 2 rfl) ?_
    refine lv_imul hx hb dJ9_floorDiv_7cf53_12 ?_
    rw [show ((kI (u.tdiv b)) * (kI b) : Int32) = kI (u.tdiv b * b) from kI_mul _ _]
    refine lv_iload_n hx hb dJ9_floorDiv_7cf53_13 rfl (lv_at hl 1 rfl) ?_
    refine lv_icmp_eq (tgt := 21) hx hb dJ9_floorDiv_7cf53_14 (by decide) (fun c_14 => ?_) (fun c_14 => ?_)
    · skip
      rw [kI_inj (by omega) (by omega) (by omega) (by omega)] at c_14
      refine lv_iload_n hx hb dJ9_floorDiv_7cf53_21 rfl (lv_at hl 0 rfl) ?_
      exact kreti hx hb hRt hlk hK hP hD hS rfl dJ9_floorDiv_7cf53_22 (⟨by rw [hfl, if_pos c_14], rfl⟩)
    · skip
      rw [kI_inj (by omega) (by omega) (by omega) (by omega)] at c_14
      refine lv_iload_n hx hb dJ9_floorDiv_7cf53_17 rfl (lv_at hl 0 rfl) ?_
      refine lv_iconst (v := 1) hx hb dJ9_floorDiv_7cf53_18 (by decide) ?_
      refine lv_isub hx hb dJ9_floorDiv_7cf53_19 ?_
      exact kreti hx hb hRt hlk hK hP hD hS rfl dJ9_floorDiv_7cf53_20 (⟨by rw [hfl, if_neg c_14, show (1 : Int32) = kI 1 from rfl, kI_sub], rfl⟩)
theorem dJ13_bitCount_95d88_0 : decode cJ13_bitCount_95d88 0 = .ok (.lload_n 0, 1) := by decide +kernel
theorem dJ13_bitCount_95d88_1 : decode cJ13_bitCount_95d88 1 = .ok (.lload_n 0, 1) := by decide +kernel
theorem dJ13_bitCount_95d88_2 : decode cJ13_bitCount_95d88 2 = .ok (.iconst 1, 1) := by decide +kernel
theorem dJ13_bitCount_95d88_3 : decode cJ13_bitCount_95d88 3 = .ok (.lushr, 1) := by decide +kernel
theorem dJ13_bitCount_95d88_4 : decode cJ13_bitCount_95d88 4 = .ok (.ldc2_w 314, 3) := by decide +kernel
theorem dJ13_bitCount_95d88_7 : decode cJ13_bitCount_95d88 7 = .ok (.land, 1) := by decide +kernel
theorem dJ13_bitCount_95d88_8 : decode cJ13_bitCount_95d88 8 = .ok (.lsub, 1) := by decide +kernel
theorem dJ13_bitCount_95d88_9 : decode cJ13_bitCount_95d88 9 = .ok (.lstore_n 0, 1) := by decide +kernel
theorem dJ13_bitCount_95d88_10 : decode cJ13_bitCount_95d88 10 = .ok (.lload_n 0, 1) := by decide +kernel
theorem dJ13_bitCount_95d88_11 : decode cJ13_bitCount_95d88 11 = .ok (.ldc2_w 316, 3) := by decide +kernel
theorem dJ13_bitCount_95d88_14 : decode cJ13_bitCount_95d88 14 = .ok (.land, 1) := by decide +kernel
theorem dJ13_bitCount_95d88_15 : decode cJ13_bitCount_95d88 15 = .ok (.lload_n 0, 1) := by decide +kernel
theorem dJ13_bitCount_95d88_16 : decode cJ13_bitCount_95d88 16 = .ok (.iconst 2, 1) := by decide +kernel
theorem dJ13_bitCount_95d88_17 : decode cJ13_bitCount_95d88 17 = .ok (.lushr, 1) := by decide +kernel
theorem dJ13_bitCount_95d88_18 : decode cJ13_bitCount_95d88 18 = .ok (.ldc2_w 316, 3) := by decide +kernel
theorem dJ13_bitCount_95d88_21 : decode cJ13_bitCount_95d88 21 = .ok (.land, 1) := by decide +kernel
theorem dJ13_bitCount_95d88_22 : decode cJ13_bitCount_95d88 22 = .ok (.ladd, 1) := by decide +kernel
theorem dJ13_bitCount_95d88_23 : decode cJ13_bitCount_95d88 23 = .ok (.lstore_n 0, 1) := by decide +kernel
theorem dJ13_bitCount_95d88_24 : decode cJ13_bitCount_95d88 24 = .ok (.lload_n 0, 1) := by decide +kernel
theorem dJ13_bitCount_95d88_25 : decode cJ13_bitCount_95d88 25 = .ok (.lload_n 0, 1) := by decide +kernel
theorem dJ13_bitCount_95d88_26 : decode cJ13_bitCount_95d88 26 = .ok (.iconst 4, 1) := by decide +kernel
theorem dJ13_bitCount_95d88_27 : decode cJ13_bitCount_95d88 27 = .ok (.lushr, 1) := by decide +kernel
theorem dJ13_bitCount_95d88_28 : decode cJ13_bitCount_95d88 28 = .ok (.ladd, 1) := by decide +kernel
theorem dJ13_bitCount_95d88_29 : decode cJ13_bitCount_95d88 29 = .ok (.ldc2_w 318, 3) := by decide +kernel
theorem dJ13_bitCount_95d88_32 : decode cJ13_bitCount_95d88 32 = .ok (.land, 1) := by decide +kernel
theorem dJ13_bitCount_95d88_33 : decode cJ13_bitCount_95d88 33 = .ok (.lstore_n 0, 1) := by decide +kernel
theorem dJ13_bitCount_95d88_34 : decode cJ13_bitCount_95d88 34 = .ok (.lload_n 0, 1) := by decide +kernel
theorem dJ13_bitCount_95d88_35 : decode cJ13_bitCount_95d88 35 = .ok (.lload_n 0, 1) := by decide +kernel
theorem dJ13_bitCount_95d88_36 : decode cJ13_bitCount_95d88 36 = .ok (.bipush 8, 2) := by decide +kernel
theorem dJ13_bitCount_95d88_38 : decode cJ13_bitCount_95d88 38 = .ok (.lushr, 1) := by decide +kernel
theorem dJ13_bitCount_95d88_39 : decode cJ13_bitCount_95d88 39 = .ok (.ladd, 1) := by decide +kernel
theorem dJ13_bitCount_95d88_40 : decode cJ13_bitCount_95d88 40 = .ok (.lstore_n 0, 1) := by decide +kernel
theorem dJ13_bitCount_95d88_41 : decode cJ13_bitCount_95d88 41 = .ok (.lload_n 0, 1) := by decide +kernel
theorem dJ13_bitCount_95d88_42 : decode cJ13_bitCount_95d88 42 = .ok (.lload_n 0, 1) := by decide +kernel
theorem dJ13_bitCount_95d88_43 : decode cJ13_bitCount_95d88 43 = .ok (.bipush 16, 2) := by decide +kernel
theorem dJ13_bitCount_95d88_45 : decode cJ13_bitCount_95d88 45 = .ok (.lushr, 1) := by decide +kernel
theorem dJ13_bitCount_95d88_46 : decode cJ13_bitCount_95d88 46 = .ok (.ladd, 1) := by decide +kernel
theorem dJ13_bitCount_95d88_47 : decode cJ13_bitCount_95d88 47 = .ok (.lstore_n 0, 1) := by decide +kernel
theorem dJ13_bitCount_95d88_48 : decode cJ13_bitCount_95d88 48 = .ok (.lload_n 0, 1) := by decide +kernel
theorem dJ13_bitCount_95d88_49 : decode cJ13_bitCount_95d88 49 = .ok (.lload_n 0, 1) := by decide +kernel
theorem dJ13_bitCount_95d88_50 : decode cJ13_bitCount_95d88 50 = .ok (.bipush 32, 2) := by decide +kernel
theorem dJ13_bitCount_95d88_52 : decode cJ13_bitCount_95d88 52 = .ok (.lushr, 1) := by decide +kernel
theorem dJ13_bitCount_95d88_53 : decode cJ13_bitCount_95d88 53 = .ok (.ladd, 1) := by decide +kernel
theorem dJ13_bitCount_95d88_54 : decode cJ13_bitCount_95d88 54 = .ok (.lstore_n 0, 1) := by decide +kernel
theorem dJ13_bitCount_95d88_55 : decode cJ13_bitCount_95d88 55 = .ok (.lload_n 0, 1) := by decide +kernel
theorem dJ13_bitCount_95d88_56 : decode cJ13_bitCount_95d88 56 = .ok (.l2i, 1) := by decide +kernel
theorem dJ13_bitCount_95d88_57 : decode cJ13_bitCount_95d88 57 = .ok (.bipush 127, 2) := by decide +kernel
theorem dJ13_bitCount_95d88_59 : decode cJ13_bitCount_95d88 59 = .ok (.iand, 1) := by decide +kernel
theorem dJ13_bitCount_95d88_60 : decode cJ13_bitCount_95d88 60 = .ok (.ireturn, 1) := by decide +kernel
def rm_J13_bitCount_95d88 : Room := { frames := 0, cells := 0, slots := 0, locals := 0 }
abbrev p_J13_bitCount_95d88 (g : kG) (w : Int64) : Int32 → va_W → Prop := fun r w1 => r = kbc w ∧ w1 = []
set_option maxHeartbeats 4000000 in
set_option maxRecDepth 100000 in
theorem c_J13_bitCount_95d88 (l : Launch) (g : kG) (w : Int64) : KI l yJ13_bitCount_95d88 wsJ13_bitCount_95d88 rm_J13_bitCount_95d88 g [.long w] [] (p_J13_bitCount_95d88 g w) := by
  refine kbodyI (cc := cJ13_bitCount_95d88) (n := 2) (k := 0) (own := RJ13) (by decide +kernel) rfl rfl rfl rfl ?_
  intro p e s m below meth cd A ls hcx
  obtain ⟨hx, hb, hRt, hml, hts, hown, hlk, hA, hP, hK, hD, hE, hS, hl⟩ := hcx
  have hl : lv_has ls 2 [(0, .long w)] := hl
  refine lv_lload_n hx hb dJ13_bitCount_95d88_0 rfl (lv_at hl 0 rfl) ?_
  refine lv_lload_n hx hb dJ13_bitCount_95d88_1 rfl (lv_at hl 0 rfl) ?_
  refine lv_iconst (v := 1) hx hb dJ13_bitCount_95d88_2 (by decide) ?_
  refine lv_lushr hx hb dJ13_bitCount_95d88_3 rfl ?_
  refine lv_ldc2 hx hb hown (hts (.constantLong RJ13 314 (6148914691236517205)) (by decide +kernel)) dJ13_bitCount_95d88_4 ?_
  refine lv_land hx hb dJ13_bitCount_95d88_7 ?_
  refine lv_lsub hx hb dJ13_bitCount_95d88_8 ?_
  refine lv_topl (fun v1 e_v1 => ?_)
  refine lv_lstore_n (lv' := [(0, .long v1)]) hx hb dJ13_bitCount_95d88_9 rfl hl (by decide) rfl (fun ls hl => ?_)
  refine lv_lload_n hx hb dJ13_bitCount_95d88_10 rfl (lv_at hl 0 rfl) ?_
  refine lv_ldc2 hx hb hown (hts (.constantLong RJ13 316 (3689348814741910323)) (by decide +kernel)) dJ13_bitCount_95d88_11 ?_
  refine lv_land hx hb dJ13_bitCount_95d88_14 ?_
  refine lv_lload_n hx hb dJ13_bitCount_95d88_15 rfl (lv_at hl 0 rfl) ?_
  refine lv_iconst (v := 2) hx hb dJ13_bitCount_95d88_16 (by decide) ?_
  refine lv_lushr hx hb dJ13_bitCount_95d88_17 rfl ?_
  refine lv_ldc2 hx hb hown (hts (.constantLong RJ13 316 (3689348814741910323)) (by decide +kernel)) dJ13_bitCount_95d88_18 ?_
  refine lv_land hx hb dJ13_bitCount_95d88_21 ?_
  refine lv_ladd hx hb dJ13_bitCount_95d88_22 ?_
  refine lv_topl (fun v2 e_v2 => ?_)
  refine lv_lstore_n (lv' := [(0, .long v2)]) hx hb dJ13_bitCount_95d88_23 rfl hl (by decide) rfl (fun ls hl => ?_)
  refine lv_lload_n hx hb dJ13_bitCount_95d88_24 rfl (lv_at hl 0 rfl) ?_
  refine lv_lload_n hx hb dJ13_bitCount_95d88_25 rfl (lv_at hl 0 rfl) ?_
  refine lv_iconst (v := 4) hx hb dJ13_bitCount_95d88_26 (by decide) ?_
  refine lv_lushr hx hb dJ13_bitCount_95d88_27 rfl ?_
  refine lv_ladd hx hb dJ13_bitCount_95d88_28 ?_
  refine lv_ldc2 hx hb hown (hts (.constantLong RJ13 318 (1085102592571150095)) (by decide +kernel)) dJ13_bitCount_95d88_29 ?_
  refine lv_land hx hb dJ13_bitCount_95d88_32 ?_
  refine lv_topl (fun v3 e_v3 => ?_)
  refine lv_lstore_n (lv' := [(0, .long v3)]) hx hb dJ13_bitCount_95d88_33 rfl hl (by decide) rfl (fun ls hl => ?_)
  refine lv_lload_n hx hb dJ13_bitCount_95d88_34 rfl (lv_at hl 0 rfl) ?_
  refine lv_lload_n hx hb dJ13_bitCount_95d88_35 rfl (lv_at hl 0 rfl) ?_
  refine lv_bipush (v := 8) hx hb dJ13_bitCount_95d88_36 (by decide) ?_
  refine lv_lushr hx hb dJ13_bitCount_95d88_38 rfl ?_
  refine lv_ladd hx hb dJ13_bitCount_95d88_39 ?_
  refine lv_topl (fun v4 e_v4 => ?_)
  refine lv_lstore_n (lv' := [(0, .long v4)]) hx hb dJ13_bitCount_95d88_40 rfl hl (by decide) rfl (fun ls hl => ?_)
  refine lv_lload_n hx hb dJ13_bitCount_95d88_41 rfl (lv_at hl 0 rfl) ?_
  refine lv_lload_n hx hb dJ13_bitCount_95d88_42 rfl (lv_at hl 0 rfl) ?_
  refine lv_bipush (v := 16) hx hb dJ13_bitCount_95d88_43 (by decide) ?_
  refine lv_lushr hx hb dJ13_bitCount_95d88_45 rfl ?_
  refine lv_ladd hx hb dJ13_bitCount_95d88_46 ?_
  refine lv_topl (fun v5 e_v5 => ?_)
  refine lv_lstore_n (lv' := [(0, .long v5)]) hx hb dJ13_bitCount_95d88_47 rfl hl (by decide) rfl (fun ls hl => ?_)
  refine lv_lload_n hx hb dJ13_bitCount_95d88_48 rfl (lv_at hl 0 rfl) ?_
  refine lv_lload_n hx hb dJ13_bitCount_95d88_49 rfl (lv_at hl 0 rfl) ?_
  refine lv_bipush (v := 32) hx hb dJ13_bitCount_95d88_50 (by decide) ?_
  refine lv_lushr hx hb dJ13_bitCount_95d88_52 rfl ?_
  refine lv_ladd hx hb dJ13_bitCount_95d88_53 ?_
  refine lv_topl (fun v6 e_v6 => ?_)
  refine lv_lstore_n (lv' := [(0, .long v6)]) hx hb dJ13_bitCount_95d88_54 rfl hl (by decide) rfl (fun ls hl => ?_)
  refine lv_lload_n hx hb dJ13_bitCount_95d88_55 rfl (lv_at hl 0 rfl) ?_
  refine lv_l2i hx hb dJ13_bitCount_95d88_56 rfl ?_
  refine lv_bipush (v := 127) hx hb dJ13_bitCount_95d88_57 (by decide) ?_
  refine lv_iand hx hb dJ13_bitCount_95d88_59 ?_
  exact kreti hx hb hRt hlk hK hP hD hS rfl dJ13_bitCount_95d88_60 (⟨by subst e_v6; subst e_v5; subst e_v4; subst e_v3; subst e_v2; subst e_v1; rfl, rfl⟩)
theorem dX3_pageOf_0 : decode cX3_pageOf 0 = .ok (.iload_n 1, 1) := by decide +kernel
theorem dX3_pageOf_1 : decode cX3_pageOf 1 = .ok (.ifCond .le 9, 3) := by decide +kernel
theorem dX3_pageOf_4 : decode cX3_pageOf 4 = .ok (.iload_n 0, 1) := by decide +kernel
theorem dX3_pageOf_5 : decode cX3_pageOf 5 = .ok (.iload_n 1, 1) := by decide +kernel
theorem dX3_pageOf_6 : decode cX3_pageOf 6 = .ok (.idiv, 1) := by decide +kernel
theorem dX3_pageOf_7 : decode cX3_pageOf 7 = .ok (.goto 4, 3) := by decide +kernel
theorem dX3_pageOf_10 : decode cX3_pageOf 10 = .ok (.iconst 0, 1) := by decide +kernel
theorem dX3_pageOf_11 : decode cX3_pageOf 11 = .ok (.ireturn, 1) := by decide +kernel
def rm_X3_pageOf : Room := { frames := 0, cells := 0, slots := 0, locals := 0 }
abbrev p_X3_pageOf (g : kG) (q : Nat) (sp : Nat) : Int32 → va_W → Prop := fun r w1 => r = nI (q / sp) ∧ w1 = []
set_option maxHeartbeats 4000000 in
set_option maxRecDepth 100000 in
theorem c_X3_pageOf (l : Launch) (g : kG) (q : Nat) (sp : Nat) (hs : 0 < sp ∧ sp ≤ 16) (hq : q < 1000) : KI l yX3_pageOf wsX3_pageOf rm_X3_pageOf g [.int (nI q), .int (nI sp)] [] (p_X3_pageOf g q sp) := by
  refine kbodyI (cc := cX3_pageOf) (n := 2) (k := 0) (own := RX3) (plainFor_of_name (by decide)) rfl rfl rfl rfl ?_
  intro p e s m below meth cd A ls hcx
  obtain ⟨hx, hb, hRt, hml, hts, hown, hlk, hA, hP, hK, hD, hE, hS, hl⟩ := hcx
  have hl : lv_has ls 2 [(0, .int (nI q)), (1, .int (nI sp))] := hl
  refine lv_iload_n hx hb dX3_pageOf_0 rfl (lv_at hl 1 rfl) ?_
  refine lv_if_le (tgt := 10) hx hb dX3_pageOf_1 (by decide) (fun c_1 => absurd c_1 (nI_nle hs.1 (by omega))) (fun c_1 => ?_)
  refine lv_iload_n hx hb dX3_pageOf_4 rfl (lv_at hl 0 rfl) ?_
  refine lv_iload_n hx hb dX3_pageOf_5 rfl (lv_at hl 1 rfl) ?_
  refine lv_idiv hx hb dX3_pageOf_6 (nI_ne0 hs.1 (by omega)) ?_
  rw [show ((nI q) / (nI sp) : Int32) = nI (q / sp) from pk_div (by omega) hs.1 (by omega)]
  refine lv_goto (tgt := 11) hx hb dX3_pageOf_7 (by decide) ?_
  exact kreti hx hb hRt hlk hK hP hD hS rfl dX3_pageOf_11 (⟨rfl, rfl⟩)
set_option maxRecDepth 20000 in
theorem ggX3_pagesOfWindow_X3_pageOf : GoodIn wsX3_pagesOfWindow wsX3_pageOf := goodIn_ca (goodIn_r _ [6] (by decide +kernel) (by decide +kernel)) (goodIn_sub (fun _ h => List.mem_cons_of_mem _ (List.mem_append_right _ h)) (by decide +kernel))
set_option maxRecDepth 20000 in
theorem gX3_pagesOfWindow_X3_pageOf : GoodIn wsX3_pagesOfWindow (va_wsS RX3 58 yX3_pageOf wsX3_pageOf) := goodIn_app (goodIn_of _ (by decide +kernel)) ggX3_pagesOfWindow_X3_pageOf
theorem dX3_pagesOfWindow_0 : decode cX3_pagesOfWindow 0 = .ok (.aload_n 0, 1) := by decide +kernel
theorem dX3_pagesOfWindow_1 : decode cX3_pagesOfWindow 1 = .ok (.getfield 18, 3) := by decide +kernel
theorem dX3_pagesOfWindow_4 : decode cX3_pagesOfWindow 4 = .ok (.iload_n 1, 1) := by decide +kernel
theorem dX3_pagesOfWindow_5 : decode cX3_pagesOfWindow 5 = .ok (.invokestatic 58, 3) := by decide +kernel
theorem dX3_pagesOfWindow_8 : decode cX3_pagesOfWindow 8 = .ok (.aload_n 0, 1) := by decide +kernel
theorem dX3_pagesOfWindow_9 : decode cX3_pagesOfWindow 9 = .ok (.getfield 15, 3) := by decide +kernel
theorem dX3_pagesOfWindow_12 : decode cX3_pagesOfWindow 12 = .ok (.iload_n 1, 1) := by decide +kernel
theorem dX3_pagesOfWindow_13 : decode cX3_pagesOfWindow 13 = .ok (.invokestatic 58, 3) := by decide +kernel
theorem dX3_pagesOfWindow_16 : decode cX3_pagesOfWindow 16 = .ok (.isub, 1) := by decide +kernel
theorem dX3_pagesOfWindow_17 : decode cX3_pagesOfWindow 17 = .ok (.iconst 1, 1) := by decide +kernel
theorem dX3_pagesOfWindow_18 : decode cX3_pagesOfWindow 18 = .ok (.iadd, 1) := by decide +kernel
theorem dX3_pagesOfWindow_19 : decode cX3_pagesOfWindow 19 = .ok (.ireturn, 1) := by decide +kernel
def rm_X3_pagesOfWindow : Room := { frames := 1, cells := 0, slots := 0, locals := 21 }
abbrev p_X3_pagesOfWindow (g : kG) (h : Nat) (pr : Int32) (lo : Nat) (hi : Nat) (pb : Int32) (pg : Int32) (sp : Nat) : Int32 → va_W → Prop := fun r w1 => r = nI (hi / sp - lo / sp + 1) ∧ w1 = [(h, .inr (5, [.int pr, .int (nI lo), .int (nI hi), .int pb, .int pg]))]
set_option maxHeartbeats 4000000 in
set_option maxRecDepth 100000 in
theorem c_X3_pagesOfWindow (l : Launch) (g : kG) (h : Nat) (pr : Int32) (lo : Nat) (hi : Nat) (pb : Int32) (pg : Int32) (sp : Nat) (hs : 0 < sp ∧ sp ≤ 16) (hw : lo ≤ hi ∧ hi < 1000) : KI l yX3_pagesOfWindow wsX3_pagesOfWindow rm_X3_pagesOfWindow g [.ref h, .int (nI sp)] [(h, .inr (5, [.int pr, .int (nI lo), .int (nI hi), .int pb, .int pg]))] (p_X3_pagesOfWindow g h pr lo hi pb pg sp) := by
  refine kbodyI (cc := cX3_pagesOfWindow) (n := 2) (k := 1) (own := RX3) (plainFor_of_name (by decide)) rfl rfl rfl rfl ?_
  intro p e s m below meth cd A ls hcx
  obtain ⟨hx, hb, hRt, hml, hts, hown, hlk, hA, hP, hK, hD, hE, hS, hl⟩ := hcx
  have hl : lv_has ls 2 [(0, .ref h), (1, .int (nI sp))] := hl
  refine lv_aload_n hx hb dX3_pagesOfWindow_0 rfl (lv_at hl 0 rfl) ?_
  refine va_get (D := g.1) (ci := 5) (v := .int (nI hi)) (C := RX3) (T := TX3) (N := 5) hx hb hts (by decide +kernel) hown hK hP 0 rfl rfl 2 (by decide) (hts (.fieldLink RX3 18 "LearnedIndex$Search" "high" "I") (by decide +kernel)) (fun _ h9 => h9) rfl dX3_pagesOfWindow_1 ?_
  refine lv_iload_n hx hb dX3_pagesOfWindow_4 rfl (lv_at hl 1 rfl) ?_
  refine kcalli (wc := []) [] (va_runS (As := [.int (nI hi), .int (nI sp)]) (rest := []) ⟨hx, hb, hml, hown, hts⟩ ((c_X3_pageOf l g hi sp hs hw.2) _) (va_cwS 2 hts gX3_pagesOfWindow_X3_pageOf rfl rfl rfl (by decide +kernel) ⟨Nat.le_of_ble_eq_true rfl, Nat.le_of_ble_eq_true rfl⟩) (kpreS (wc := []) hK hP hD hS hA hE [] rfl rfl) rfl rfl hl.1 rfl (lv_room (Nat.le_of_ble_eq_true rfl)) dX3_pagesOfWindow_5 ⟨Nat.zero_le _, Nat.zero_le _⟩) hP hD hS hA rfl (fun r_1 w_1 H locs hp hP hD hS => ?_)
  obtain ⟨rfl, rfl⟩ := hp
  have hP : va_P g.1 vwCl [(h, .inr (5, [.int pr, .int (nI lo), .int (nI hi), .int pb, .int pg]))] H := hP
  have hD : va_D A [(h, .inr (5, [.int pr, .int (nI lo), .int (nI hi), .int pb, .int pg]))] := hD
  refine lv_aload_n hx hb dX3_pagesOfWindow_8 rfl (lv_at hl 0 rfl) ?_
  refine va_get (D := g.1) (ci := 5) (v := .int (nI lo)) (C := RX3) (T := TX3) (N := 5) hx hb hts (by decide +kernel) hown hK hP 0 rfl rfl 1 (by decide) (hts (.fieldLink RX3 15 "LearnedIndex$Search" "low" "I") (by decide +kernel)) (fun _ h9 => h9) rfl dX3_pagesOfWindow_9 ?_
  refine lv_iload_n hx hb dX3_pagesOfWindow_12 rfl (lv_at hl 1 rfl) ?_
  refine kcalli (wc := []) [] (va_runS (As := [.int (nI lo), .int (nI sp)]) (rest := [.int (nI (hi / sp))]) ⟨hx, hb, hml, hown, hts⟩ ((c_X3_pageOf l g lo sp hs (by omega)) _) (va_cwS 2 hts gX3_pagesOfWindow_X3_pageOf rfl rfl rfl (by decide +kernel) ⟨Nat.le_of_ble_eq_true rfl, Nat.le_of_ble_eq_true rfl⟩) (kpreS (wc := []) hK hP hD hS hA hE [] rfl rfl) rfl rfl hl.1 rfl (lv_room (Nat.le_of_ble_eq_true rfl)) dX3_pagesOfWindow_13 ⟨Nat.zero_le _, Nat.zero_le _⟩) hP hD hS hA rfl (fun r_2 w_2 H locs hp hP hD hS => ?_)
  obtain ⟨rfl, rfl⟩ := hp
  have hP : va_P g.1 vwCl [(h, .inr (5, [.int pr, .int (nI lo), .int (nI hi), .int pb, .int pg]))] H := hP
  have hD : va_D A [(h, .inr (5, [.int pr, .int (nI lo), .int (nI hi), .int pb, .int pg]))] := hD
  refine lv_isub hx hb dX3_pagesOfWindow_16 ?_
  rw [show ((nI (hi / sp)) - (nI (lo / sp)) : Int32) = nI (hi / sp - lo / sp) from pk_sub (Nat.div_le_div_right hw.1)]
  refine lv_iconst (v := 1) hx hb dX3_pagesOfWindow_17 (by decide) ?_
  refine lv_iadd hx hb dX3_pagesOfWindow_18 ?_
  rw [show ((nI (hi / sp - lo / sp)) + 1 : Int32) = nI (hi / sp - lo / sp + 1) from nI_1 _]
  exact kreti hx hb hRt hlk hK hP hD hS rfl dX3_pagesOfWindow_19 (⟨rfl, rfl⟩)
set_option maxRecDepth 20000 in
theorem ggX3_aim_X6_cell : GoodIn wsX3_aim wsX6_cell := goodIn_ca (goodIn_r _ [13] (by decide +kernel) (by decide +kernel)) (goodIn_sub (fun _ h => List.mem_cons_of_mem _ (List.mem_append_right _ h)) (by decide +kernel))
set_option maxRecDepth 20000 in
theorem gX3_aim_X6_cell_n30 : GoodIn wsX3_aim (wsX6_cell) := ggX3_aim_X6_cell
set_option maxRecDepth 20000 in
theorem ggX3_aim_J9_floorDiv_7cf53 : GoodIn wsX3_aim wsJ9_floorDiv_7cf53 := goodIn_r _ [17] (by decide +kernel) (by decide +kernel)
set_option maxRecDepth 20000 in
theorem gX3_aim_J9_floorDiv_7cf53 : GoodIn wsX3_aim (va_wsS RX3 46 yJ9_floorDiv_7cf53 wsJ9_floorDiv_7cf53) := goodIn_app (goodIn_of _ (by decide +kernel)) ggX3_aim_J9_floorDiv_7cf53
theorem dX3_aim_0 : decode cX3_aim 0 = .ok (.aload_n 0, 1) := by decide +kernel
theorem dX3_aim_1 : decode cX3_aim 1 = .ok (.iconst 0, 1) := by decide +kernel
theorem dX3_aim_2 : decode cX3_aim 2 = .ok (.putfield 9, 3) := by decide +kernel
theorem dX3_aim_5 : decode cX3_aim 5 = .ok (.aload_n 0, 1) := by decide +kernel
theorem dX3_aim_6 : decode cX3_aim 6 = .ok (.iconst 0, 1) := by decide +kernel
theorem dX3_aim_7 : decode cX3_aim 7 = .ok (.putfield 15, 3) := by decide +kernel
theorem dX3_aim_10 : decode cX3_aim 10 = .ok (.aload_n 0, 1) := by decide +kernel
theorem dX3_aim_11 : decode cX3_aim 11 = .ok (.iconst (-1), 1) := by decide +kernel
theorem dX3_aim_12 : decode cX3_aim 12 = .ok (.putfield 18, 3) := by decide +kernel
theorem dX3_aim_15 : decode cX3_aim 15 = .ok (.iload_n 2, 1) := by decide +kernel
theorem dX3_aim_16 : decode cX3_aim 16 = .ok (.ifCond .lt 11, 3) := by decide +kernel
theorem dX3_aim_19 : decode cX3_aim 19 = .ok (.iload_n 2, 1) := by decide +kernel
theorem dX3_aim_20 : decode cX3_aim 20 = .ok (.aload_n 1, 1) := by decide +kernel
theorem dX3_aim_21 : decode cX3_aim 21 = .ok (.getfield 21, 3) := by decide +kernel
theorem dX3_aim_24 : decode cX3_aim 24 = .ok (.if_icmp .lt 4, 3) := by decide +kernel
theorem dX3_aim_27 : decode cX3_aim 27 = .ok (.return_, 1) := by decide +kernel
theorem dX3_aim_28 : decode cX3_aim 28 = .ok (.aload_n 1, 1) := by decide +kernel
theorem dX3_aim_29 : decode cX3_aim 29 = .ok (.getfield 26, 3) := by decide +kernel
theorem dX3_aim_32 : decode cX3_aim 32 = .ok (.iload_n 2, 1) := by decide +kernel
theorem dX3_aim_33 : decode cX3_aim 33 = .ok (.invokestatic 30, 3) := by decide +kernel
theorem dX3_aim_36 : decode cX3_aim 36 = .ok (.istore 5, 2) := by decide +kernel
theorem dX3_aim_38 : decode cX3_aim 38 = .ok (.aload_n 1, 1) := by decide +kernel
theorem dX3_aim_39 : decode cX3_aim 39 = .ok (.getfield 34, 3) := by decide +kernel
theorem dX3_aim_42 : decode cX3_aim 42 = .ok (.iload_n 2, 1) := by decide +kernel
theorem dX3_aim_43 : decode cX3_aim 43 = .ok (.invokestatic 30, 3) := by decide +kernel
theorem dX3_aim_46 : decode cX3_aim 46 = .ok (.istore 6, 2) := by decide +kernel
theorem dX3_aim_48 : decode cX3_aim 48 = .ok (.aload_n 1, 1) := by decide +kernel
theorem dX3_aim_49 : decode cX3_aim 49 = .ok (.getfield 37, 3) := by decide +kernel
theorem dX3_aim_52 : decode cX3_aim 52 = .ok (.iload_n 2, 1) := by decide +kernel
theorem dX3_aim_53 : decode cX3_aim 53 = .ok (.invokestatic 30, 3) := by decide +kernel
theorem dX3_aim_56 : decode cX3_aim 56 = .ok (.iload_n 3, 1) := by decide +kernel
theorem dX3_aim_57 : decode cX3_aim 57 = .ok (.aload_n 1, 1) := by decide +kernel
theorem dX3_aim_58 : decode cX3_aim 58 = .ok (.getfield 40, 3) := by decide +kernel
theorem dX3_aim_61 : decode cX3_aim 61 = .ok (.iload_n 2, 1) := by decide +kernel
theorem dX3_aim_62 : decode cX3_aim 62 = .ok (.invokestatic 30, 3) := by decide +kernel
theorem dX3_aim_65 : decode cX3_aim 65 = .ok (.isub, 1) := by decide +kernel
theorem dX3_aim_66 : decode cX3_aim 66 = .ok (.imul, 1) := by decide +kernel
theorem dX3_aim_67 : decode cX3_aim 67 = .ok (.istore 7, 2) := by decide +kernel
theorem dX3_aim_69 : decode cX3_aim 69 = .ok (.aload_n 1, 1) := by decide +kernel
theorem dX3_aim_70 : decode cX3_aim 70 = .ok (.getfield 43, 3) := by decide +kernel
theorem dX3_aim_73 : decode cX3_aim 73 = .ok (.iload_n 2, 1) := by decide +kernel
theorem dX3_aim_74 : decode cX3_aim 74 = .ok (.invokestatic 30, 3) := by decide +kernel
theorem dX3_aim_77 : decode cX3_aim 77 = .ok (.istore 8, 2) := by decide +kernel
theorem dX3_aim_79 : decode cX3_aim 79 = .ok (.iload 8, 2) := by decide +kernel
theorem dX3_aim_81 : decode cX3_aim 81 = .ok (.ifCond .le 13, 3) := by decide +kernel
theorem dX3_aim_84 : decode cX3_aim 84 = .ok (.iload 7, 2) := by decide +kernel
theorem dX3_aim_86 : decode cX3_aim 86 = .ok (.iload 8, 2) := by decide +kernel
theorem dX3_aim_88 : decode cX3_aim 88 = .ok (.invokestatic 46, 3) := by decide +kernel
theorem dX3_aim_91 : decode cX3_aim 91 = .ok (.goto 4, 3) := by decide +kernel
theorem dX3_aim_94 : decode cX3_aim 94 = .ok (.iconst 0, 1) := by decide +kernel
theorem dX3_aim_95 : decode cX3_aim 95 = .ok (.istore 9, 2) := by decide +kernel
theorem dX3_aim_97 : decode cX3_aim 97 = .ok (.aload_n 0, 1) := by decide +kernel
theorem dX3_aim_98 : decode cX3_aim 98 = .ok (.iload 5, 2) := by decide +kernel
theorem dX3_aim_100 : decode cX3_aim 100 = .ok (.iload 9, 2) := by decide +kernel
theorem dX3_aim_102 : decode cX3_aim 102 = .ok (.iadd, 1) := by decide +kernel
theorem dX3_aim_103 : decode cX3_aim 103 = .ok (.iload 5, 2) := by decide +kernel
theorem dX3_aim_105 : decode cX3_aim 105 = .ok (.invokestatic 52, 3) := by decide +kernel
theorem dX3_aim_108 : decode cX3_aim 108 = .ok (.iload 6, 2) := by decide +kernel
theorem dX3_aim_110 : decode cX3_aim 110 = .ok (.invokestatic 55, 3) := by decide +kernel
theorem dX3_aim_113 : decode cX3_aim 113 = .ok (.putfield 9, 3) := by decide +kernel
theorem dX3_aim_116 : decode cX3_aim 116 = .ok (.aload_n 0, 1) := by decide +kernel
theorem dX3_aim_117 : decode cX3_aim 117 = .ok (.aload_n 0, 1) := by decide +kernel
theorem dX3_aim_118 : decode cX3_aim 118 = .ok (.getfield 9, 3) := by decide +kernel
theorem dX3_aim_121 : decode cX3_aim 121 = .ok (.iload 4, 2) := by decide +kernel
theorem dX3_aim_123 : decode cX3_aim 123 = .ok (.isub, 1) := by decide +kernel
theorem dX3_aim_124 : decode cX3_aim 124 = .ok (.iload 5, 2) := by decide +kernel
theorem dX3_aim_126 : decode cX3_aim 126 = .ok (.invokestatic 52, 3) := by decide +kernel
theorem dX3_aim_129 : decode cX3_aim 129 = .ok (.putfield 15, 3) := by decide +kernel
theorem dX3_aim_132 : decode cX3_aim 132 = .ok (.aload_n 0, 1) := by decide +kernel
theorem dX3_aim_133 : decode cX3_aim 133 = .ok (.aload_n 0, 1) := by decide +kernel
theorem dX3_aim_134 : decode cX3_aim 134 = .ok (.getfield 9, 3) := by decide +kernel
theorem dX3_aim_137 : decode cX3_aim 137 = .ok (.iload 4, 2) := by decide +kernel
theorem dX3_aim_139 : decode cX3_aim 139 = .ok (.iadd, 1) := by decide +kernel
theorem dX3_aim_140 : decode cX3_aim 140 = .ok (.iconst 1, 1) := by decide +kernel
theorem dX3_aim_141 : decode cX3_aim 141 = .ok (.iadd, 1) := by decide +kernel
theorem dX3_aim_142 : decode cX3_aim 142 = .ok (.iload 6, 2) := by decide +kernel
theorem dX3_aim_144 : decode cX3_aim 144 = .ok (.invokestatic 55, 3) := by decide +kernel
theorem dX3_aim_147 : decode cX3_aim 147 = .ok (.putfield 18, 3) := by decide +kernel
theorem dX3_aim_150 : decode cX3_aim 150 = .ok (.return_, 1) := by decide +kernel
def rm_X3_aim : Room := { frames := 1, cells := 0, slots := 0, locals := 32 }
abbrev p_X3_aim (g : kG) (h : Nat) (r1 : Int32) (r2 : Int32) (r3 : Int32) (r4 : Int32) (r5 : Int32) (o : Nat) (s1 : Nat) (s2 : Nat) (s3 : Nat) (s4 : Nat) (s5 : Nat) (mm : Nat) (u1 : Nat → Int32) (u2 : Nat → Int32) (u3 : Nat → Int32) (u4 : Nat → Int32) (u5 : Nat → Int32) (i : Nat) (x : Int32) (ξ : Int) (β : Int) (f : Nat) (j : Nat) (a : Nat) (b : Nat) (kf : Int) : va_W → Prop := fun w1 => w1 = [(h, .inr (5, [.int (nI (kpr f j a b kf ξ)), .int (nI (klo f (kpr f j a b kf ξ) β)), .int (nI (khi j (kpr f j a b kf ξ) β)), .int r4, .int r5])), (o, .inr (6, [.ref s1, .ref s2, .ref s3, .ref s4, .ref s5, .int (nI mm)])), (s1, .inl (g.2.1.1, 160, .inl u1)), (s2, .inl (g.2.1.1, 160, .inl u2)), (s3, .inl (g.2.1.1, 160, .inl u3)), (s4, .inl (g.2.1.1, 160, .inl u4)), (s5, .inl (g.2.1.1, 160, .inl u5))]
set_option maxHeartbeats 4000000 in
set_option maxRecDepth 100000 in
theorem c_X3_aim (l : Launch) (g : kG) (h : Nat) (r1 : Int32) (r2 : Int32) (r3 : Int32) (r4 : Int32) (r5 : Int32) (o : Nat) (s1 : Nat) (s2 : Nat) (s3 : Nat) (s4 : Nat) (s5 : Nat) (mm : Nat) (u1 : Nat → Int32) (u2 : Nat → Int32) (u3 : Nat → Int32) (u4 : Nat → Int32) (u5 : Nat → Int32) (i : Nat) (x : Int32) (ξ : Int) (β : Int) (f : Nat) (j : Nat) (a : Nat) (b : Nat) (kf : Int) (hm : mm ≤ 160) (hi : i < mm) (h1 : u1 i = nI f) (h2 : u2 i = nI j) (h3 : u3 i = kI kf) (h4 : u4 i = nI a) (h5 : u5 i = nI b) (hfj : f ≤ j ∧ j < 160) (hab : a ≤ 200 ∧ 1 ≤ b ∧ b ≤ 10000) (hxe : x = kI ξ) (hkx : -10000 ≤ ξ - kf ∧ ξ - kf ≤ 10000) (hβ : 0 ≤ β ∧ β ≤ 8) : KV l yX3_aim wsX3_aim rm_X3_aim g [.ref h, .ref o, .int (nI i), .int x, .int (kI β)] [(h, .inr (5, [.int r1, .int r2, .int r3, .int r4, .int r5])), (o, .inr (6, [.ref s1, .ref s2, .ref s3, .ref s4, .ref s5, .int (nI mm)])), (s1, .inl (g.2.1.1, 160, .inl u1)), (s2, .inl (g.2.1.1, 160, .inl u2)), (s3, .inl (g.2.1.1, 160, .inl u3)), (s4, .inl (g.2.1.1, 160, .inl u4)), (s5, .inl (g.2.1.1, 160, .inl u5))] (p_X3_aim g h r1 r2 r3 r4 r5 o s1 s2 s3 s4 s5 mm u1 u2 u3 u4 u5 i x ξ β f j a b kf) := by
  refine kbodyV (cc := cX3_aim) (n := 10) (k := 7) (own := RX3) (plainFor_of_name (by decide)) rfl rfl rfl rfl ?_
  intro p e s m below meth cd A ls hcx
  obtain ⟨hx, hb, hRt, hml, hts, hown, hlk, hA, hP, hK, hD, hE, hS, hl⟩ := hcx
  have hl : lv_has ls 10 [(0, .ref h), (1, .ref o), (2, .int (nI i)), (3, .int x), (4, .int (kI β))] := hl
  have hmu := kmulc (x := (a : Int)) (w := ξ - kf) (by omega) (by omega) hkx.1 hkx.2
  have hpr : kpr f j a b kf ξ ≤ j := by unfold kpr; omega
  refine lv_aload_n hx hb dX3_aim_0 rfl (lv_at hl 0 rfl) ?_
  refine lv_iconst (v := 0) hx hb dX3_aim_1 (by decide) ?_
  refine va_put (D := g.1) (ci := 5) (v := .int 0) (ty := .int) (C := RX3) (T := TX3) (N := 5) hx hb hts (by decide +kernel) tyX3 tyX3_ok nmX3 hown hK hP hD hS 0 rfl rfl 0 (by decide) (hts (.fieldLink RX3 9 "LearnedIndex$Search" "prediction" "I") (by decide +kernel)) (fun _ h9 => h9) rfl (by decide +kernel) rfl rfl (Nat.le_of_ble_eq_true rfl) dX3_aim_2 (fun H locs hP hD hS => ?_)
  have hP : va_P g.1 vwCl [(h, .inr (5, [.int 0, .int r2, .int r3, .int r4, .int r5])), (o, .inr (6, [.ref s1, .ref s2, .ref s3, .ref s4, .ref s5, .int (nI mm)])), (s1, .inl (g.2.1.1, 160, .inl u1)), (s2, .inl (g.2.1.1, 160, .inl u2)), (s3, .inl (g.2.1.1, 160, .inl u3)), (s4, .inl (g.2.1.1, 160, .inl u4)), (s5, .inl (g.2.1.1, 160, .inl u5))] H := hP
  have hD : va_D A [(h, .inr (5, [.int 0, .int r2, .int r3, .int r4, .int r5])), (o, .inr (6, [.ref s1, .ref s2, .ref s3, .ref s4, .ref s5, .int (nI mm)])), (s1, .inl (g.2.1.1, 160, .inl u1)), (s2, .inl (g.2.1.1, 160, .inl u2)), (s3, .inl (g.2.1.1, 160, .inl u3)), (s4, .inl (g.2.1.1, 160, .inl u4)), (s5, .inl (g.2.1.1, 160, .inl u5))] := hD
  refine lv_aload_n hx hb dX3_aim_5 rfl (lv_at hl 0 rfl) ?_
  refine lv_iconst (v := 0) hx hb dX3_aim_6 (by decide) ?_
  refine va_put (D := g.1) (ci := 5) (v := .int 0) (ty := .int) (C := RX3) (T := TX3) (N := 5) hx hb hts (by decide +kernel) tyX3 tyX3_ok nmX3 hown hK hP hD hS 0 rfl rfl 1 (by decide) (hts (.fieldLink RX3 15 "LearnedIndex$Search" "low" "I") (by decide +kernel)) (fun _ h9 => h9) rfl (by decide +kernel) rfl rfl (Nat.le_of_ble_eq_true rfl) dX3_aim_7 (fun H locs hP hD hS => ?_)
  have hP : va_P g.1 vwCl [(h, .inr (5, [.int 0, .int 0, .int r3, .int r4, .int r5])), (o, .inr (6, [.ref s1, .ref s2, .ref s3, .ref s4, .ref s5, .int (nI mm)])), (s1, .inl (g.2.1.1, 160, .inl u1)), (s2, .inl (g.2.1.1, 160, .inl u2)), (s3, .inl (g.2.1.1, 160, .inl u3)), (s4, .inl (g.2.1.1, 160, .inl u4)), (s5, .inl (g.2.1.1, 160, .inl u5))] H := hP
  have hD : va_D A [(h, .inr (5, [.int 0, .int 0, .int r3, .int r4, .int r5])), (o, .inr (6, [.ref s1, .ref s2, .ref s3, .ref s4, .ref s5, .int (nI mm)])), (s1, .inl (g.2.1.1, 160, .inl u1)), (s2, .inl (g.2.1.1, 160, .inl u2)), (s3, .inl (g.2.1.1, 160, .inl u3)), (s4, .inl (g.2.1.1, 160, .inl u4)), (s5, .inl (g.2.1.1, 160, .inl u5))] := hD
  refine lv_aload_n hx hb dX3_aim_10 rfl (lv_at hl 0 rfl) ?_
  refine lv_iconst (v := (-1)) hx hb dX3_aim_11 (by decide) ?_
  refine va_put (D := g.1) (ci := 5) (v := .int (-1)) (ty := .int) (C := RX3) (T := TX3) (N := 5) hx hb hts (by decide +kernel) tyX3 tyX3_ok nmX3 hown hK hP hD hS 0 rfl rfl 2 (by decide) (hts (.fieldLink RX3 18 "LearnedIndex$Search" "high" "I") (by decide +kernel)) (fun _ h9 => h9) rfl (by decide +kernel) rfl rfl (Nat.le_of_ble_eq_true rfl) dX3_aim_12 (fun H locs hP hD hS => ?_)
  have hP : va_P g.1 vwCl [(h, .inr (5, [.int 0, .int 0, .int (-1), .int r4, .int r5])), (o, .inr (6, [.ref s1, .ref s2, .ref s3, .ref s4, .ref s5, .int (nI mm)])), (s1, .inl (g.2.1.1, 160, .inl u1)), (s2, .inl (g.2.1.1, 160, .inl u2)), (s3, .inl (g.2.1.1, 160, .inl u3)), (s4, .inl (g.2.1.1, 160, .inl u4)), (s5, .inl (g.2.1.1, 160, .inl u5))] H := hP
  have hD : va_D A [(h, .inr (5, [.int 0, .int 0, .int (-1), .int r4, .int r5])), (o, .inr (6, [.ref s1, .ref s2, .ref s3, .ref s4, .ref s5, .int (nI mm)])), (s1, .inl (g.2.1.1, 160, .inl u1)), (s2, .inl (g.2.1.1, 160, .inl u2)), (s3, .inl (g.2.1.1, 160, .inl u3)), (s4, .inl (g.2.1.1, 160, .inl u4)), (s5, .inl (g.2.1.1, 160, .inl u5))] := hD
  refine lv_iload_n hx hb dX3_aim_15 rfl (lv_at hl 2 rfl) ?_
  refine lv_if_lt (tgt := 27) hx hb dX3_aim_16 (by decide) (fun c_16 => absurd c_16 (nI_pos (by omega))) (fun c_16 => ?_)
  refine lv_iload_n hx hb dX3_aim_19 rfl (lv_at hl 2 rfl) ?_
  refine lv_aload_n hx hb dX3_aim_20 rfl (lv_at hl 1 rfl) ?_
  refine va_getN (D := g.1) (ci := 6) (v := .int (nI mm)) (C := RX4) (T := TX4) (N := 6) hx hb hts (by decide +kernel) hown hK hP 1 rfl rfl 5 (by decide) (va_Nw.use rfl (hE.1 _ (List.mem_of_getElem? (i := 30) rfl))) (fun _ h9 => h9) rfl dX3_aim_21 ?_
  refine lv_icmp_lt (tgt := 28) hx hb dX3_aim_24 (by decide) (fun c_24 => ?_) (fun c_24 => absurd (nI_lt hi (by omega)) c_24)
  refine lv_aload_n hx hb dX3_aim_28 rfl (lv_at hl 1 rfl) ?_
  refine va_getN (D := g.1) (ci := 6) (v := .ref s1) (C := RX4) (T := TX4) (N := 6) hx hb hts (by decide +kernel) hown hK hP 1 rfl rfl 0 (by decide) (va_Nw.use rfl (hE.1 _ (List.mem_of_getElem? (i := 31) rfl))) (fun _ h9 => h9) rfl dX3_aim_29 ?_
  refine lv_iload_n hx hb dX3_aim_32 rfl (lv_at hl 2 rfl) ?_
  refine kcalli (wc := [(s1, .inl (g.2.1.1, 160, .inl u1))]) [2] (va_runSN (As := [.ref s1, .int (nI i)]) (rest := []) ⟨hx, hb, hml, hown, hts⟩ ((c_X6_cell l g s1 160 u1 (nI i) (by decide)) _) ⟨va_cnB 2 hts gX3_aim_X6_cell_n30 rfl rfl rfl (hE.1 _ (List.mem_of_getElem? (i := 32) rfl)) (hts (.initialized RX6) (by decide +kernel)) (by decide +kernel) ⟨Nat.le_of_ble_eq_true rfl, Nat.le_of_ble_eq_true rfl⟩, hts (.static yX6_cell) (by decide +kernel), trivial⟩ (kpreS (wc := [(s1, .inl (g.2.1.1, 160, .inl u1))]) hK hP hD hS hA hE [2] rfl rfl) rfl rfl hl.1 rfl (lv_room (Nat.le_of_ble_eq_true rfl)) dX3_aim_33 ⟨Nat.zero_le _, Nat.zero_le _⟩) hP hD hS hA rfl (fun r_1 w_1 H locs hp hP hD hS => ?_)
  obtain ⟨rfl, rfl⟩ := hp
  have hP : va_P g.1 vwCl [(h, .inr (5, [.int 0, .int 0, .int (-1), .int r4, .int r5])), (o, .inr (6, [.ref s1, .ref s2, .ref s3, .ref s4, .ref s5, .int (nI mm)])), (s1, .inl (g.2.1.1, 160, .inl u1)), (s2, .inl (g.2.1.1, 160, .inl u2)), (s3, .inl (g.2.1.1, 160, .inl u3)), (s4, .inl (g.2.1.1, 160, .inl u4)), (s5, .inl (g.2.1.1, 160, .inl u5))] H := hP
  have hD : va_D A [(h, .inr (5, [.int 0, .int 0, .int (-1), .int r4, .int r5])), (o, .inr (6, [.ref s1, .ref s2, .ref s3, .ref s4, .ref s5, .int (nI mm)])), (s1, .inl (g.2.1.1, 160, .inl u1)), (s2, .inl (g.2.1.1, 160, .inl u2)), (s3, .inl (g.2.1.1, 160, .inl u3)), (s4, .inl (g.2.1.1, 160, .inl u4)), (s5, .inl (g.2.1.1, 160, .inl u5))] := hD
  rw [show (kcell 160 u1 (nI i) : Int32) = kI (f : Int) from by rw [kcell_nI u1 (show 160 < 2 ^ 31 by decide) (show i < 160 by omega), h1, kI_nI]]
  refine lv_istore (lv' := [(5, .int (kI (f : Int))), (0, .ref h), (1, .ref o), (2, .int (nI i)), (3, .int x), (4, .int (kI β))]) hx hb dX3_aim_36 hl (by decide) rfl (fun ls hl => ?_)
  refine lv_aload_n hx hb dX3_aim_38 rfl (lv_at hl 2 rfl) ?_
  refine va_getN (D := g.1) (ci := 6) (v := .ref s2) (C := RX4) (T := TX4) (N := 6) hx hb hts (by decide +kernel) hown hK hP 1 rfl rfl 1 (by decide) (va_Nw.use rfl (hE.1 _ (List.mem_of_getElem? (i := 33) rfl))) (fun _ h9 => h9) rfl dX3_aim_39 ?_
  refine lv_iload_n hx hb dX3_aim_42 rfl (lv_at hl 3 rfl) ?_
  refine kcalli (wc := [(s2, .inl (g.2.1.1, 160, .inl u2))]) [3] (va_runSN (As := [.ref s2, .int (nI i)]) (rest := []) ⟨hx, hb, hml, hown, hts⟩ ((c_X6_cell l g s2 160 u2 (nI i) (by decide)) _) ⟨va_cnB 2 hts gX3_aim_X6_cell_n30 rfl rfl rfl (hE.1 _ (List.mem_of_getElem? (i := 32) rfl)) (hts (.initialized RX6) (by decide +kernel)) (by decide +kernel) ⟨Nat.le_of_ble_eq_true rfl, Nat.le_of_ble_eq_true rfl⟩, hts (.static yX6_cell) (by decide +kernel), trivial⟩ (kpreS (wc := [(s2, .inl (g.2.1.1, 160, .inl u2))]) hK hP hD hS hA hE [3] rfl rfl) rfl rfl hl.1 rfl (lv_room (Nat.le_of_ble_eq_true rfl)) dX3_aim_43 ⟨Nat.zero_le _, Nat.zero_le _⟩) hP hD hS hA rfl (fun r_2 w_2 H locs hp hP hD hS => ?_)
  obtain ⟨rfl, rfl⟩ := hp
  have hP : va_P g.1 vwCl [(h, .inr (5, [.int 0, .int 0, .int (-1), .int r4, .int r5])), (o, .inr (6, [.ref s1, .ref s2, .ref s3, .ref s4, .ref s5, .int (nI mm)])), (s1, .inl (g.2.1.1, 160, .inl u1)), (s2, .inl (g.2.1.1, 160, .inl u2)), (s3, .inl (g.2.1.1, 160, .inl u3)), (s4, .inl (g.2.1.1, 160, .inl u4)), (s5, .inl (g.2.1.1, 160, .inl u5))] H := hP
  have hD : va_D A [(h, .inr (5, [.int 0, .int 0, .int (-1), .int r4, .int r5])), (o, .inr (6, [.ref s1, .ref s2, .ref s3, .ref s4, .ref s5, .int (nI mm)])), (s1, .inl (g.2.1.1, 160, .inl u1)), (s2, .inl (g.2.1.1, 160, .inl u2)), (s3, .inl (g.2.1.1, 160, .inl u3)), (s4, .inl (g.2.1.1, 160, .inl u4)), (s5, .inl (g.2.1.1, 160, .inl u5))] := hD
  rw [show (kcell 160 u2 (nI i) : Int32) = kI (j : Int) from by rw [kcell_nI u2 (show 160 < 2 ^ 31 by decide) (show i < 160 by omega), h2, kI_nI]]
  refine lv_istore (lv' := [(6, .int (kI (j : Int))), (5, .int (kI (f : Int))), (0, .ref h), (1, .ref o), (2, .int (nI i)), (3, .int x), (4, .int (kI β))]) hx hb dX3_aim_46 hl (by decide) rfl (fun ls hl => ?_)
  refine lv_aload_n hx hb dX3_aim_48 rfl (lv_at hl 3 rfl) ?_
  refine va_getN (D := g.1) (ci := 6) (v := .ref s4) (C := RX4) (T := TX4) (N := 6) hx hb hts (by decide +kernel) hown hK hP 1 rfl rfl 3 (by decide) (va_Nw.use rfl (hE.1 _ (List.mem_of_getElem? (i := 34) rfl))) (fun _ h9 => h9) rfl dX3_aim_49 ?_
  refine lv_iload_n hx hb dX3_aim_52 rfl (lv_at hl 4 rfl) ?_
  refine kcalli (wc := [(s4, .inl (g.2.1.1, 160, .inl u4))]) [5] (va_runSN (As := [.ref s4, .int (nI i)]) (rest := []) ⟨hx, hb, hml, hown, hts⟩ ((c_X6_cell l g s4 160 u4 (nI i) (by decide)) _) ⟨va_cnB 2 hts gX3_aim_X6_cell_n30 rfl rfl rfl (hE.1 _ (List.mem_of_getElem? (i := 32) rfl)) (hts (.initialized RX6) (by decide +kernel)) (by decide +kernel) ⟨Nat.le_of_ble_eq_true rfl, Nat.le_of_ble_eq_true rfl⟩, hts (.static yX6_cell) (by decide +kernel), trivial⟩ (kpreS (wc := [(s4, .inl (g.2.1.1, 160, .inl u4))]) hK hP hD hS hA hE [5] rfl rfl) rfl rfl hl.1 rfl (lv_room (Nat.le_of_ble_eq_true rfl)) dX3_aim_53 ⟨Nat.zero_le _, Nat.zero_le _⟩) hP hD hS hA rfl (fun r_3 w_3 H locs hp hP hD hS => ?_)
  obtain ⟨rfl, rfl⟩ := hp
  have hP : va_P g.1 vwCl [(h, .inr (5, [.int 0, .int 0, .int (-1), .int r4, .int r5])), (o, .inr (6, [.ref s1, .ref s2, .ref s3, .ref s4, .ref s5, .int (nI mm)])), (s1, .inl (g.2.1.1, 160, .inl u1)), (s2, .inl (g.2.1.1, 160, .inl u2)), (s3, .inl (g.2.1.1, 160, .inl u3)), (s4, .inl (g.2.1.1, 160, .inl u4)), (s5, .inl (g.2.1.1, 160, .inl u5))] H := hP
  have hD : va_D A [(h, .inr (5, [.int 0, .int 0, .int (-1), .int r4, .int r5])), (o, .inr (6, [.ref s1, .ref s2, .ref s3, .ref s4, .ref s5, .int (nI mm)])), (s1, .inl (g.2.1.1, 160, .inl u1)), (s2, .inl (g.2.1.1, 160, .inl u2)), (s3, .inl (g.2.1.1, 160, .inl u3)), (s4, .inl (g.2.1.1, 160, .inl u4)), (s5, .inl (g.2.1.1, 160, .inl u5))] := hD
  rw [show (kcell 160 u4 (nI i) : Int32) = kI (a : Int) from by rw [kcell_nI u4 (show 160 < 2 ^ 31 by decide) (show i < 160 by omega), h4, kI_nI]]
  refine lv_iload_n hx hb dX3_aim_56 rfl (lv_at hl 5 rfl) ?_
  refine lv_aload_n hx hb dX3_aim_57 rfl (lv_at hl 3 rfl) ?_
  refine va_getN (D := g.1) (ci := 6) (v := .ref s3) (C := RX4) (T := TX4) (N := 6) hx hb hts (by decide +kernel) hown hK hP 1 rfl rfl 2 (by decide) (va_Nw.use rfl (hE.1 _ (List.mem_of_getElem? (i := 35) rfl))) (fun _ h9 => h9) rfl dX3_aim_58 ?_
  refine lv_iload_n hx hb dX3_aim_61 rfl (lv_at hl 4 rfl) ?_
  refine kcalli (wc := [(s3, .inl (g.2.1.1, 160, .inl u3))]) [4] (va_runSN (As := [.ref s3, .int (nI i)]) (rest := [.int x, .int (kI (a : Int))]) ⟨hx, hb, hml, hown, hts⟩ ((c_X6_cell l g s3 160 u3 (nI i) (by decide)) _) ⟨va_cnB 2 hts gX3_aim_X6_cell_n30 rfl rfl rfl (hE.1 _ (List.mem_of_getElem? (i := 32) rfl)) (hts (.initialized RX6) (by decide +kernel)) (by decide +kernel) ⟨Nat.le_of_ble_eq_true rfl, Nat.le_of_ble_eq_true rfl⟩, hts (.static yX6_cell) (by decide +kernel), trivial⟩ (kpreS (wc := [(s3, .inl (g.2.1.1, 160, .inl u3))]) hK hP hD hS hA hE [4] rfl rfl) rfl rfl hl.1 rfl (lv_room (Nat.le_of_ble_eq_true rfl)) dX3_aim_62 ⟨Nat.zero_le _, Nat.zero_le _⟩) hP hD hS hA rfl (fun r_4 w_4 H locs hp hP hD hS => ?_)
  obtain ⟨rfl, rfl⟩ := hp
  have hP : va_P g.1 vwCl [(h, .inr (5, [.int 0, .int 0, .int (-1), .int r4, .int r5])), (o, .inr (6, [.ref s1, .ref s2, .ref s3, .ref s4, .ref s5, .int (nI mm)])), (s1, .inl (g.2.1.1, 160, .inl u1)), (s2, .inl (g.2.1.1, 160, .inl u2)), (s3, .inl (g.2.1.1, 160, .inl u3)), (s4, .inl (g.2.1.1, 160, .inl u4)), (s5, .inl (g.2.1.1, 160, .inl u5))] H := hP
  have hD : va_D A [(h, .inr (5, [.int 0, .int 0, .int (-1), .int r4, .int r5])), (o, .inr (6, [.ref s1, .ref s2, .ref s3, .ref s4, .ref s5, .int (nI mm)])), (s1, .inl (g.2.1.1, 160, .inl u1)), (s2, .inl (g.2.1.1, 160, .inl u2)), (s3, .inl (g.2.1.1, 160, .inl u3)), (s4, .inl (g.2.1.1, 160, .inl u4)), (s5, .inl (g.2.1.1, 160, .inl u5))] := hD
  rw [show (kcell 160 u3 (nI i) : Int32) = kI kf from by rw [kcell_nI u3 (show 160 < 2 ^ 31 by decide) (show i < 160 by omega), h3]]
  refine lv_isub hx hb dX3_aim_65 ?_
  rw [show (x - (kI kf) : Int32) = kI (ξ - kf) from by rw [hxe, kI_sub]]
  refine lv_imul hx hb dX3_aim_66 ?_
  rw [show ((kI (a : Int)) * (kI (ξ - kf)) : Int32) = kI ((a : Int) * (ξ - kf)) from kI_mul _ _]
  refine lv_istore (lv' := [(7, .int (kI ((a : Int) * (ξ - kf)))), (6, .int (kI (j : Int))), (5, .int (kI (f : Int))), (0, .ref h), (1, .ref o), (2, .int (nI i)), (3, .int x), (4, .int (kI β))]) hx hb dX3_aim_67 hl (by decide) rfl (fun ls hl => ?_)
  refine lv_aload_n hx hb dX3_aim_69 rfl (lv_at hl 4 rfl) ?_
  refine va_getN (D := g.1) (ci := 6) (v := .ref s5) (C := RX4) (T := TX4) (N := 6) hx hb hts (by decide +kernel) hown hK hP 1 rfl rfl 4 (by decide) (va_Nw.use rfl (hE.1 _ (List.mem_of_getElem? (i := 36) rfl))) (fun _ h9 => h9) rfl dX3_aim_70 ?_
  refine lv_iload_n hx hb dX3_aim_73 rfl (lv_at hl 5 rfl) ?_
  refine kcalli (wc := [(s5, .inl (g.2.1.1, 160, .inl u5))]) [6] (va_runSN (As := [.ref s5, .int (nI i)]) (rest := []) ⟨hx, hb, hml, hown, hts⟩ ((c_X6_cell l g s5 160 u5 (nI i) (by decide)) _) ⟨va_cnB 2 hts gX3_aim_X6_cell_n30 rfl rfl rfl (hE.1 _ (List.mem_of_getElem? (i := 32) rfl)) (hts (.initialized RX6) (by decide +kernel)) (by decide +kernel) ⟨Nat.le_of_ble_eq_true rfl, Nat.le_of_ble_eq_true rfl⟩, hts (.static yX6_cell) (by decide +kernel), trivial⟩ (kpreS (wc := [(s5, .inl (g.2.1.1, 160, .inl u5))]) hK hP hD hS hA hE [6] rfl rfl) rfl rfl hl.1 rfl (lv_room (Nat.le_of_ble_eq_true rfl)) dX3_aim_74 ⟨Nat.zero_le _, Nat.zero_le _⟩) hP hD hS hA rfl (fun r_5 w_5 H locs hp hP hD hS => ?_)
  obtain ⟨rfl, rfl⟩ := hp
  have hP : va_P g.1 vwCl [(h, .inr (5, [.int 0, .int 0, .int (-1), .int r4, .int r5])), (o, .inr (6, [.ref s1, .ref s2, .ref s3, .ref s4, .ref s5, .int (nI mm)])), (s1, .inl (g.2.1.1, 160, .inl u1)), (s2, .inl (g.2.1.1, 160, .inl u2)), (s3, .inl (g.2.1.1, 160, .inl u3)), (s4, .inl (g.2.1.1, 160, .inl u4)), (s5, .inl (g.2.1.1, 160, .inl u5))] H := hP
  have hD : va_D A [(h, .inr (5, [.int 0, .int 0, .int (-1), .int r4, .int r5])), (o, .inr (6, [.ref s1, .ref s2, .ref s3, .ref s4, .ref s5, .int (nI mm)])), (s1, .inl (g.2.1.1, 160, .inl u1)), (s2, .inl (g.2.1.1, 160, .inl u2)), (s3, .inl (g.2.1.1, 160, .inl u3)), (s4, .inl (g.2.1.1, 160, .inl u4)), (s5, .inl (g.2.1.1, 160, .inl u5))] := hD
  rw [show (kcell 160 u5 (nI i) : Int32) = kI (b : Int) from by rw [kcell_nI u5 (show 160 < 2 ^ 31 by decide) (show i < 160 by omega), h5, kI_nI]]
  refine lv_istore (lv' := [(8, .int (kI (b : Int))), (7, .int (kI ((a : Int) * (ξ - kf)))), (6, .int (kI (j : Int))), (5, .int (kI (f : Int))), (0, .ref h), (1, .ref o), (2, .int (nI i)), (3, .int x), (4, .int (kI β))]) hx hb dX3_aim_77 hl (by decide) rfl (fun ls hl => ?_)
  refine lv_iload hx hb dX3_aim_79 (lv_at hl 0 rfl) ?_
  refine lv_if_le (tgt := 94) hx hb dX3_aim_81 (by decide) (fun c_81 => absurd c_81 (by rw [show (0 : Int32) = kI 0 from rfl, kI_le (by omega) (by omega) (by omega) (by omega)]; omega)) (fun c_81 => ?_)
  refine lv_iload hx hb dX3_aim_84 (lv_at hl 1 rfl) ?_
  refine lv_iload hx hb dX3_aim_86 (lv_at hl 0 rfl) ?_
  refine kcalli (wc := []) [] (va_runS (As := [.int (kI ((a : Int) * (ξ - kf))), .int (kI (b : Int))]) (rest := []) ⟨hx, hb, hml, hown, hts⟩ ((c_J9_floorDiv_7cf53 l g ((a : Int) * (ξ - kf)) (b : Int) hmu (⟨by omega, by omega⟩)) _) (va_cwS 2 hts gX3_aim_J9_floorDiv_7cf53 rfl rfl rfl (by decide +kernel) ⟨Nat.le_of_ble_eq_true rfl, Nat.le_of_ble_eq_true rfl⟩) (kpreS (wc := []) hK hP hD hS hA hE [] rfl rfl) rfl rfl hl.1 rfl (lv_room (Nat.le_of_ble_eq_true rfl)) dX3_aim_88 ⟨Nat.zero_le _, Nat.zero_le _⟩) hP hD hS hA rfl (fun r_6 w_6 H locs hp hP hD hS => ?_)
  obtain ⟨rfl, rfl⟩ := hp
  have hP : va_P g.1 vwCl [(h, .inr (5, [.int 0, .int 0, .int (-1), .int r4, .int r5])), (o, .inr (6, [.ref s1, .ref s2, .ref s3, .ref s4, .ref s5, .int (nI mm)])), (s1, .inl (g.2.1.1, 160, .inl u1)), (s2, .inl (g.2.1.1, 160, .inl u2)), (s3, .inl (g.2.1.1, 160, .inl u3)), (s4, .inl (g.2.1.1, 160, .inl u4)), (s5, .inl (g.2.1.1, 160, .inl u5))] H := hP
  have hD : va_D A [(h, .inr (5, [.int 0, .int 0, .int (-1), .int r4, .int r5])), (o, .inr (6, [.ref s1, .ref s2, .ref s3, .ref s4, .ref s5, .int (nI mm)])), (s1, .inl (g.2.1.1, 160, .inl u1)), (s2, .inl (g.2.1.1, 160, .inl u2)), (s3, .inl (g.2.1.1, 160, .inl u3)), (s4, .inl (g.2.1.1, 160, .inl u4)), (s5, .inl (g.2.1.1, 160, .inl u5))] := hD
  obtain ⟨qz, hqz⟩ : ∃ z : Int, z = ((a : Int) * (ξ - kf)) / (b : Int) := ⟨_, rfl⟩
  have hdb := kdiv_bd hmu.1 hmu.2 (show (0 : Int) < (b : Int) by omega)
  rw [← hqz] at hdb
  refine lv_goto (tgt := 95) hx hb dX3_aim_91 (by decide) ?_
  rw [show (kI (((a : Int) * (ξ - kf)) / (b : Int)) : Int32) = kI qz from by rw [hqz]]
  refine lv_istore (lv' := [(9, .int (kI qz)), (8, .int (kI (b : Int))), (7, .int (kI ((a : Int) * (ξ - kf)))), (6, .int (kI (j : Int))), (5, .int (kI (f : Int))), (0, .ref h), (1, .ref o), (2, .int (nI i)), (3, .int x), (4, .int (kI β))]) hx hb dX3_aim_95 hl (by decide) rfl (fun ls hl => ?_)
  refine lv_aload_n hx hb dX3_aim_97 rfl (lv_at hl 5 rfl) ?_
  refine lv_iload hx hb dX3_aim_98 (lv_at hl 4 rfl) ?_
  refine lv_iload hx hb dX3_aim_100 (lv_at hl 0 rfl) ?_
  refine lv_iadd hx hb dX3_aim_102 ?_
  rw [show ((kI (f : Int)) + (kI qz) : Int32) = kI ((f : Int) + qz) from kI_add _ _]
  refine lv_iload hx hb dX3_aim_103 (lv_at hl 4 rfl) ?_
  refine va_mmax hx hb (hml.trans hl.1.symm) hown (hts (.methodLink RX3 52 Lib.Math.max.name) (by decide +kernel)) (hts (.static Lib.Math.max.name) (by decide +kernel)) (hts (.initialized "java/lang/Math") (by decide +kernel)) (hts (.code Lib.Math.max.name Lib.Math.max.code 2 (some .int)) (by decide +kernel)) (Nat.le_of_ble_eq_true rfl) (Nat.le_of_ble_eq_true rfl) (Nat.zero_le _) (Nat.zero_le _) dX3_aim_105 ?_
  rw [show (if (kI ((f : Int) + qz)) < (kI (f : Int)) then (kI (f : Int)) else (kI ((f : Int) + qz)) : Int32) = kI (max ((f : Int) + qz) (f : Int)) from kI_max (by omega) (by omega) (by omega) (by omega)]
  refine lv_iload hx hb dX3_aim_108 (lv_at hl 3 rfl) ?_
  refine va_mmin hx hb (hml.trans hl.1.symm) hown (hts (.methodLink RX3 55 Lib.Math.min.name) (by decide +kernel)) (hts (.static Lib.Math.min.name) (by decide +kernel)) (hts (.initialized "java/lang/Math") (by decide +kernel)) (hts (.code Lib.Math.min.name Lib.Math.min.code 2 (some .int)) (by decide +kernel)) (Nat.le_of_ble_eq_true rfl) (Nat.le_of_ble_eq_true rfl) (Nat.zero_le _) (Nat.zero_le _) dX3_aim_110 ?_
  rw [show (if (kI (j : Int)) < (kI (max ((f : Int) + qz) (f : Int))) then (kI (j : Int)) else (kI (max ((f : Int) + qz) (f : Int))) : Int32) = nI (kpr f j a b kf ξ) from by rw [kI_min (by omega) (by omega) (by omega) (by omega), kI_tn (by omega), kpr, hqz]]
  refine va_put (D := g.1) (ci := 5) (v := .int (nI (kpr f j a b kf ξ))) (ty := .int) (C := RX3) (T := TX3) (N := 5) hx hb hts (by decide +kernel) tyX3 tyX3_ok nmX3 hown hK hP hD hS 0 rfl rfl 0 (by decide) (hts (.fieldLink RX3 9 "LearnedIndex$Search" "prediction" "I") (by decide +kernel)) (fun _ h9 => h9) rfl (by decide +kernel) rfl rfl (Nat.le_of_ble_eq_true rfl) dX3_aim_113 (fun H locs hP hD hS => ?_)
  have hP : va_P g.1 vwCl [(h, .inr (5, [.int (nI (kpr f j a b kf ξ)), .int 0, .int (-1), .int r4, .int r5])), (o, .inr (6, [.ref s1, .ref s2, .ref s3, .ref s4, .ref s5, .int (nI mm)])), (s1, .inl (g.2.1.1, 160, .inl u1)), (s2, .inl (g.2.1.1, 160, .inl u2)), (s3, .inl (g.2.1.1, 160, .inl u3)), (s4, .inl (g.2.1.1, 160, .inl u4)), (s5, .inl (g.2.1.1, 160, .inl u5))] H := hP
  have hD : va_D A [(h, .inr (5, [.int (nI (kpr f j a b kf ξ)), .int 0, .int (-1), .int r4, .int r5])), (o, .inr (6, [.ref s1, .ref s2, .ref s3, .ref s4, .ref s5, .int (nI mm)])), (s1, .inl (g.2.1.1, 160, .inl u1)), (s2, .inl (g.2.1.1, 160, .inl u2)), (s3, .inl (g.2.1.1, 160, .inl u3)), (s4, .inl (g.2.1.1, 160, .inl u4)), (s5, .inl (g.2.1.1, 160, .inl u5))] := hD
  refine lv_aload_n hx hb dX3_aim_116 rfl (lv_at hl 5 rfl) ?_
  refine lv_aload_n hx hb dX3_aim_117 rfl (lv_at hl 5 rfl) ?_
  refine va_get (D := g.1) (ci := 5) (v := .int (nI (kpr f j a b kf ξ))) (C := RX3) (T := TX3) (N := 5) hx hb hts (by decide +kernel) hown hK hP 0 rfl rfl 0 (by decide) (hts (.fieldLink RX3 9 "LearnedIndex$Search" "prediction" "I") (by decide +kernel)) (fun _ h9 => h9) rfl dX3_aim_118 ?_
  refine lv_iload hx hb dX3_aim_121 (lv_at hl 9 rfl) ?_
  refine lv_isub hx hb dX3_aim_123 ?_
  rw [show ((nI (kpr f j a b kf ξ)) - (kI β) : Int32) = kI (((kpr f j a b kf ξ : Nat) : Int) - β) from by rw [kI_nI, kI_sub]]
  refine lv_iload hx hb dX3_aim_124 (lv_at hl 4 rfl) ?_
  refine va_mmax hx hb (hml.trans hl.1.symm) hown (hts (.methodLink RX3 52 Lib.Math.max.name) (by decide +kernel)) (hts (.static Lib.Math.max.name) (by decide +kernel)) (hts (.initialized "java/lang/Math") (by decide +kernel)) (hts (.code Lib.Math.max.name Lib.Math.max.code 2 (some .int)) (by decide +kernel)) (Nat.le_of_ble_eq_true rfl) (Nat.le_of_ble_eq_true rfl) (Nat.zero_le _) (Nat.zero_le _) dX3_aim_126 ?_
  rw [show (if (kI (((kpr f j a b kf ξ : Nat) : Int) - β)) < (kI (f : Int)) then (kI (f : Int)) else (kI (((kpr f j a b kf ξ : Nat) : Int) - β)) : Int32) = nI (klo f (kpr f j a b kf ξ) β) from by rw [kI_max (by omega) (by omega) (by omega) (by omega), kI_tn (by omega)]; rfl]
  refine va_put (D := g.1) (ci := 5) (v := .int (nI (klo f (kpr f j a b kf ξ) β))) (ty := .int) (C := RX3) (T := TX3) (N := 5) hx hb hts (by decide +kernel) tyX3 tyX3_ok nmX3 hown hK hP hD hS 0 rfl rfl 1 (by decide) (hts (.fieldLink RX3 15 "LearnedIndex$Search" "low" "I") (by decide +kernel)) (fun _ h9 => h9) rfl (by decide +kernel) rfl rfl (Nat.le_of_ble_eq_true rfl) dX3_aim_129 (fun H locs hP hD hS => ?_)
  have hP : va_P g.1 vwCl [(h, .inr (5, [.int (nI (kpr f j a b kf ξ)), .int (nI (klo f (kpr f j a b kf ξ) β)), .int (-1), .int r4, .int r5])), (o, .inr (6, [.ref s1, .ref s2, .ref s3, .ref s4, .ref s5, .int (nI mm)])), (s1, .inl (g.2.1.1, 160, .inl u1)), (s2, .inl (g.2.1.1, 160, .inl u2)), (s3, .inl (g.2.1.1, 160, .inl u3)), (s4, .inl (g.2.1.1, 160, .inl u4)), (s5, .inl (g.2.1.1, 160, .inl u5))] H := hP
  have hD : va_D A [(h, .inr (5, [.int (nI (kpr f j a b kf ξ)), .int (nI (klo f (kpr f j a b kf ξ) β)), .int (-1), .int r4, .int r5])), (o, .inr (6, [.ref s1, .ref s2, .ref s3, .ref s4, .ref s5, .int (nI mm)])), (s1, .inl (g.2.1.1, 160, .inl u1)), (s2, .inl (g.2.1.1, 160, .inl u2)), (s3, .inl (g.2.1.1, 160, .inl u3)), (s4, .inl (g.2.1.1, 160, .inl u4)), (s5, .inl (g.2.1.1, 160, .inl u5))] := hD
  refine lv_aload_n hx hb dX3_aim_132 rfl (lv_at hl 5 rfl) ?_
  refine lv_aload_n hx hb dX3_aim_133 rfl (lv_at hl 5 rfl) ?_
  refine va_get (D := g.1) (ci := 5) (v := .int (nI (kpr f j a b kf ξ))) (C := RX3) (T := TX3) (N := 5) hx hb hts (by decide +kernel) hown hK hP 0 rfl rfl 0 (by decide) (hts (.fieldLink RX3 9 "LearnedIndex$Search" "prediction" "I") (by decide +kernel)) (fun _ h9 => h9) rfl dX3_aim_134 ?_
  refine lv_iload hx hb dX3_aim_137 (lv_at hl 9 rfl) ?_
  refine lv_iadd hx hb dX3_aim_139 ?_
  rw [show ((nI (kpr f j a b kf ξ)) + (kI β) : Int32) = kI (((kpr f j a b kf ξ : Nat) : Int) + β) from by rw [kI_nI, kI_add]]
  refine lv_iconst (v := 1) hx hb dX3_aim_140 (by decide) ?_
  refine lv_iadd hx hb dX3_aim_141 ?_
  rw [show ((kI (((kpr f j a b kf ξ : Nat) : Int) + β)) + 1 : Int32) = kI (((kpr f j a b kf ξ : Nat) : Int) + β + 1) from by rw [show (1 : Int32) = kI 1 from rfl, kI_add]]
  refine lv_iload hx hb dX3_aim_142 (lv_at hl 3 rfl) ?_
  refine va_mmin hx hb (hml.trans hl.1.symm) hown (hts (.methodLink RX3 55 Lib.Math.min.name) (by decide +kernel)) (hts (.static Lib.Math.min.name) (by decide +kernel)) (hts (.initialized "java/lang/Math") (by decide +kernel)) (hts (.code Lib.Math.min.name Lib.Math.min.code 2 (some .int)) (by decide +kernel)) (Nat.le_of_ble_eq_true rfl) (Nat.le_of_ble_eq_true rfl) (Nat.zero_le _) (Nat.zero_le _) dX3_aim_144 ?_
  rw [show (if (kI (j : Int)) < (kI (((kpr f j a b kf ξ : Nat) : Int) + β + 1)) then (kI (j : Int)) else (kI (((kpr f j a b kf ξ : Nat) : Int) + β + 1)) : Int32) = nI (khi j (kpr f j a b kf ξ) β) from by rw [kI_min (by omega) (by omega) (by omega) (by omega), kI_tn (by omega)]; rfl]
  refine va_put (D := g.1) (ci := 5) (v := .int (nI (khi j (kpr f j a b kf ξ) β))) (ty := .int) (C := RX3) (T := TX3) (N := 5) hx hb hts (by decide +kernel) tyX3 tyX3_ok nmX3 hown hK hP hD hS 0 rfl rfl 2 (by decide) (hts (.fieldLink RX3 18 "LearnedIndex$Search" "high" "I") (by decide +kernel)) (fun _ h9 => h9) rfl (by decide +kernel) rfl rfl (Nat.le_of_ble_eq_true rfl) dX3_aim_147 (fun H locs hP hD hS => ?_)
  have hP : va_P g.1 vwCl [(h, .inr (5, [.int (nI (kpr f j a b kf ξ)), .int (nI (klo f (kpr f j a b kf ξ) β)), .int (nI (khi j (kpr f j a b kf ξ) β)), .int r4, .int r5])), (o, .inr (6, [.ref s1, .ref s2, .ref s3, .ref s4, .ref s5, .int (nI mm)])), (s1, .inl (g.2.1.1, 160, .inl u1)), (s2, .inl (g.2.1.1, 160, .inl u2)), (s3, .inl (g.2.1.1, 160, .inl u3)), (s4, .inl (g.2.1.1, 160, .inl u4)), (s5, .inl (g.2.1.1, 160, .inl u5))] H := hP
  have hD : va_D A [(h, .inr (5, [.int (nI (kpr f j a b kf ξ)), .int (nI (klo f (kpr f j a b kf ξ) β)), .int (nI (khi j (kpr f j a b kf ξ) β)), .int r4, .int r5])), (o, .inr (6, [.ref s1, .ref s2, .ref s3, .ref s4, .ref s5, .int (nI mm)])), (s1, .inl (g.2.1.1, 160, .inl u1)), (s2, .inl (g.2.1.1, 160, .inl u2)), (s3, .inl (g.2.1.1, 160, .inl u3)), (s4, .inl (g.2.1.1, 160, .inl u4)), (s5, .inl (g.2.1.1, 160, .inl u5))] := hD
  exact kretv hx hb hRt hlk hK hP hD hS rfl dX3_aim_150 (rfl)
def rm_X3_aim0 : Room := { frames := 0, cells := 0, slots := 0, locals := 0 }
abbrev p_X3_aim0 (g : kG) (h : Nat) (r1 : Int32) (r2 : Int32) (r3 : Int32) (r4 : Int32) (r5 : Int32) (o : Nat) (s1 : Nat) (s2 : Nat) (s3 : Nat) (s4 : Nat) (s5 : Nat) (u1 : Nat → Int32) (u2 : Nat → Int32) (u3 : Nat → Int32) (u4 : Nat → Int32) (u5 : Nat → Int32) (x : Int32) (β : Int32) : va_W → Prop := fun w1 => w1 = [(h, .inr (5, [.int 0, .int 0, .int (-1), .int r4, .int r5])), (o, .inr (6, [.ref s1, .ref s2, .ref s3, .ref s4, .ref s5, .int (nI 0)])), (s1, .inl (g.2.1.1, 160, .inl u1)), (s2, .inl (g.2.1.1, 160, .inl u2)), (s3, .inl (g.2.1.1, 160, .inl u3)), (s4, .inl (g.2.1.1, 160, .inl u4)), (s5, .inl (g.2.1.1, 160, .inl u5))]
set_option maxHeartbeats 4000000 in
set_option maxRecDepth 100000 in
theorem c_X3_aim0 (l : Launch) (g : kG) (h : Nat) (r1 : Int32) (r2 : Int32) (r3 : Int32) (r4 : Int32) (r5 : Int32) (o : Nat) (s1 : Nat) (s2 : Nat) (s3 : Nat) (s4 : Nat) (s5 : Nat) (u1 : Nat → Int32) (u2 : Nat → Int32) (u3 : Nat → Int32) (u4 : Nat → Int32) (u5 : Nat → Int32) (x : Int32) (β : Int32) : KV l yX3_aim wsX3_aim rm_X3_aim0 g [.ref h, .ref o, .int (nI 0), .int x, .int β] [(h, .inr (5, [.int r1, .int r2, .int r3, .int r4, .int r5])), (o, .inr (6, [.ref s1, .ref s2, .ref s3, .ref s4, .ref s5, .int (nI 0)])), (s1, .inl (g.2.1.1, 160, .inl u1)), (s2, .inl (g.2.1.1, 160, .inl u2)), (s3, .inl (g.2.1.1, 160, .inl u3)), (s4, .inl (g.2.1.1, 160, .inl u4)), (s5, .inl (g.2.1.1, 160, .inl u5))] (p_X3_aim0 g h r1 r2 r3 r4 r5 o s1 s2 s3 s4 s5 u1 u2 u3 u4 u5 x β) := by
  refine kbodyV (cc := cX3_aim) (n := 10) (k := 7) (own := RX3) (plainFor_of_name (by decide)) rfl rfl rfl rfl ?_
  intro p e s m below meth cd A ls hcx
  obtain ⟨hx, hb, hRt, hml, hts, hown, hlk, hA, hP, hK, hD, hE, hS, hl⟩ := hcx
  have hl : lv_has ls 10 [(0, .ref h), (1, .ref o), (2, .int (nI 0)), (3, .int x), (4, .int β)] := hl
  refine lv_aload_n hx hb dX3_aim_0 rfl (lv_at hl 0 rfl) ?_
  refine lv_iconst (v := 0) hx hb dX3_aim_1 (by decide) ?_
  refine va_put (D := g.1) (ci := 5) (v := .int 0) (ty := .int) (C := RX3) (T := TX3) (N := 5) hx hb hts (by decide +kernel) tyX3 tyX3_ok nmX3 hown hK hP hD hS 0 rfl rfl 0 (by decide) (hts (.fieldLink RX3 9 "LearnedIndex$Search" "prediction" "I") (by decide +kernel)) (fun _ h9 => h9) rfl (by decide +kernel) rfl rfl (Nat.le_of_ble_eq_true rfl) dX3_aim_2 (fun H locs hP hD hS => ?_)
  have hP : va_P g.1 vwCl [(h, .inr (5, [.int 0, .int r2, .int r3, .int r4, .int r5])), (o, .inr (6, [.ref s1, .ref s2, .ref s3, .ref s4, .ref s5, .int (nI 0)])), (s1, .inl (g.2.1.1, 160, .inl u1)), (s2, .inl (g.2.1.1, 160, .inl u2)), (s3, .inl (g.2.1.1, 160, .inl u3)), (s4, .inl (g.2.1.1, 160, .inl u4)), (s5, .inl (g.2.1.1, 160, .inl u5))] H := hP
  have hD : va_D A [(h, .inr (5, [.int 0, .int r2, .int r3, .int r4, .int r5])), (o, .inr (6, [.ref s1, .ref s2, .ref s3, .ref s4, .ref s5, .int (nI 0)])), (s1, .inl (g.2.1.1, 160, .inl u1)), (s2, .inl (g.2.1.1, 160, .inl u2)), (s3, .inl (g.2.1.1, 160, .inl u3)), (s4, .inl (g.2.1.1, 160, .inl u4)), (s5, .inl (g.2.1.1, 160, .inl u5))] := hD
  refine lv_aload_n hx hb dX3_aim_5 rfl (lv_at hl 0 rfl) ?_
  refine lv_iconst (v := 0) hx hb dX3_aim_6 (by decide) ?_
  refine va_put (D := g.1) (ci := 5) (v := .int 0) (ty := .int) (C := RX3) (T := TX3) (N := 5) hx hb hts (by decide +kernel) tyX3 tyX3_ok nmX3 hown hK hP hD hS 0 rfl rfl 1 (by decide) (hts (.fieldLink RX3 15 "LearnedIndex$Search" "low" "I") (by decide +kernel)) (fun _ h9 => h9) rfl (by decide +kernel) rfl rfl (Nat.le_of_ble_eq_true rfl) dX3_aim_7 (fun H locs hP hD hS => ?_)
  have hP : va_P g.1 vwCl [(h, .inr (5, [.int 0, .int 0, .int r3, .int r4, .int r5])), (o, .inr (6, [.ref s1, .ref s2, .ref s3, .ref s4, .ref s5, .int (nI 0)])), (s1, .inl (g.2.1.1, 160, .inl u1)), (s2, .inl (g.2.1.1, 160, .inl u2)), (s3, .inl (g.2.1.1, 160, .inl u3)), (s4, .inl (g.2.1.1, 160, .inl u4)), (s5, .inl (g.2.1.1, 160, .inl u5))] H := hP
  have hD : va_D A [(h, .inr (5, [.int 0, .int 0, .int r3, .int r4, .int r5])), (o, .inr (6, [.ref s1, .ref s2, .ref s3, .ref s4, .ref s5, .int (nI 0)])), (s1, .inl (g.2.1.1, 160, .inl u1)), (s2, .inl (g.2.1.1, 160, .inl u2)), (s3, .inl (g.2.1.1, 160, .inl u3)), (s4, .inl (g.2.1.1, 160, .inl u4)), (s5, .inl (g.2.1.1, 160, .inl u5))] := hD
  refine lv_aload_n hx hb dX3_aim_10 rfl (lv_at hl 0 rfl) ?_
  refine lv_iconst (v := (-1)) hx hb dX3_aim_11 (by decide) ?_
  refine va_put (D := g.1) (ci := 5) (v := .int (-1)) (ty := .int) (C := RX3) (T := TX3) (N := 5) hx hb hts (by decide +kernel) tyX3 tyX3_ok nmX3 hown hK hP hD hS 0 rfl rfl 2 (by decide) (hts (.fieldLink RX3 18 "LearnedIndex$Search" "high" "I") (by decide +kernel)) (fun _ h9 => h9) rfl (by decide +kernel) rfl rfl (Nat.le_of_ble_eq_true rfl) dX3_aim_12 (fun H locs hP hD hS => ?_)
  have hP : va_P g.1 vwCl [(h, .inr (5, [.int 0, .int 0, .int (-1), .int r4, .int r5])), (o, .inr (6, [.ref s1, .ref s2, .ref s3, .ref s4, .ref s5, .int (nI 0)])), (s1, .inl (g.2.1.1, 160, .inl u1)), (s2, .inl (g.2.1.1, 160, .inl u2)), (s3, .inl (g.2.1.1, 160, .inl u3)), (s4, .inl (g.2.1.1, 160, .inl u4)), (s5, .inl (g.2.1.1, 160, .inl u5))] H := hP
  have hD : va_D A [(h, .inr (5, [.int 0, .int 0, .int (-1), .int r4, .int r5])), (o, .inr (6, [.ref s1, .ref s2, .ref s3, .ref s4, .ref s5, .int (nI 0)])), (s1, .inl (g.2.1.1, 160, .inl u1)), (s2, .inl (g.2.1.1, 160, .inl u2)), (s3, .inl (g.2.1.1, 160, .inl u3)), (s4, .inl (g.2.1.1, 160, .inl u4)), (s5, .inl (g.2.1.1, 160, .inl u5))] := hD
  refine lv_iload_n hx hb dX3_aim_15 rfl (lv_at hl 2 rfl) ?_
  refine lv_if_lt (tgt := 27) hx hb dX3_aim_16 (by decide) (fun c_16 => absurd c_16 (by decide)) (fun c_16 => ?_)
  refine lv_iload_n hx hb dX3_aim_19 rfl (lv_at hl 2 rfl) ?_
  refine lv_aload_n hx hb dX3_aim_20 rfl (lv_at hl 1 rfl) ?_
  refine va_getN (D := g.1) (ci := 6) (v := .int (nI 0)) (C := RX4) (T := TX4) (N := 6) hx hb hts (by decide +kernel) hown hK hP 1 rfl rfl 5 (by decide) (va_Nw.use rfl (hE.1 _ (List.mem_of_getElem? (i := 30) rfl))) (fun _ h9 => h9) rfl dX3_aim_21 ?_
  refine lv_icmp_lt (tgt := 28) hx hb dX3_aim_24 (by decide) (fun c_24 => absurd c_24 (by decide)) (fun c_24 => ?_)
  exact kretv hx hb hRt hlk hK hP hD hS rfl dX3_aim_27 (rfl)
set_option maxRecDepth 20000 in
theorem ggX3_probe_X3_pageOf : GoodIn wsX3_probe wsX3_pageOf := goodIn_ca (goodIn_r _ [8] (by decide +kernel) (by decide +kernel)) (goodIn_sub (fun _ h => List.mem_cons_of_mem _ (List.mem_append_left _ (List.mem_append_right _ h))) (by decide +kernel))
set_option maxRecDepth 20000 in
theorem gX3_probe_X3_pageOf : GoodIn wsX3_probe (va_wsS RX3 58 yX3_pageOf wsX3_pageOf) := goodIn_app (goodIn_of _ (by decide +kernel)) ggX3_probe_X3_pageOf
set_option maxRecDepth 20000 in
theorem ggX3_probe_X0_key : GoodIn wsX3_probe wsX0_key := goodIn_ca (goodIn_r _ [13, 14, 15, 16, 17, 30, 31, 32, 33] (by decide +kernel) (by decide +kernel)) (goodIn_sub (fun _ h => List.mem_cons_of_mem _ (List.mem_append_right _ h)) (by decide +kernel))
set_option maxRecDepth 20000 in
theorem gX3_probe_X0_key : GoodIn wsX3_probe (wsV RX3 64 RX0 yX0_key wsX0_key) := goodIn_app (goodIn_of _ (by decide +kernel)) ggX3_probe_X0_key
set_option maxRecDepth 20000 in
theorem ggX3_probe_J13_bitCount_95d88 : GoodIn wsX3_probe wsJ13_bitCount_95d88 := goodIn_r _ [21, 22, 23, 24] (by decide +kernel) (by decide +kernel)
set_option maxRecDepth 20000 in
theorem gX3_probe_J13_bitCount_95d88 : GoodIn wsX3_probe (va_wsS RX3 70 yJ13_bitCount_95d88 wsJ13_bitCount_95d88) := goodIn_app (goodIn_of _ (by decide +kernel)) ggX3_probe_J13_bitCount_95d88
theorem dX3_probe_0 : decode cX3_probe 0 = .ok (.aload_n 0, 1) := by decide +kernel
theorem dX3_probe_1 : decode cX3_probe 1 = .ok (.getfield 15, 3) := by decide +kernel
theorem dX3_probe_4 : decode cX3_probe 4 = .ok (.istore 4, 2) := by decide +kernel
theorem dX3_probe_6 : decode cX3_probe 6 = .ok (.aload_n 0, 1) := by decide +kernel
theorem dX3_probe_7 : decode cX3_probe 7 = .ok (.getfield 18, 3) := by decide +kernel
theorem dX3_probe_10 : decode cX3_probe 10 = .ok (.istore 5, 2) := by decide +kernel
theorem dX3_probe_12 : decode cX3_probe 12 = .ok (.lconst 0, 1) := by decide +kernel
theorem dX3_probe_13 : decode cX3_probe 13 = .ok (.lstore 6, 2) := by decide +kernel
theorem dX3_probe_15 : decode cX3_probe 15 = .ok (.iconst 0, 1) := by decide +kernel
theorem dX3_probe_16 : decode cX3_probe 16 = .ok (.istore 8, 2) := by decide +kernel
theorem dX3_probe_18 : decode cX3_probe 18 = .ok (.aload_n 0, 1) := by decide +kernel
theorem dX3_probe_19 : decode cX3_probe 19 = .ok (.iconst 0, 1) := by decide +kernel
theorem dX3_probe_20 : decode cX3_probe 20 = .ok (.putfield 61, 3) := by decide +kernel
theorem dX3_probe_23 : decode cX3_probe 23 = .ok (.iload 4, 2) := by decide +kernel
theorem dX3_probe_25 : decode cX3_probe 25 = .ok (.iload 5, 2) := by decide +kernel
theorem dX3_probe_27 : decode cX3_probe 27 = .ok (.if_icmp .gt 103, 3) := by decide +kernel
theorem dX3_probe_30 : decode cX3_probe 30 = .ok (.iload 8, 2) := by decide +kernel
theorem dX3_probe_32 : decode cX3_probe 32 = .ok (.ifCond .ne 98, 3) := by decide +kernel
theorem dX3_probe_35 : decode cX3_probe 35 = .ok (.aload_n 0, 1) := by decide +kernel
theorem dX3_probe_36 : decode cX3_probe 36 = .ok (.getfield 61, 3) := by decide +kernel
theorem dX3_probe_39 : decode cX3_probe 39 = .ok (.bipush 32, 2) := by decide +kernel
theorem dX3_probe_41 : decode cX3_probe 41 = .ok (.if_icmp .ge 89, 3) := by decide +kernel
theorem dX3_probe_44 : decode cX3_probe 44 = .ok (.iload 4, 2) := by decide +kernel
theorem dX3_probe_46 : decode cX3_probe 46 = .ok (.iload 5, 2) := by decide +kernel
theorem dX3_probe_48 : decode cX3_probe 48 = .ok (.iadd, 1) := by decide +kernel
theorem dX3_probe_49 : decode cX3_probe 49 = .ok (.iconst 2, 1) := by decide +kernel
theorem dX3_probe_50 : decode cX3_probe 50 = .ok (.idiv, 1) := by decide +kernel
theorem dX3_probe_51 : decode cX3_probe 51 = .ok (.istore 9, 2) := by decide +kernel
theorem dX3_probe_53 : decode cX3_probe 53 = .ok (.aload_n 0, 1) := by decide +kernel
theorem dX3_probe_54 : decode cX3_probe 54 = .ok (.dup, 1) := by decide +kernel
theorem dX3_probe_55 : decode cX3_probe 55 = .ok (.getfield 61, 3) := by decide +kernel
theorem dX3_probe_58 : decode cX3_probe 58 = .ok (.iconst 1, 1) := by decide +kernel
theorem dX3_probe_59 : decode cX3_probe 59 = .ok (.iadd, 1) := by decide +kernel
theorem dX3_probe_60 : decode cX3_probe 60 = .ok (.putfield 61, 3) := by decide +kernel
theorem dX3_probe_63 : decode cX3_probe 63 = .ok (.lload 6, 2) := by decide +kernel
theorem dX3_probe_65 : decode cX3_probe 65 = .ok (.lconst 1, 1) := by decide +kernel
theorem dX3_probe_66 : decode cX3_probe 66 = .ok (.iload 9, 2) := by decide +kernel
theorem dX3_probe_68 : decode cX3_probe 68 = .ok (.iload_n 3, 1) := by decide +kernel
theorem dX3_probe_69 : decode cX3_probe 69 = .ok (.invokestatic 58, 3) := by decide +kernel
theorem dX3_probe_72 : decode cX3_probe 72 = .ok (.aload_n 0, 1) := by decide +kernel
theorem dX3_probe_73 : decode cX3_probe 73 = .ok (.getfield 15, 3) := by decide +kernel
theorem dX3_probe_76 : decode cX3_probe 76 = .ok (.iload_n 3, 1) := by decide +kernel
theorem dX3_probe_77 : decode cX3_probe 77 = .ok (.invokestatic 58, 3) := by decide +kernel
theorem dX3_probe_80 : decode cX3_probe 80 = .ok (.isub, 1) := by decide +kernel
theorem dX3_probe_81 : decode cX3_probe 81 = .ok (.lshl, 1) := by decide +kernel
theorem dX3_probe_82 : decode cX3_probe 82 = .ok (.lor, 1) := by decide +kernel
theorem dX3_probe_83 : decode cX3_probe 83 = .ok (.lstore 6, 2) := by decide +kernel
theorem dX3_probe_85 : decode cX3_probe 85 = .ok (.aload_n 1, 1) := by decide +kernel
theorem dX3_probe_86 : decode cX3_probe 86 = .ok (.iload 9, 2) := by decide +kernel
theorem dX3_probe_88 : decode cX3_probe 88 = .ok (.invokevirtual 64, 3) := by decide +kernel
theorem dX3_probe_91 : decode cX3_probe 91 = .ok (.iload_n 2, 1) := by decide +kernel
theorem dX3_probe_92 : decode cX3_probe 92 = .ok (.if_icmp .ne 7, 3) := by decide +kernel
theorem dX3_probe_95 : decode cX3_probe 95 = .ok (.iconst 1, 1) := by decide +kernel
theorem dX3_probe_96 : decode cX3_probe 96 = .ok (.goto 4, 3) := by decide +kernel
theorem dX3_probe_99 : decode cX3_probe 99 = .ok (.iconst 0, 1) := by decide +kernel
theorem dX3_probe_100 : decode cX3_probe 100 = .ok (.istore 8, 2) := by decide +kernel
theorem dX3_probe_102 : decode cX3_probe 102 = .ok (.aload_n 1, 1) := by decide +kernel
theorem dX3_probe_103 : decode cX3_probe 103 = .ok (.iload 9, 2) := by decide +kernel
theorem dX3_probe_105 : decode cX3_probe 105 = .ok (.invokevirtual 64, 3) := by decide +kernel
theorem dX3_probe_108 : decode cX3_probe 108 = .ok (.iload_n 2, 1) := by decide +kernel
theorem dX3_probe_109 : decode cX3_probe 109 = .ok (.if_icmp .ge 12, 3) := by decide +kernel
theorem dX3_probe_112 : decode cX3_probe 112 = .ok (.iload 9, 2) := by decide +kernel
theorem dX3_probe_114 : decode cX3_probe 114 = .ok (.iconst 1, 1) := by decide +kernel
theorem dX3_probe_115 : decode cX3_probe 115 = .ok (.iadd, 1) := by decide +kernel
theorem dX3_probe_116 : decode cX3_probe 116 = .ok (.istore 4, 2) := by decide +kernel
theorem dX3_probe_118 : decode cX3_probe 118 = .ok (.goto 9, 3) := by decide +kernel
theorem dX3_probe_121 : decode cX3_probe 121 = .ok (.iload 9, 2) := by decide +kernel
theorem dX3_probe_123 : decode cX3_probe 123 = .ok (.iconst 1, 1) := by decide +kernel
theorem dX3_probe_124 : decode cX3_probe 124 = .ok (.isub, 1) := by decide +kernel
theorem dX3_probe_125 : decode cX3_probe 125 = .ok (.istore 5, 2) := by decide +kernel
theorem dX3_probe_127 : decode cX3_probe 127 = .ok (.goto (-104), 3) := by decide +kernel
theorem dX3_probe_130 : decode cX3_probe 130 = .ok (.aload_n 0, 1) := by decide +kernel
theorem dX3_probe_131 : decode cX3_probe 131 = .ok (.lload 6, 2) := by decide +kernel
theorem dX3_probe_133 : decode cX3_probe 133 = .ok (.invokestatic 70, 3) := by decide +kernel
theorem dX3_probe_136 : decode cX3_probe 136 = .ok (.putfield 76, 3) := by decide +kernel
theorem dX3_probe_139 : decode cX3_probe 139 = .ok (.return_, 1) := by decide +kernel
def rm_X3_probe : Room := { frames := 2, cells := 0, slots := 0, locals := 42 }
abbrev p_X3_probe (g : kG) (h : Nat) (pr : Int32) (lo : Nat) (e0 : Nat) (pb : Int32) (pg : Int32) (o : Nat) (ok : Nat) (ov : Nat) (or : Nat) (n : Nat) (fk : Nat → Int32) (fv : Nat → Int32) (fr : Nat → Int32) (x : Int32) (sp : Nat) (Q : Nat → Int32) : va_W → Prop := fun w1 => w1 = [(h, .inr (5, [.int pr, .int (nI lo), .int (kH e0), .int (nI (prb Q x (e0 - lo) lo e0).length), .int (nI (dst sp (prb Q x (e0 - lo) lo e0)))])), (o, .inr (2, [.ref ok, .ref ov, .ref or, .int (nI n)])), (ok, .inl (g.2.1.1, 160, .inl fk)), (ov, .inl (g.2.1.1, 160, .inl fv)), (or, .inl (g.2.1.1, 160, .inl fr))]
set_option maxHeartbeats 4000000 in
set_option maxRecDepth 100000 in
theorem c_X3_probe (l : Launch) (g : kG) (h : Nat) (pr : Int32) (lo : Nat) (e0 : Nat) (pb : Int32) (pg : Int32) (o : Nat) (ok : Nat) (ov : Nat) (or : Nat) (n : Nat) (fk : Nat → Int32) (fv : Nat → Int32) (fr : Nat → Int32) (x : Int32) (sp : Nat) (Q : Nat → Int32) (hQ : ∀ j, j < n → fk j = Q j) (hn : n ≤ 160) (hlo : e0 ≤ n ∧ e0 ≤ lo + 18 ∧ lo < 1000) (hs : 0 < sp ∧ sp ≤ 16) : KV l yX3_probe wsX3_probe rm_X3_probe g [.ref h, .ref o, .int x, .int (nI sp)] [(h, .inr (5, [.int pr, .int (nI lo), .int (kH e0), .int pb, .int pg])), (o, .inr (2, [.ref ok, .ref ov, .ref or, .int (nI n)])), (ok, .inl (g.2.1.1, 160, .inl fk)), (ov, .inl (g.2.1.1, 160, .inl fv)), (or, .inl (g.2.1.1, 160, .inl fr))] (p_X3_probe g h pr lo e0 pb pg o ok ov or n fk fv fr x sp Q) := by
  refine kbodyV (cc := cX3_probe) (n := 10) (k := 5) (own := RX3) (plainFor_of_name (by decide)) rfl rfl rfl rfl ?_
  intro p e s m below meth cd A ls hcx
  obtain ⟨hx, hb, hRt, hml, hts, hown, hlk, hA, hP, hK, hD, hE, hS, hl⟩ := hcx
  have hl : lv_has ls 10 [(0, .ref h), (1, .ref o), (2, .int x), (3, .int (nI sp))] := hl
  refine lv_aload_n hx hb dX3_probe_0 rfl (lv_at hl 0 rfl) ?_
  refine va_get (D := g.1) (ci := 5) (v := .int (nI lo)) (C := RX3) (T := TX3) (N := 5) hx hb hts (by decide +kernel) hown hK hP 0 rfl rfl 1 (by decide) (hts (.fieldLink RX3 15 "LearnedIndex$Search" "low" "I") (by decide +kernel)) (fun _ h9 => h9) rfl dX3_probe_1 ?_
  refine lv_istore (lv' := [(4, .int (nI lo)), (0, .ref h), (1, .ref o), (2, .int x), (3, .int (nI sp))]) hx hb dX3_probe_4 hl (by decide) rfl (fun ls hl => ?_)
  refine lv_aload_n hx hb dX3_probe_6 rfl (lv_at hl 1 rfl) ?_
  refine va_get (D := g.1) (ci := 5) (v := .int (kH e0)) (C := RX3) (T := TX3) (N := 5) hx hb hts (by decide +kernel) hown hK hP 0 rfl rfl 2 (by decide) (hts (.fieldLink RX3 18 "LearnedIndex$Search" "high" "I") (by decide +kernel)) (fun _ h9 => h9) rfl dX3_probe_7 ?_
  refine lv_istore (lv' := [(5, .int (kH e0)), (4, .int (nI lo)), (0, .ref h), (1, .ref o), (2, .int x), (3, .int (nI sp))]) hx hb dX3_probe_10 hl (by decide) rfl (fun ls hl => ?_)
  refine lv_lconst (v := 0) hx hb dX3_probe_12 (by decide) ?_
  rw [show (0 : Int64) = lN (wrd sp lo ([] : List Nat)) from rfl]
  refine lv_lstore (lv' := [(6, .long (lN (wrd sp lo ([] : List Nat)))), (5, .int (kH e0)), (4, .int (nI lo)), (0, .ref h), (1, .ref o), (2, .int x), (3, .int (nI sp))]) hx hb dX3_probe_13 hl (by decide) rfl (fun ls hl => ?_)
  refine lv_iconst (v := 0) hx hb dX3_probe_15 (by decide) ?_
  refine lv_istore (lv' := [(8, .int 0), (6, .long (lN (wrd sp lo ([] : List Nat)))), (5, .int (kH e0)), (4, .int (nI lo)), (0, .ref h), (1, .ref o), (2, .int x), (3, .int (nI sp))]) hx hb dX3_probe_16 hl (by decide) rfl (fun ls hl => ?_)
  refine lv_aload_n hx hb dX3_probe_18 rfl (lv_at hl 4 rfl) ?_
  refine lv_iconst (v := 0) hx hb dX3_probe_19 (by decide) ?_
  rw [show (0 : Int32) = nI (List.length ([] : List Nat)) from rfl]
  refine va_put (D := g.1) (ci := 5) (v := .int (nI (List.length ([] : List Nat)))) (ty := .int) (C := RX3) (T := TX3) (N := 5) hx hb hts (by decide +kernel) tyX3 tyX3_ok nmX3 hown hK hP hD hS 0 rfl rfl 3 (by decide) (hts (.fieldLink RX3 61 "LearnedIndex$Search" "probed" "I") (by decide +kernel)) (fun _ h9 => h9) rfl (by decide +kernel) rfl rfl (Nat.le_of_ble_eq_true rfl) dX3_probe_20 (fun H locs hP hD hS => ?_)
  have hP : va_P g.1 vwCl [(h, .inr (5, [.int pr, .int (nI lo), .int (kH e0), .int (nI (List.length ([] : List Nat))), .int pg])), (o, .inr (2, [.ref ok, .ref ov, .ref or, .int (nI n)])), (ok, .inl (g.2.1.1, 160, .inl fk)), (ov, .inl (g.2.1.1, 160, .inl fv)), (or, .inl (g.2.1.1, 160, .inl fr))] H := hP
  have hD : va_D A [(h, .inr (5, [.int pr, .int (nI lo), .int (kH e0), .int (nI (List.length ([] : List Nat))), .int pg])), (o, .inr (2, [.ref ok, .ref ov, .ref or, .int (nI n)])), (ok, .inl (g.2.1.1, 160, .inl fk)), (ov, .inl (g.2.1.1, 160, .inl fv)), (or, .inl (g.2.1.1, 160, .inl fr))] := hD
  have L23 : ∀ (n9 : Nat) (f : Nat) (t : Nat) (P : List Nat) (fl : Int32) (H : Heap) (locs : List Loc) (ls : Array Slot), (lo ≤ f ∧ f ≤ lo + 18 ∧ t ≤ e0) → (List.length P + (t - f) ≤ e0 - lo) → (∀ q ∈ P, lo ≤ q ∧ q < e0) → ((fl = 0 ∧ P ++ prb Q x (t - f) f t = prb Q x (e0 - lo) lo e0) ∨ (fl = 1 ∧ P = prb Q x (e0 - lo) lo e0)) → t - f < n9 → va_P g.1 vwCl [(h, .inr (5, [.int pr, .int (nI lo), .int (kH e0), .int (nI (List.length P)), .int pg])), (o, .inr (2, [.ref ok, .ref ov, .ref or, .int (nI n)])), (ok, .inl (g.2.1.1, 160, .inl fk)), (ov, .inl (g.2.1.1, 160, .inl fv)), (or, .inl (g.2.1.1, 160, .inl fr))] H → va_D A [(h, .inr (5, [.int pr, .int (nI lo), .int (kH e0), .int (nI (List.length P)), .int pg])), (o, .inr (2, [.ref ok, .ref ov, .ref or, .int (nI n)])), (ok, .inl (g.2.1.1, 160, .inl fk)), (ov, .inl (g.2.1.1, 160, .inl fv)), (or, .inl (g.2.1.1, 160, .inl fr))] → va_S A s.heap H locs → lv_has ls 10 [(8, .int fl), (6, .long (lN (wrd sp lo P))), (5, .int (kH t)), (4, .int (nI f)), (0, .ref h), (1, .ref o), (2, .int x), (3, .int (nI sp))] → W p l e rm_X3_probe s m ([.ref h, .ref o, .int x, .int (nI sp)] : List Value).toArray below meth cd H locs 0 0 (kQv g 5 A (p_X3_probe g h pr lo e0 pb pg o ok ov or n fk fv fr x sp Q) below ([.ref h, .ref o, .int x, .int (nI sp)] : List Value).toArray s) (F0 m 23 ls []) := by
    intro n9
    induction n9 with
    | zero => intro f t P fl H locs ls hf hPl hPi hst h9; exact absurd h9 (Nat.not_lt_zero _)
    | succ n9 ih23 =>
      intro f t P fl H locs ls hf hPl hPi hst hn23 hP hD hS hl
      refine lv_iload hx hb dX3_probe_23 (lv_at hl 3 rfl) ?_
      refine lv_iload hx hb dX3_probe_25 (lv_at hl 2 rfl) ?_
      refine lv_icmp_gt (tgt := 130) hx hb dX3_probe_27 (by decide) (fun c_27 => ?_) (fun c_27 => ?_)
      · skip
        have hft : t ≤ f := by rw [kI_nI, kH, kI_lt (by omega) (by omega) (by omega) (by omega)] at c_27; omega
        have hPT : P = prb Q x (e0 - lo) lo e0 := hst.elim (fun h9 => by rw [← h9.2, prb_0 Q x hft, List.append_nil]) (fun h9 => h9.2)
        refine lv_aload_n hx hb dX3_probe_130 rfl (lv_at hl 4 rfl) ?_
        refine lv_lload hx hb dX3_probe_131 (lv_at hl 1 rfl) ?_
        refine kcalli (wc := []) [] (va_runS (As := [.long (lN (wrd sp lo P))]) (rest := [.ref h]) ⟨hx, hb, hml, hown, hts⟩ ((c_J13_bitCount_95d88 l g (lN (wrd sp lo P))) _) (va_cwS 1 hts gX3_probe_J13_bitCount_95d88 rfl rfl rfl (by decide +kernel) ⟨Nat.le_of_ble_eq_true rfl, Nat.le_of_ble_eq_true rfl⟩) (kpreS (wc := []) hK hP hD hS hA hE [] rfl rfl) rfl rfl hl.1 rfl (lv_room (Nat.le_of_ble_eq_true rfl)) dX3_probe_133 ⟨Nat.zero_le _, Nat.zero_le _⟩) hP hD hS hA rfl (fun r_1 w_1 H locs hp hP hD hS => ?_)
        obtain ⟨rfl, rfl⟩ := hp
        have hP : va_P g.1 vwCl [(h, .inr (5, [.int pr, .int (nI lo), .int (kH e0), .int (nI (List.length P)), .int pg])), (o, .inr (2, [.ref ok, .ref ov, .ref or, .int (nI n)])), (ok, .inl (g.2.1.1, 160, .inl fk)), (ov, .inl (g.2.1.1, 160, .inl fv)), (or, .inl (g.2.1.1, 160, .inl fr))] H := hP
        have hD : va_D A [(h, .inr (5, [.int pr, .int (nI lo), .int (kH e0), .int (nI (List.length P)), .int pg])), (o, .inr (2, [.ref ok, .ref ov, .ref or, .int (nI n)])), (ok, .inl (g.2.1.1, 160, .inl fk)), (ov, .inl (g.2.1.1, 160, .inl fv)), (or, .inl (g.2.1.1, 160, .inl fr))] := hD
        refine va_put (D := g.1) (ci := 5) (v := .int (kbc (lN (wrd sp lo P)))) (ty := .int) (C := RX3) (T := TX3) (N := 5) hx hb hts (by decide +kernel) tyX3 tyX3_ok nmX3 hown hK hP hD hS 0 rfl rfl 4 (by decide) (hts (.fieldLink RX3 76 "LearnedIndex$Search" "pages" "I") (by decide +kernel)) (fun _ h9 => h9) rfl (by decide +kernel) rfl rfl (Nat.le_of_ble_eq_true rfl) dX3_probe_136 (fun H locs hP hD hS => ?_)
        have hP : va_P g.1 vwCl [(h, .inr (5, [.int pr, .int (nI lo), .int (kH e0), .int (nI (List.length P)), .int (kbc (lN (wrd sp lo P)))])), (o, .inr (2, [.ref ok, .ref ov, .ref or, .int (nI n)])), (ok, .inl (g.2.1.1, 160, .inl fk)), (ov, .inl (g.2.1.1, 160, .inl fv)), (or, .inl (g.2.1.1, 160, .inl fr))] H := hP
        have hD : va_D A [(h, .inr (5, [.int pr, .int (nI lo), .int (kH e0), .int (nI (List.length P)), .int (kbc (lN (wrd sp lo P)))])), (o, .inr (2, [.ref ok, .ref ov, .ref or, .int (nI n)])), (ok, .inl (g.2.1.1, 160, .inl fk)), (ov, .inl (g.2.1.1, 160, .inl fv)), (or, .inl (g.2.1.1, 160, .inl fr))] := hD
        exact kretv hx hb hRt hlk hK hP hD hS rfl dX3_probe_139 (by show _ = _; rw [wrd_dst (fun q hq => ⟨(hPi q hq).1, pg_off hs.1 (hPi q hq).1 (by have := hPi q hq; omega)⟩), hPT])
      · skip
        have hft : f < t := by rw [kI_nI, kH, kI_lt (by omega) (by omega) (by omega) (by omega)] at c_27; omega
        refine lv_iload hx hb dX3_probe_30 (lv_at hl 0 rfl) ?_
        refine lv_if_ne (tgt := 130) hx hb dX3_probe_32 (by decide) (fun c_32 => ?_) (fun c_32 => ?_)
        · skip
          have hPT : P = prb Q x (e0 - lo) lo e0 := hst.elim (fun h9 => absurd h9.1 c_32) (fun h9 => h9.2)
          refine lv_aload_n hx hb dX3_probe_130 rfl (lv_at hl 4 rfl) ?_
          refine lv_lload hx hb dX3_probe_131 (lv_at hl 1 rfl) ?_
          refine kcalli (wc := []) [] (va_runS (As := [.long (lN (wrd sp lo P))]) (rest := [.ref h]) ⟨hx, hb, hml, hown, hts⟩ ((c_J13_bitCount_95d88 l g (lN (wrd sp lo P))) _) (va_cwS 1 hts gX3_probe_J13_bitCount_95d88 rfl rfl rfl (by decide +kernel) ⟨Nat.le_of_ble_eq_true rfl, Nat.le_of_ble_eq_true rfl⟩) (kpreS (wc := []) hK hP hD hS hA hE [] rfl rfl) rfl rfl hl.1 rfl (lv_room (Nat.le_of_ble_eq_true rfl)) dX3_probe_133 ⟨Nat.zero_le _, Nat.zero_le _⟩) hP hD hS hA rfl (fun r_2 w_2 H locs hp hP hD hS => ?_)
          obtain ⟨rfl, rfl⟩ := hp
          have hP : va_P g.1 vwCl [(h, .inr (5, [.int pr, .int (nI lo), .int (kH e0), .int (nI (List.length P)), .int pg])), (o, .inr (2, [.ref ok, .ref ov, .ref or, .int (nI n)])), (ok, .inl (g.2.1.1, 160, .inl fk)), (ov, .inl (g.2.1.1, 160, .inl fv)), (or, .inl (g.2.1.1, 160, .inl fr))] H := hP
          have hD : va_D A [(h, .inr (5, [.int pr, .int (nI lo), .int (kH e0), .int (nI (List.length P)), .int pg])), (o, .inr (2, [.ref ok, .ref ov, .ref or, .int (nI n)])), (ok, .inl (g.2.1.1, 160, .inl fk)), (ov, .inl (g.2.1.1, 160, .inl fv)), (or, .inl (g.2.1.1, 160, .inl fr))] := hD
          refine va_put (D := g.1) (ci := 5) (v := .int (kbc (lN (wrd sp lo P)))) (ty := .int) (C := RX3) (T := TX3) (N := 5) hx hb hts (by decide +kernel) tyX3 tyX3_ok nmX3 hown hK hP hD hS 0 rfl rfl 4 (by decide) (hts (.fieldLink RX3 76 "LearnedIndex$Search" "pages" "I") (by decide +kernel)) (fun _ h9 => h9) rfl (by decide +kernel) rfl rfl (Nat.le_of_ble_eq_true rfl) dX3_probe_136 (fun H locs hP hD hS => ?_)
          have hP : va_P g.1 vwCl [(h, .inr (5, [.int pr, .int (nI lo), .int (kH e0), .int (nI (List.length P)), .int (kbc (lN (wrd sp lo P)))])), (o, .inr (2, [.ref ok, .ref ov, .ref or, .int (nI n)])), (ok, .inl (g.2.1.1, 160, .inl fk)), (ov, .inl (g.2.1.1, 160, .inl fv)), (or, .inl (g.2.1.1, 160, .inl fr))] H := hP
          have hD : va_D A [(h, .inr (5, [.int pr, .int (nI lo), .int (kH e0), .int (nI (List.length P)), .int (kbc (lN (wrd sp lo P)))])), (o, .inr (2, [.ref ok, .ref ov, .ref or, .int (nI n)])), (ok, .inl (g.2.1.1, 160, .inl fk)), (ov, .inl (g.2.1.1, 160, .inl fv)), (or, .inl (g.2.1.1, 160, .inl fr))] := hD
          exact kretv hx hb hRt hlk hK hP hD hS rfl dX3_probe_139 (by show _ = _; rw [wrd_dst (fun q hq => ⟨(hPi q hq).1, pg_off hs.1 (hPi q hq).1 (by have := hPi q hq; omega)⟩), hPT])
        · skip
          have hPr : P ++ prb Q x (t - f) f t = prb Q x (e0 - lo) lo e0 := hst.elim (fun h9 => h9.2) (fun h9 => absurd (h9.1.symm.trans c_32) (by decide))
          rw [prb_s Q x hft] at hPr
          have hms : lo / sp ≤ ((f + t - 1) / 2) / sp := Nat.div_le_div_right (by omega)
          have hmk : ((f + t - 1) / 2) / sp - lo / sp < 18 := pg_off hs.1 (by omega) (by omega)
          refine lv_aload_n hx hb dX3_probe_35 rfl (lv_at hl 4 rfl) ?_
          refine va_get (D := g.1) (ci := 5) (v := .int (nI (List.length P))) (C := RX3) (T := TX3) (N := 5) hx hb hts (by decide +kernel) hown hK hP 0 rfl rfl 3 (by decide) (hts (.fieldLink RX3 61 "LearnedIndex$Search" "probed" "I") (by decide +kernel)) (fun _ h9 => h9) rfl dX3_probe_36 ?_
          refine lv_bipush (v := 32) hx hb dX3_probe_39 (by decide) ?_
          refine lv_icmp_ge (tgt := 130) hx hb dX3_probe_41 (by decide) (fun c_41 => absurd c_41 (by rw [show (32 : Int32) = nI 32 from rfl, nI_leI (by decide) (by omega)]; omega)) (fun c_41 => ?_)
          refine lv_iload hx hb dX3_probe_44 (lv_at hl 3 rfl) ?_
          refine lv_iload hx hb dX3_probe_46 (lv_at hl 2 rfl) ?_
          refine lv_iadd hx hb dX3_probe_48 ?_
          rw [show ((nI f) + (kH t) : Int32) = nI (f + t - 1) from by rw [kI_nI, kH, kI_add, kI_nI]; congr 1; omega]
          refine lv_iconst (v := 2) hx hb dX3_probe_49 (by decide) ?_
          refine lv_idiv hx hb dX3_probe_50 (by decide) ?_
          rw [show ((nI (f + t - 1)) / 2 : Int32) = nI ((f + t - 1) / 2) from by rw [show (2 : Int32) = nI 2 from rfl, pk_div (by omega) (by decide) (by decide)]]
          refine lv_istore (lv' := [(9, .int (nI ((f + t - 1) / 2))), (8, .int fl), (6, .long (lN (wrd sp lo P))), (5, .int (kH t)), (4, .int (nI f)), (0, .ref h), (1, .ref o), (2, .int x), (3, .int (nI sp))]) hx hb dX3_probe_51 hl (by decide) rfl (fun ls hl => ?_)
          refine lv_aload_n hx hb dX3_probe_53 rfl (lv_at hl 5 rfl) ?_
          refine lv_dup hx hb dX3_probe_54 rfl ?_
          refine va_get (D := g.1) (ci := 5) (v := .int (nI (List.length P))) (C := RX3) (T := TX3) (N := 5) hx hb hts (by decide +kernel) hown hK hP 0 rfl rfl 3 (by decide) (hts (.fieldLink RX3 61 "LearnedIndex$Search" "probed" "I") (by decide +kernel)) (fun _ h9 => h9) rfl dX3_probe_55 ?_
          refine lv_iconst (v := 1) hx hb dX3_probe_58 (by decide) ?_
          refine lv_iadd hx hb dX3_probe_59 ?_
          rw [show ((nI (List.length P)) + 1 : Int32) = nI (List.length (P ++ [((f + t - 1) / 2)])) from by rw [nI_1, List.length_append, List.length_singleton]]
          refine va_put (D := g.1) (ci := 5) (v := .int (nI (List.length (P ++ [((f + t - 1) / 2)])))) (ty := .int) (C := RX3) (T := TX3) (N := 5) hx hb hts (by decide +kernel) tyX3 tyX3_ok nmX3 hown hK hP hD hS 0 rfl rfl 3 (by decide) (hts (.fieldLink RX3 61 "LearnedIndex$Search" "probed" "I") (by decide +kernel)) (fun _ h9 => h9) rfl (by decide +kernel) rfl rfl (Nat.le_of_ble_eq_true rfl) dX3_probe_60 (fun H locs hP hD hS => ?_)
          have hP : va_P g.1 vwCl [(h, .inr (5, [.int pr, .int (nI lo), .int (kH e0), .int (nI (List.length (P ++ [((f + t - 1) / 2)]))), .int pg])), (o, .inr (2, [.ref ok, .ref ov, .ref or, .int (nI n)])), (ok, .inl (g.2.1.1, 160, .inl fk)), (ov, .inl (g.2.1.1, 160, .inl fv)), (or, .inl (g.2.1.1, 160, .inl fr))] H := hP
          have hD : va_D A [(h, .inr (5, [.int pr, .int (nI lo), .int (kH e0), .int (nI (List.length (P ++ [((f + t - 1) / 2)]))), .int pg])), (o, .inr (2, [.ref ok, .ref ov, .ref or, .int (nI n)])), (ok, .inl (g.2.1.1, 160, .inl fk)), (ov, .inl (g.2.1.1, 160, .inl fv)), (or, .inl (g.2.1.1, 160, .inl fr))] := hD
          refine lv_lload hx hb dX3_probe_63 (lv_at hl 2 rfl) ?_
          refine lv_lconst (v := 1) hx hb dX3_probe_65 (by decide) ?_
          refine lv_iload hx hb dX3_probe_66 (lv_at hl 0 rfl) ?_
          refine lv_iload_n hx hb dX3_probe_68 rfl (lv_at hl 8 rfl) ?_
          refine kcalli (wc := []) [] (va_runS (As := [.int (nI ((f + t - 1) / 2)), .int (nI sp)]) (rest := [.long 1, .long (lN (wrd sp lo P))]) ⟨hx, hb, hml, hown, hts⟩ ((c_X3_pageOf l g ((f + t - 1) / 2) sp hs (by omega)) _) (va_cwS 2 hts gX3_probe_X3_pageOf rfl rfl rfl (by decide +kernel) ⟨Nat.le_of_ble_eq_true rfl, Nat.le_of_ble_eq_true rfl⟩) (kpreS (wc := []) hK hP hD hS hA hE [] rfl rfl) rfl rfl hl.1 rfl (lv_room (Nat.le_of_ble_eq_true rfl)) dX3_probe_69 ⟨Nat.zero_le _, Nat.zero_le _⟩) hP hD hS hA rfl (fun r_3 w_3 H locs hp hP hD hS => ?_)
          obtain ⟨rfl, rfl⟩ := hp
          have hP : va_P g.1 vwCl [(h, .inr (5, [.int pr, .int (nI lo), .int (kH e0), .int (nI (List.length (P ++ [((f + t - 1) / 2)]))), .int pg])), (o, .inr (2, [.ref ok, .ref ov, .ref or, .int (nI n)])), (ok, .inl (g.2.1.1, 160, .inl fk)), (ov, .inl (g.2.1.1, 160, .inl fv)), (or, .inl (g.2.1.1, 160, .inl fr))] H := hP
          have hD : va_D A [(h, .inr (5, [.int pr, .int (nI lo), .int (kH e0), .int (nI (List.length (P ++ [((f + t - 1) / 2)]))), .int pg])), (o, .inr (2, [.ref ok, .ref ov, .ref or, .int (nI n)])), (ok, .inl (g.2.1.1, 160, .inl fk)), (ov, .inl (g.2.1.1, 160, .inl fv)), (or, .inl (g.2.1.1, 160, .inl fr))] := hD
          refine lv_aload_n hx hb dX3_probe_72 rfl (lv_at hl 5 rfl) ?_
          refine va_get (D := g.1) (ci := 5) (v := .int (nI lo)) (C := RX3) (T := TX3) (N := 5) hx hb hts (by decide +kernel) hown hK hP 0 rfl rfl 1 (by decide) (hts (.fieldLink RX3 15 "LearnedIndex$Search" "low" "I") (by decide +kernel)) (fun _ h9 => h9) rfl dX3_probe_73 ?_
          refine lv_iload_n hx hb dX3_probe_76 rfl (lv_at hl 8 rfl) ?_
          refine kcalli (wc := []) [] (va_runS (As := [.int (nI lo), .int (nI sp)]) (rest := [.int (nI (((f + t - 1) / 2) / sp)), .long 1, .long (lN (wrd sp lo P))]) ⟨hx, hb, hml, hown, hts⟩ ((c_X3_pageOf l g lo sp hs (by omega)) _) (va_cwS 2 hts gX3_probe_X3_pageOf rfl rfl rfl (by decide +kernel) ⟨Nat.le_of_ble_eq_true rfl, Nat.le_of_ble_eq_true rfl⟩) (kpreS (wc := []) hK hP hD hS hA hE [] rfl rfl) rfl rfl hl.1 rfl (lv_room (Nat.le_of_ble_eq_true rfl)) dX3_probe_77 ⟨Nat.zero_le _, Nat.zero_le _⟩) hP hD hS hA rfl (fun r_4 w_4 H locs hp hP hD hS => ?_)
          obtain ⟨rfl, rfl⟩ := hp
          have hP : va_P g.1 vwCl [(h, .inr (5, [.int pr, .int (nI lo), .int (kH e0), .int (nI (List.length (P ++ [((f + t - 1) / 2)]))), .int pg])), (o, .inr (2, [.ref ok, .ref ov, .ref or, .int (nI n)])), (ok, .inl (g.2.1.1, 160, .inl fk)), (ov, .inl (g.2.1.1, 160, .inl fv)), (or, .inl (g.2.1.1, 160, .inl fr))] H := hP
          have hD : va_D A [(h, .inr (5, [.int pr, .int (nI lo), .int (kH e0), .int (nI (List.length (P ++ [((f + t - 1) / 2)]))), .int pg])), (o, .inr (2, [.ref ok, .ref ov, .ref or, .int (nI n)])), (ok, .inl (g.2.1.1, 160, .inl fk)), (ov, .inl (g.2.1.1, 160, .inl fv)), (or, .inl (g.2.1.1, 160, .inl fr))] := hD
          refine lv_isub hx hb dX3_probe_80 ?_
          rw [show ((nI (((f + t - 1) / 2) / sp)) - (nI (lo / sp)) : Int32) = nI (((f + t - 1) / 2) / sp - lo / sp) from pk_sub hms]
          refine lv_lshl hx hb dX3_probe_81 rfl ?_
          rw [show (1 <<< ((nI (((f + t - 1) / 2) / sp - lo / sp)).toInt64 &&& 63) : Int64) = lN (2 ^ (((f + t - 1) / 2) / sp - lo / sp)) from by rw [show (1 : Int64) = lN 1 from rfl, wb_shl 1 (by omega), Nat.one_mul]]
          refine lv_lor hx hb dX3_probe_82 ?_
          rw [show ((lN (wrd sp lo P)) ||| (lN (2 ^ (((f + t - 1) / 2) / sp - lo / sp))) : Int64) = lN (wrd sp lo (P ++ [((f + t - 1) / 2)])) from by rw [fb_orL, wrd_snoc]]
          refine lv_lstore (lv' := [(6, .long (lN (wrd sp lo (P ++ [((f + t - 1) / 2)])))), (9, .int (nI ((f + t - 1) / 2))), (8, .int fl), (5, .int (kH t)), (4, .int (nI f)), (0, .ref h), (1, .ref o), (2, .int x), (3, .int (nI sp))]) hx hb dX3_probe_83 hl (by decide) rfl (fun ls hl => ?_)
          refine lv_aload_n hx hb dX3_probe_85 rfl (lv_at hl 6 rfl) ?_
          refine lv_iload hx hb dX3_probe_86 (lv_at hl 1 rfl) ?_
          refine kcalli (wc := [(o, .inr (2, [.ref ok, .ref ov, .ref or, .int (nI n)])), (ok, .inl (g.2.1.1, 160, .inl fk)), (ov, .inl (g.2.1.1, 160, .inl fv)), (or, .inl (g.2.1.1, 160, .inl fr))]) [1, 2, 3, 4] (va_runV (C := RX0) (As := [.int (nI ((f + t - 1) / 2))]) (rest := []) ⟨hx, hb, hml, hown, hts⟩ ((c_X0_key l g o ok ov or n fk fv fr (nI ((f + t - 1) / 2))) _) (cwV 1 hts gX3_probe_X0_key rfl rfl rfl (by decide +kernel) ⟨Nat.le_of_ble_eq_true rfl, Nat.le_of_ble_eq_true rfl⟩) (kpreV (wc := [(o, .inr (2, [.ref ok, .ref ov, .ref or, .int (nI n)])), (ok, .inl (g.2.1.1, 160, .inl fk)), (ov, .inl (g.2.1.1, 160, .inl fv)), (or, .inl (g.2.1.1, 160, .inl fr))]) (ci := 2) hK hP hD hS hA hE [1, 2, 3, 4] rfl rfl rfl rfl) rfl rfl hl.1 rfl (lv_room (Nat.le_of_ble_eq_true rfl)) dX3_probe_88 ⟨Nat.zero_le _, Nat.zero_le _⟩) hP hD hS hA rfl (fun r_5 w_5 H locs hp hP hD hS => ?_)
          obtain ⟨rfl, rfl⟩ := hp
          have hP : va_P g.1 vwCl [(h, .inr (5, [.int pr, .int (nI lo), .int (kH e0), .int (nI (List.length (P ++ [((f + t - 1) / 2)]))), .int pg])), (o, .inr (2, [.ref ok, .ref ov, .ref or, .int (nI n)])), (ok, .inl (g.2.1.1, 160, .inl fk)), (ov, .inl (g.2.1.1, 160, .inl fv)), (or, .inl (g.2.1.1, 160, .inl fr))] H := hP
          have hD : va_D A [(h, .inr (5, [.int pr, .int (nI lo), .int (kH e0), .int (nI (List.length (P ++ [((f + t - 1) / 2)]))), .int pg])), (o, .inr (2, [.ref ok, .ref ov, .ref or, .int (nI n)])), (ok, .inl (g.2.1.1, 160, .inl fk)), (ov, .inl (g.2.1.1, 160, .inl fv)), (or, .inl (g.2.1.1, 160, .inl fr))] := hD
          rw [show (kcell 160 fk (nI ((f + t - 1) / 2)) : Int32) = Q ((f + t - 1) / 2) from by rw [kcell_nI fk (show 160 < 2 ^ 31 by decide) (show (f + t - 1) / 2 < 160 by omega), hQ _ (by omega)]]
          refine lv_iload_n hx hb dX3_probe_91 rfl (lv_at hl 7 rfl) ?_
          refine lv_icmp_ne (tgt := 99) hx hb dX3_probe_92 (by decide) (fun c_92 => ?_) (fun c_92 => ?_)
          · skip
            rw [if_neg c_92] at hPr
            refine lv_iconst (v := 0) hx hb dX3_probe_99 (by decide) ?_
            refine lv_istore (lv' := [(8, .int 0), (6, .long (lN (wrd sp lo (P ++ [((f + t - 1) / 2)])))), (9, .int (nI ((f + t - 1) / 2))), (5, .int (kH t)), (4, .int (nI f)), (0, .ref h), (1, .ref o), (2, .int x), (3, .int (nI sp))]) hx hb dX3_probe_100 hl (by decide) rfl (fun ls hl => ?_)
            refine lv_aload_n hx hb dX3_probe_102 rfl (lv_at hl 6 rfl) ?_
            refine lv_iload hx hb dX3_probe_103 (lv_at hl 2 rfl) ?_
            refine kcalli (wc := [(o, .inr (2, [.ref ok, .ref ov, .ref or, .int (nI n)])), (ok, .inl (g.2.1.1, 160, .inl fk)), (ov, .inl (g.2.1.1, 160, .inl fv)), (or, .inl (g.2.1.1, 160, .inl fr))]) [1, 2, 3, 4] (va_runV (C := RX0) (As := [.int (nI ((f + t - 1) / 2))]) (rest := []) ⟨hx, hb, hml, hown, hts⟩ ((c_X0_key l g o ok ov or n fk fv fr (nI ((f + t - 1) / 2))) _) (cwV 1 hts gX3_probe_X0_key rfl rfl rfl (by decide +kernel) ⟨Nat.le_of_ble_eq_true rfl, Nat.le_of_ble_eq_true rfl⟩) (kpreV (wc := [(o, .inr (2, [.ref ok, .ref ov, .ref or, .int (nI n)])), (ok, .inl (g.2.1.1, 160, .inl fk)), (ov, .inl (g.2.1.1, 160, .inl fv)), (or, .inl (g.2.1.1, 160, .inl fr))]) (ci := 2) hK hP hD hS hA hE [1, 2, 3, 4] rfl rfl rfl rfl) rfl rfl hl.1 rfl (lv_room (Nat.le_of_ble_eq_true rfl)) dX3_probe_105 ⟨Nat.zero_le _, Nat.zero_le _⟩) hP hD hS hA rfl (fun r_6 w_6 H locs hp hP hD hS => ?_)
            obtain ⟨rfl, rfl⟩ := hp
            have hP : va_P g.1 vwCl [(h, .inr (5, [.int pr, .int (nI lo), .int (kH e0), .int (nI (List.length (P ++ [((f + t - 1) / 2)]))), .int pg])), (o, .inr (2, [.ref ok, .ref ov, .ref or, .int (nI n)])), (ok, .inl (g.2.1.1, 160, .inl fk)), (ov, .inl (g.2.1.1, 160, .inl fv)), (or, .inl (g.2.1.1, 160, .inl fr))] H := hP
            have hD : va_D A [(h, .inr (5, [.int pr, .int (nI lo), .int (kH e0), .int (nI (List.length (P ++ [((f + t - 1) / 2)]))), .int pg])), (o, .inr (2, [.ref ok, .ref ov, .ref or, .int (nI n)])), (ok, .inl (g.2.1.1, 160, .inl fk)), (ov, .inl (g.2.1.1, 160, .inl fv)), (or, .inl (g.2.1.1, 160, .inl fr))] := hD
            rw [show (kcell 160 fk (nI ((f + t - 1) / 2)) : Int32) = Q ((f + t - 1) / 2) from by rw [kcell_nI fk (show 160 < 2 ^ 31 by decide) (show (f + t - 1) / 2 < 160 by omega), hQ _ (by omega)]]
            refine lv_iload_n hx hb dX3_probe_108 rfl (lv_at hl 7 rfl) ?_
            refine lv_icmp_ge (tgt := 121) hx hb dX3_probe_109 (by decide) (fun c_109 => ?_) (fun c_109 => ?_)
            · skip
              refine lv_iload hx hb dX3_probe_121 (lv_at hl 2 rfl) ?_
              refine lv_iconst (v := 1) hx hb dX3_probe_123 (by decide) ?_
              refine lv_isub hx hb dX3_probe_124 ?_
              rw [show ((nI ((f + t - 1) / 2)) - 1 : Int32) = kH ((f + t - 1) / 2) from by rw [kI_nI, kH, show (1 : Int32) = kI 1 from rfl, kI_sub]]
              refine lv_istore (lv' := [(5, .int (kH ((f + t - 1) / 2))), (8, .int 0), (6, .long (lN (wrd sp lo (P ++ [((f + t - 1) / 2)])))), (9, .int (nI ((f + t - 1) / 2))), (4, .int (nI f)), (0, .ref h), (1, .ref o), (2, .int x), (3, .int (nI sp))]) hx hb dX3_probe_125 hl (by decide) rfl (fun ls hl => ?_)
              refine lv_goto (tgt := 23) hx hb dX3_probe_127 (by decide) ?_
              exact ih23 f ((f + t - 1) / 2) (P ++ [((f + t - 1) / 2)]) 0 _ _ ls (⟨by omega, by omega, by omega⟩) (by rw [List.length_append, List.length_singleton]; omega) (by intro q hq; rcases List.mem_append.mp hq with h9 | h9; exact hPi q h9; rw [List.mem_singleton.mp h9]; omega) (Or.inl ⟨rfl, by rw [if_neg (Int32.not_lt.mpr c_109)] at hPr; rw [← hPr, List.append_assoc]; rfl⟩) (by omega) hP hD hS (lv_sub hl [1, 2, 0, 4, 5, 6, 7, 8] rfl)
            · skip
              refine lv_iload hx hb dX3_probe_112 (lv_at hl 2 rfl) ?_
              refine lv_iconst (v := 1) hx hb dX3_probe_114 (by decide) ?_
              refine lv_iadd hx hb dX3_probe_115 ?_
              rw [show ((nI ((f + t - 1) / 2)) + 1 : Int32) = nI (((f + t - 1) / 2) + 1) from nI_1 _]
              refine lv_istore (lv' := [(4, .int (nI (((f + t - 1) / 2) + 1))), (8, .int 0), (6, .long (lN (wrd sp lo (P ++ [((f + t - 1) / 2)])))), (9, .int (nI ((f + t - 1) / 2))), (5, .int (kH t)), (0, .ref h), (1, .ref o), (2, .int x), (3, .int (nI sp))]) hx hb dX3_probe_116 hl (by decide) rfl (fun ls hl => ?_)
              refine lv_goto (tgt := 127) hx hb dX3_probe_118 (by decide) ?_
              refine lv_goto (tgt := 23) hx hb dX3_probe_127 (by decide) ?_
              exact ih23 (((f + t - 1) / 2) + 1) t (P ++ [((f + t - 1) / 2)]) 0 _ _ ls (⟨by omega, by omega, by omega⟩) (by rw [List.length_append, List.length_singleton]; omega) (by intro q hq; rcases List.mem_append.mp hq with h9 | h9; exact hPi q h9; rw [List.mem_singleton.mp h9]; omega) (Or.inl ⟨rfl, by rw [if_pos (Int32.not_le.mp c_109)] at hPr; rw [← hPr, List.append_assoc]; rfl⟩) (by omega) hP hD hS (lv_sub hl [1, 2, 4, 0, 5, 6, 7, 8] rfl)
          · skip
            rw [if_pos c_92] at hPr
            refine lv_iconst (v := 1) hx hb dX3_probe_95 (by decide) ?_
            refine lv_goto (tgt := 100) hx hb dX3_probe_96 (by decide) ?_
            refine lv_istore (lv' := [(8, .int 1), (6, .long (lN (wrd sp lo (P ++ [((f + t - 1) / 2)])))), (9, .int (nI ((f + t - 1) / 2))), (5, .int (kH t)), (4, .int (nI f)), (0, .ref h), (1, .ref o), (2, .int x), (3, .int (nI sp))]) hx hb dX3_probe_100 hl (by decide) rfl (fun ls hl => ?_)
            refine lv_aload_n hx hb dX3_probe_102 rfl (lv_at hl 6 rfl) ?_
            refine lv_iload hx hb dX3_probe_103 (lv_at hl 2 rfl) ?_
            refine kcalli (wc := [(o, .inr (2, [.ref ok, .ref ov, .ref or, .int (nI n)])), (ok, .inl (g.2.1.1, 160, .inl fk)), (ov, .inl (g.2.1.1, 160, .inl fv)), (or, .inl (g.2.1.1, 160, .inl fr))]) [1, 2, 3, 4] (va_runV (C := RX0) (As := [.int (nI ((f + t - 1) / 2))]) (rest := []) ⟨hx, hb, hml, hown, hts⟩ ((c_X0_key l g o ok ov or n fk fv fr (nI ((f + t - 1) / 2))) _) (cwV 1 hts gX3_probe_X0_key rfl rfl rfl (by decide +kernel) ⟨Nat.le_of_ble_eq_true rfl, Nat.le_of_ble_eq_true rfl⟩) (kpreV (wc := [(o, .inr (2, [.ref ok, .ref ov, .ref or, .int (nI n)])), (ok, .inl (g.2.1.1, 160, .inl fk)), (ov, .inl (g.2.1.1, 160, .inl fv)), (or, .inl (g.2.1.1, 160, .inl fr))]) (ci := 2) hK hP hD hS hA hE [1, 2, 3, 4] rfl rfl rfl rfl) rfl rfl hl.1 rfl (lv_room (Nat.le_of_ble_eq_true rfl)) dX3_probe_105 ⟨Nat.zero_le _, Nat.zero_le _⟩) hP hD hS hA rfl (fun r_7 w_7 H locs hp hP hD hS => ?_)
            obtain ⟨rfl, rfl⟩ := hp
            have hP : va_P g.1 vwCl [(h, .inr (5, [.int pr, .int (nI lo), .int (kH e0), .int (nI (List.length (P ++ [((f + t - 1) / 2)]))), .int pg])), (o, .inr (2, [.ref ok, .ref ov, .ref or, .int (nI n)])), (ok, .inl (g.2.1.1, 160, .inl fk)), (ov, .inl (g.2.1.1, 160, .inl fv)), (or, .inl (g.2.1.1, 160, .inl fr))] H := hP
            have hD : va_D A [(h, .inr (5, [.int pr, .int (nI lo), .int (kH e0), .int (nI (List.length (P ++ [((f + t - 1) / 2)]))), .int pg])), (o, .inr (2, [.ref ok, .ref ov, .ref or, .int (nI n)])), (ok, .inl (g.2.1.1, 160, .inl fk)), (ov, .inl (g.2.1.1, 160, .inl fv)), (or, .inl (g.2.1.1, 160, .inl fr))] := hD
            rw [show (kcell 160 fk (nI ((f + t - 1) / 2)) : Int32) = Q ((f + t - 1) / 2) from by rw [kcell_nI fk (show 160 < 2 ^ 31 by decide) (show (f + t - 1) / 2 < 160 by omega), hQ _ (by omega)]]
            refine lv_iload_n hx hb dX3_probe_108 rfl (lv_at hl 7 rfl) ?_
            refine lv_icmp_ge (tgt := 121) hx hb dX3_probe_109 (by decide) (fun c_109 => ?_) (fun c_109 => ?_)
            · skip
              refine lv_iload hx hb dX3_probe_121 (lv_at hl 2 rfl) ?_
              refine lv_iconst (v := 1) hx hb dX3_probe_123 (by decide) ?_
              refine lv_isub hx hb dX3_probe_124 ?_
              rw [show ((nI ((f + t - 1) / 2)) - 1 : Int32) = kH ((f + t - 1) / 2) from by rw [kI_nI, kH, show (1 : Int32) = kI 1 from rfl, kI_sub]]
              refine lv_istore (lv' := [(5, .int (kH ((f + t - 1) / 2))), (8, .int 1), (6, .long (lN (wrd sp lo (P ++ [((f + t - 1) / 2)])))), (9, .int (nI ((f + t - 1) / 2))), (4, .int (nI f)), (0, .ref h), (1, .ref o), (2, .int x), (3, .int (nI sp))]) hx hb dX3_probe_125 hl (by decide) rfl (fun ls hl => ?_)
              refine lv_goto (tgt := 23) hx hb dX3_probe_127 (by decide) ?_
              exact ih23 f ((f + t - 1) / 2) (P ++ [((f + t - 1) / 2)]) 1 _ _ ls (⟨by omega, by omega, by omega⟩) (by rw [List.length_append, List.length_singleton]; omega) (by intro q hq; rcases List.mem_append.mp hq with h9 | h9; exact hPi q h9; rw [List.mem_singleton.mp h9]; omega) (Or.inr ⟨rfl, hPr⟩) (by omega) hP hD hS (lv_sub hl [1, 2, 0, 4, 5, 6, 7, 8] rfl)
            · skip
              refine lv_iload hx hb dX3_probe_112 (lv_at hl 2 rfl) ?_
              refine lv_iconst (v := 1) hx hb dX3_probe_114 (by decide) ?_
              refine lv_iadd hx hb dX3_probe_115 ?_
              rw [show ((nI ((f + t - 1) / 2)) + 1 : Int32) = nI (((f + t - 1) / 2) + 1) from nI_1 _]
              refine lv_istore (lv' := [(4, .int (nI (((f + t - 1) / 2) + 1))), (8, .int 1), (6, .long (lN (wrd sp lo (P ++ [((f + t - 1) / 2)])))), (9, .int (nI ((f + t - 1) / 2))), (5, .int (kH t)), (0, .ref h), (1, .ref o), (2, .int x), (3, .int (nI sp))]) hx hb dX3_probe_116 hl (by decide) rfl (fun ls hl => ?_)
              refine lv_goto (tgt := 127) hx hb dX3_probe_118 (by decide) ?_
              refine lv_goto (tgt := 23) hx hb dX3_probe_127 (by decide) ?_
              exact ih23 (((f + t - 1) / 2) + 1) t (P ++ [((f + t - 1) / 2)]) 1 _ _ ls (⟨by omega, by omega, by omega⟩) (by rw [List.length_append, List.length_singleton]; omega) (by intro q hq; rcases List.mem_append.mp hq with h9 | h9; exact hPi q h9; rw [List.mem_singleton.mp h9]; omega) (Or.inr ⟨rfl, hPr⟩) (by omega) hP hD hS (lv_sub hl [1, 2, 4, 0, 5, 6, 7, 8] rfl)
  exact L23 _ lo e0 ([] : List Nat) 0 _ _ ls (⟨Nat.le_refl _, by omega, Nat.le_refl _⟩) (by simp) (fun q hq => absurd hq List.not_mem_nil) (Or.inl ⟨rfl, rfl⟩) (Nat.lt_succ_self _) hP hD hS (lv_sub hl [0, 1, 2, 3, 4, 5, 6, 7] rfl)
