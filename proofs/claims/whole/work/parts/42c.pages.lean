theorem dX7_countPages_0 : decode cX7_countPages 0 = .ok (.iconst 0, 1) := by decide +kernel
theorem dX7_countPages_1 : decode cX7_countPages 1 = .ok (.istore_n 1, 1) := by decide +kernel
theorem dX7_countPages_2 : decode cX7_countPages 2 = .ok (.iconst 0, 1) := by decide +kernel
theorem dX7_countPages_3 : decode cX7_countPages 3 = .ok (.istore_n 2, 1) := by decide +kernel
theorem dX7_countPages_4 : decode cX7_countPages 4 = .ok (.iload_n 2, 1) := by decide +kernel
theorem dX7_countPages_5 : decode cX7_countPages 5 = .ok (.aload_n 0, 1) := by decide +kernel
theorem dX7_countPages_6 : decode cX7_countPages 6 = .ok (.getfield 182, 3) := by decide +kernel
theorem dX7_countPages_9 : decode cX7_countPages 9 = .ok (.if_icmp .ge 76, 3) := by decide +kernel
theorem dX7_countPages_12 : decode cX7_countPages 12 = .ok (.iconst 1, 1) := by decide +kernel
theorem dX7_countPages_13 : decode cX7_countPages 13 = .ok (.istore_n 3, 1) := by decide +kernel
theorem dX7_countPages_14 : decode cX7_countPages 14 = .ok (.iconst 0, 1) := by decide +kernel
theorem dX7_countPages_15 : decode cX7_countPages 15 = .ok (.istore 4, 2) := by decide +kernel
theorem dX7_countPages_17 : decode cX7_countPages 17 = .ok (.iload 4, 2) := by decide +kernel
theorem dX7_countPages_19 : decode cX7_countPages 19 = .ok (.iload_n 2, 1) := by decide +kernel
theorem dX7_countPages_20 : decode cX7_countPages 20 = .ok (.if_icmp .ge 47, 3) := by decide +kernel
theorem dX7_countPages_23 : decode cX7_countPages 23 = .ok (.iload_n 3, 1) := by decide +kernel
theorem dX7_countPages_24 : decode cX7_countPages 24 = .ok (.aload_n 0, 1) := by decide +kernel
theorem dX7_countPages_25 : decode cX7_countPages 25 = .ok (.getfield 40, 3) := by decide +kernel
theorem dX7_countPages_28 : decode cX7_countPages 28 = .ok (.iload 4, 2) := by decide +kernel
theorem dX7_countPages_30 : decode cX7_countPages 30 = .ok (.iaload, 1) := by decide +kernel
theorem dX7_countPages_31 : decode cX7_countPages 31 = .ok (.aload_n 0, 1) := by decide +kernel
theorem dX7_countPages_32 : decode cX7_countPages 32 = .ok (.getfield 25, 3) := by decide +kernel
theorem dX7_countPages_35 : decode cX7_countPages 35 = .ok (.iconst 2, 1) := by decide +kernel
theorem dX7_countPages_36 : decode cX7_countPages 36 = .ok (.iaload, 1) := by decide +kernel
theorem dX7_countPages_37 : decode cX7_countPages 37 = .ok (.idiv, 1) := by decide +kernel
theorem dX7_countPages_38 : decode cX7_countPages 38 = .ok (.aload_n 0, 1) := by decide +kernel
theorem dX7_countPages_39 : decode cX7_countPages 39 = .ok (.getfield 40, 3) := by decide +kernel
theorem dX7_countPages_42 : decode cX7_countPages 42 = .ok (.iload_n 2, 1) := by decide +kernel
theorem dX7_countPages_43 : decode cX7_countPages 43 = .ok (.iaload, 1) := by decide +kernel
theorem dX7_countPages_44 : decode cX7_countPages 44 = .ok (.aload_n 0, 1) := by decide +kernel
theorem dX7_countPages_45 : decode cX7_countPages 45 = .ok (.getfield 25, 3) := by decide +kernel
theorem dX7_countPages_48 : decode cX7_countPages 48 = .ok (.iconst 2, 1) := by decide +kernel
theorem dX7_countPages_49 : decode cX7_countPages 49 = .ok (.iaload, 1) := by decide +kernel
theorem dX7_countPages_50 : decode cX7_countPages 50 = .ok (.idiv, 1) := by decide +kernel
theorem dX7_countPages_51 : decode cX7_countPages 51 = .ok (.if_icmp .eq 7, 3) := by decide +kernel
theorem dX7_countPages_54 : decode cX7_countPages 54 = .ok (.iconst 1, 1) := by decide +kernel
theorem dX7_countPages_55 : decode cX7_countPages 55 = .ok (.goto 4, 3) := by decide +kernel
theorem dX7_countPages_58 : decode cX7_countPages 58 = .ok (.iconst 0, 1) := by decide +kernel
theorem dX7_countPages_59 : decode cX7_countPages 59 = .ok (.iand, 1) := by decide +kernel
theorem dX7_countPages_60 : decode cX7_countPages 60 = .ok (.istore_n 3, 1) := by decide +kernel
theorem dX7_countPages_61 : decode cX7_countPages 61 = .ok (.iinc 4 1, 3) := by decide +kernel
theorem dX7_countPages_64 : decode cX7_countPages 64 = .ok (.goto (-47), 3) := by decide +kernel
theorem dX7_countPages_67 : decode cX7_countPages 67 = .ok (.iload_n 1, 1) := by decide +kernel
theorem dX7_countPages_68 : decode cX7_countPages 68 = .ok (.iload_n 3, 1) := by decide +kernel
theorem dX7_countPages_69 : decode cX7_countPages 69 = .ok (.ifCond .eq 7, 3) := by decide +kernel
theorem dX7_countPages_72 : decode cX7_countPages 72 = .ok (.iconst 1, 1) := by decide +kernel
theorem dX7_countPages_73 : decode cX7_countPages 73 = .ok (.goto 4, 3) := by decide +kernel
theorem dX7_countPages_76 : decode cX7_countPages 76 = .ok (.iconst 0, 1) := by decide +kernel
theorem dX7_countPages_77 : decode cX7_countPages 77 = .ok (.iadd, 1) := by decide +kernel
theorem dX7_countPages_78 : decode cX7_countPages 78 = .ok (.istore_n 1, 1) := by decide +kernel
theorem dX7_countPages_79 : decode cX7_countPages 79 = .ok (.iinc 2 1, 3) := by decide +kernel
theorem dX7_countPages_82 : decode cX7_countPages 82 = .ok (.goto (-78), 3) := by decide +kernel
theorem dX7_countPages_85 : decode cX7_countPages 85 = .ok (.iload_n 1, 1) := by decide +kernel
theorem dX7_countPages_86 : decode cX7_countPages 86 = .ok (.ireturn, 1) := by decide +kernel
def rm_X7_countPages : Room := { frames := 0, cells := 0, slots := 0, locals := 0 }
abbrev p_X7_countPages (g : kG) (h : Nat) (zth : Int32) (zl1 : Int64) (zl2 : Int64) (zl3 : Int64) (zl4 : Int64) (zpb : Int32) (zln : Int32) (zat : Int32) (zrk : Int32) (zrv : Int32) (zre : Int32) (zwr : Int32) (zrm : Int32) (zrs : Int32) (zis : Int32) (zss : Int32) (zsc : Int32) (ak : Nat) (av : Nat) (bk : Nat) (bv : Nat) (br : Nat) (a_s : Nat) (a_t : Nat) (g1 : Nat) (g2 : Nat) (g3 : Nat) (pa : Nat) (ru : Nat) (tx : Nat) (dk : Nat) (dv : Nat) (ek : Nat) (ev : Nat) (er : Nat) (es : Nat) (et : Nat) (nA : Nat) (fk : Nat → Int32) (fv : Nat → Int32) (nB : Nat) (ck : Nat → Int32) (cv : Nat → Int32) (cr : Nat → Int32) (fS : Nat → Int32) (fT : Nat → Int32) (mS : Nat) (y1 : Nat → Int32) (y2 : Nat → Int32) (y3 : Nat → Int32) (M : List kE3) (C : List kE3) (S : Nat → Int32) (T : Nat → Int32) (fp : Nat → Int32) (P : List Nat) : Int32 → va_W → Prop := fun r w1 => r = nI (dst (S 2).toInt.toNat P) ∧ w1 = [(h, .inr (9, [.int zth, .int (nI nA), .int (nI nB), .ref ak, .ref av, .ref bk, .ref bv, .ref br, .ref a_s, .ref a_t, .int (nI mS), .ref g1, .ref g2, .ref g3, .long zl1, .long zl2, .long zl3, .long zl4, .int (nI P.length), .ref pa, .ref ru, .ref tx, .int zln, .int zat, .int zrk, .int zrv, .int zre, .int zwr, .int zrm, .int zrs, .int zis, .int zss, .int zsc, .ref dk, .ref dv, .ref ek, .ref ev, .ref er, .ref es, .ref et])), (ak, .inl (g.2.1.1, 152, .inl fk)), (av, .inl (g.2.1.1, 152, .inl fv)), (bk, .inl (g.2.1.1, 24, .inl ck)), (bv, .inl (g.2.1.1, 24, .inl cv)), (br, .inl (g.2.1.1, 24, .inl cr)), (a_s, .inl (g.2.1.1, 4, .inl fS)), (a_t, .inl (g.2.1.1, 5, .inl fT)), (g1, .inl (g.2.1.1, 152, .inl y1)), (g2, .inl (g.2.1.1, 152, .inl y2)), (g3, .inl (g.2.1.1, 152, .inl y3)), (pa, .inl (g.2.1.1, 152, .inl fp))]
set_option maxHeartbeats 4000000 in
set_option maxRecDepth 100000 in
theorem c_X7_countPages (l : Launch) (g : kG) (h : Nat) (zth : Int32) (zl1 : Int64) (zl2 : Int64) (zl3 : Int64) (zl4 : Int64) (zpb : Int32) (zln : Int32) (zat : Int32) (zrk : Int32) (zrv : Int32) (zre : Int32) (zwr : Int32) (zrm : Int32) (zrs : Int32) (zis : Int32) (zss : Int32) (zsc : Int32) (ak : Nat) (av : Nat) (bk : Nat) (bv : Nat) (br : Nat) (a_s : Nat) (a_t : Nat) (g1 : Nat) (g2 : Nat) (g3 : Nat) (pa : Nat) (ru : Nat) (tx : Nat) (dk : Nat) (dv : Nat) (ek : Nat) (ev : Nat) (er : Nat) (es : Nat) (et : Nat) (nA : Nat) (fk : Nat → Int32) (fv : Nat → Int32) (nB : Nat) (ck : Nat → Int32) (cv : Nat → Int32) (cr : Nat → Int32) (fS : Nat → Int32) (fT : Nat → Int32) (mS : Nat) (y1 : Nat → Int32) (y2 : Nat → Int32) (y3 : Nat → Int32) (M : List kE3) (C : List kE3) (S : Nat → Int32) (T : Nat → Int32) (fp : Nat → Int32) (P : List Nat) (hMX : kMX nA fk fv nB ck cv cr fS fT mS y1 y2 y3 M C S T) (hpr : kPr fp P) (hpb : P.length ≤ 18 ∧ ∀ q ∈ P, q < 150) : KI l yX7_countPages wsX7_countPages rm_X7_countPages g [.ref h] [(h, .inr (9, [.int zth, .int (nI nA), .int (nI nB), .ref ak, .ref av, .ref bk, .ref bv, .ref br, .ref a_s, .ref a_t, .int (nI mS), .ref g1, .ref g2, .ref g3, .long zl1, .long zl2, .long zl3, .long zl4, .int (nI P.length), .ref pa, .ref ru, .ref tx, .int zln, .int zat, .int zrk, .int zrv, .int zre, .int zwr, .int zrm, .int zrs, .int zis, .int zss, .int zsc, .ref dk, .ref dv, .ref ek, .ref ev, .ref er, .ref es, .ref et])), (ak, .inl (g.2.1.1, 152, .inl fk)), (av, .inl (g.2.1.1, 152, .inl fv)), (bk, .inl (g.2.1.1, 24, .inl ck)), (bv, .inl (g.2.1.1, 24, .inl cv)), (br, .inl (g.2.1.1, 24, .inl cr)), (a_s, .inl (g.2.1.1, 4, .inl fS)), (a_t, .inl (g.2.1.1, 5, .inl fT)), (g1, .inl (g.2.1.1, 152, .inl y1)), (g2, .inl (g.2.1.1, 152, .inl y2)), (g3, .inl (g.2.1.1, 152, .inl y3)), (pa, .inl (g.2.1.1, 152, .inl fp))] (p_X7_countPages g h zth zl1 zl2 zl3 zl4 zpb zln zat zrk zrv zre zwr zrm zrs zis zss zsc ak av bk bv br a_s a_t g1 g2 g3 pa ru tx dk dv ek ev er es et nA fk fv nB ck cv cr fS fT mS y1 y2 y3 M C S T fp P) := by
  refine kbodyI (cc := cX7_countPages) (n := 5) (k := 12) (own := RX7) (plainFor_of_name (by decide)) rfl rfl rfl rfl ?_
  intro p e s m below meth cd A ls hcx
  obtain ⟨hx, hb, hRt, hml, hts, hown, hlk, hA, hP, hK, hD, hE, hS, hl⟩ := hcx
  have hl : lv_has ls 5 [(0, .ref h)] := hl
  obtain ⟨hMM, hS4, hT5, hKS, hSGm⟩ := id hMX
  obtain ⟨⟨hM, hC⟩, ⟨hnM, hnC⟩, ⟨hIM, hIC⟩, hlen, hrem⟩ := id hMM
  have hsM : kSo (EL nA fk fv fz0) := by rw [hM]; exact hIM.1
  have hsC : kSo (EL nB ck cv cr) := by rw [hC]; exact hIC.1
  have hnl : nA = M.length := by rw [← hM, EL_len]
  have hcl : nB = C.length := by rw [← hC, EL_len]
  obtain ⟨⟨hS01, hS02⟩, ⟨hS11, hS12⟩, ⟨hS21, hS22⟩, ⟨hS31, hS32⟩⟩ := id hKS
  obtain ⟨v2, v3, hSG⟩ := hSGm
  obtain ⟨hmL, hseg⟩ := SG_seg hSG
  have hasc := kap_asc hM hIM
  have hsl : (ksegs M S).length ≤ M.length - 0 := sg_len (hnl ▸ hasc) (by omega) ⟨by omega, by omega⟩ _ _
  obtain ⟨sp, hsp⟩ : ∃ s : Nat, s = (S 2).toInt.toNat := ⟨_, rfl⟩
  have hs0 : 0 < sp := by omega
  have hs16 : sp ≤ 16 := by omega
  refine lv_iconst (v := 0) hx hb dX7_countPages_0 (by decide) ?_
  rw [show (0 : Int32) = nI (dst sp (P.take 0)) from rfl]
  refine lv_istore_n (lv' := [(1, .int (nI (dst sp (P.take 0)))), (0, .ref h)]) hx hb dX7_countPages_1 rfl hl (by decide) rfl (fun ls hl => ?_)
  refine lv_iconst (v := 0) hx hb dX7_countPages_2 (by decide) ?_
  refine lv_istore_n (lv' := [(2, .int 0), (1, .int (nI (dst sp (P.take 0)))), (0, .ref h)]) hx hb dX7_countPages_3 rfl hl (by decide) rfl (fun ls hl => ?_)
  have L4 : ∀ (n9 : Nat) (i : Nat) (H : Heap) (locs : List Loc) (ls : Array Slot), (i ≤ P.length) → P.length - i < n9 → va_P g.1 vwCl [(h, .inr (9, [.int zth, .int (nI nA), .int (nI nB), .ref ak, .ref av, .ref bk, .ref bv, .ref br, .ref a_s, .ref a_t, .int (nI mS), .ref g1, .ref g2, .ref g3, .long zl1, .long zl2, .long zl3, .long zl4, .int (nI P.length), .ref pa, .ref ru, .ref tx, .int zln, .int zat, .int zrk, .int zrv, .int zre, .int zwr, .int zrm, .int zrs, .int zis, .int zss, .int zsc, .ref dk, .ref dv, .ref ek, .ref ev, .ref er, .ref es, .ref et])), (ak, .inl (g.2.1.1, 152, .inl fk)), (av, .inl (g.2.1.1, 152, .inl fv)), (bk, .inl (g.2.1.1, 24, .inl ck)), (bv, .inl (g.2.1.1, 24, .inl cv)), (br, .inl (g.2.1.1, 24, .inl cr)), (a_s, .inl (g.2.1.1, 4, .inl fS)), (a_t, .inl (g.2.1.1, 5, .inl fT)), (g1, .inl (g.2.1.1, 152, .inl y1)), (g2, .inl (g.2.1.1, 152, .inl y2)), (g3, .inl (g.2.1.1, 152, .inl y3)), (pa, .inl (g.2.1.1, 152, .inl fp))] H → va_D A [(h, .inr (9, [.int zth, .int (nI nA), .int (nI nB), .ref ak, .ref av, .ref bk, .ref bv, .ref br, .ref a_s, .ref a_t, .int (nI mS), .ref g1, .ref g2, .ref g3, .long zl1, .long zl2, .long zl3, .long zl4, .int (nI P.length), .ref pa, .ref ru, .ref tx, .int zln, .int zat, .int zrk, .int zrv, .int zre, .int zwr, .int zrm, .int zrs, .int zis, .int zss, .int zsc, .ref dk, .ref dv, .ref ek, .ref ev, .ref er, .ref es, .ref et])), (ak, .inl (g.2.1.1, 152, .inl fk)), (av, .inl (g.2.1.1, 152, .inl fv)), (bk, .inl (g.2.1.1, 24, .inl ck)), (bv, .inl (g.2.1.1, 24, .inl cv)), (br, .inl (g.2.1.1, 24, .inl cr)), (a_s, .inl (g.2.1.1, 4, .inl fS)), (a_t, .inl (g.2.1.1, 5, .inl fT)), (g1, .inl (g.2.1.1, 152, .inl y1)), (g2, .inl (g.2.1.1, 152, .inl y2)), (g3, .inl (g.2.1.1, 152, .inl y3)), (pa, .inl (g.2.1.1, 152, .inl fp))] → va_S A s.heap H locs → lv_has ls 5 [(2, .int (nI i)), (1, .int (nI (dst sp (P.take i)))), (0, .ref h)] → W p l e rm_X7_countPages s m ([.ref h] : List Value).toArray below meth cd H locs 0 0 (kQi g 12 A (p_X7_countPages g h zth zl1 zl2 zl3 zl4 zpb zln zat zrk zrv zre zwr zrm zrs zis zss zsc ak av bk bv br a_s a_t g1 g2 g3 pa ru tx dk dv ek ev er es et nA fk fv nB ck cv cr fS fT mS y1 y2 y3 M C S T fp P) below ([.ref h] : List Value).toArray s) (F0 m 4 ls []) := by
    intro n9
    induction n9 with
    | zero => intro i H locs ls hi h9; exact absurd h9 (Nat.not_lt_zero _)
    | succ n9 ih4 =>
      intro i H locs ls hi hn4 hP hD hS hl
      refine lv_iload_n hx hb dX7_countPages_4 rfl (lv_at hl 0 rfl) ?_
      refine lv_aload_n hx hb dX7_countPages_5 rfl (lv_at hl 2 rfl) ?_
      refine va_get (D := g.1) (ci := 9) (v := .int (nI P.length)) (C := RX7) (T := TX7) (N := 40) hx hb hts (by decide +kernel) hown hK hP 0 rfl rfl 18 (by decide) (hts (.fieldLink RX7 182 "LearnedIndexModel" "probed" "I") (by decide +kernel)) (fun _ h9 => h9) rfl dX7_countPages_6 ?_
      refine lv_icmp_ge (tgt := 85) hx hb dX7_countPages_9 (by decide) (fun c_9 => ?_) (fun c_9 => ?_)
      · skip
        have hin : P.length ≤ i := kg (by omega) (by omega) c_9
        refine lv_iload_n hx hb dX7_countPages_85 rfl (lv_at hl 1 rfl) ?_
        exact kreti hx hb hRt hlk hK hP hD hS rfl dX7_countPages_86 (⟨by rw [List.take_of_length_le hin, hsp], rfl⟩)
      · skip
        have hin : i < P.length := kl (by omega) (by omega) c_9
        have hi9 := pAt_lt hpb.2 hin
        refine lv_iconst (v := 1) hx hb dX7_countPages_12 (by decide) ?_
        rw [show (1 : Int32) = pgN sp P i 0 from (pgN_0 sp P i).symm]
        refine lv_istore_n (lv' := [(3, .int (pgN sp P i 0)), (2, .int (nI i)), (1, .int (nI (dst sp (P.take i)))), (0, .ref h)]) hx hb dX7_countPages_13 rfl hl (by decide) rfl (fun ls hl => ?_)
        refine lv_iconst (v := 0) hx hb dX7_countPages_14 (by decide) ?_
        refine lv_istore (lv' := [(4, .int 0), (3, .int (pgN sp P i 0)), (2, .int (nI i)), (1, .int (nI (dst sp (P.take i)))), (0, .ref h)]) hx hb dX7_countPages_15 hl (by decide) rfl (fun ls hl => ?_)
        have L17 : ∀ (n9 : Nat) (j : Nat) (H : Heap) (locs : List Loc) (ls : Array Slot), (j ≤ i) → i - j < n9 → va_P g.1 vwCl [(h, .inr (9, [.int zth, .int (nI nA), .int (nI nB), .ref ak, .ref av, .ref bk, .ref bv, .ref br, .ref a_s, .ref a_t, .int (nI mS), .ref g1, .ref g2, .ref g3, .long zl1, .long zl2, .long zl3, .long zl4, .int (nI P.length), .ref pa, .ref ru, .ref tx, .int zln, .int zat, .int zrk, .int zrv, .int zre, .int zwr, .int zrm, .int zrs, .int zis, .int zss, .int zsc, .ref dk, .ref dv, .ref ek, .ref ev, .ref er, .ref es, .ref et])), (ak, .inl (g.2.1.1, 152, .inl fk)), (av, .inl (g.2.1.1, 152, .inl fv)), (bk, .inl (g.2.1.1, 24, .inl ck)), (bv, .inl (g.2.1.1, 24, .inl cv)), (br, .inl (g.2.1.1, 24, .inl cr)), (a_s, .inl (g.2.1.1, 4, .inl fS)), (a_t, .inl (g.2.1.1, 5, .inl fT)), (g1, .inl (g.2.1.1, 152, .inl y1)), (g2, .inl (g.2.1.1, 152, .inl y2)), (g3, .inl (g.2.1.1, 152, .inl y3)), (pa, .inl (g.2.1.1, 152, .inl fp))] H → va_D A [(h, .inr (9, [.int zth, .int (nI nA), .int (nI nB), .ref ak, .ref av, .ref bk, .ref bv, .ref br, .ref a_s, .ref a_t, .int (nI mS), .ref g1, .ref g2, .ref g3, .long zl1, .long zl2, .long zl3, .long zl4, .int (nI P.length), .ref pa, .ref ru, .ref tx, .int zln, .int zat, .int zrk, .int zrv, .int zre, .int zwr, .int zrm, .int zrs, .int zis, .int zss, .int zsc, .ref dk, .ref dv, .ref ek, .ref ev, .ref er, .ref es, .ref et])), (ak, .inl (g.2.1.1, 152, .inl fk)), (av, .inl (g.2.1.1, 152, .inl fv)), (bk, .inl (g.2.1.1, 24, .inl ck)), (bv, .inl (g.2.1.1, 24, .inl cv)), (br, .inl (g.2.1.1, 24, .inl cr)), (a_s, .inl (g.2.1.1, 4, .inl fS)), (a_t, .inl (g.2.1.1, 5, .inl fT)), (g1, .inl (g.2.1.1, 152, .inl y1)), (g2, .inl (g.2.1.1, 152, .inl y2)), (g3, .inl (g.2.1.1, 152, .inl y3)), (pa, .inl (g.2.1.1, 152, .inl fp))] → va_S A s.heap H locs → lv_has ls 5 [(4, .int (nI j)), (3, .int (pgN sp P i j)), (2, .int (nI i)), (1, .int (nI (dst sp (P.take i)))), (0, .ref h)] → W p l e rm_X7_countPages s m ([.ref h] : List Value).toArray below meth cd H locs 0 0 (kQi g 12 A (p_X7_countPages g h zth zl1 zl2 zl3 zl4 zpb zln zat zrk zrv zre zwr zrm zrs zis zss zsc ak av bk bv br a_s a_t g1 g2 g3 pa ru tx dk dv ek ev er es et nA fk fv nB ck cv cr fS fT mS y1 y2 y3 M C S T fp P) below ([.ref h] : List Value).toArray s) (F0 m 17 ls []) := by
          intro n9
          induction n9 with
          | zero => intro j H locs ls hj h9; exact absurd h9 (Nat.not_lt_zero _)
          | succ n9 ih17 =>
            intro j H locs ls hj hn17 hP hD hS hl
            refine lv_iload hx hb dX7_countPages_17 (lv_at hl 0 rfl) ?_
            refine lv_iload_n hx hb dX7_countPages_19 rfl (lv_at hl 2 rfl) ?_
            refine lv_icmp_ge (tgt := 67) hx hb dX7_countPages_20 (by decide) (fun c_20 => ?_) (fun c_20 => ?_)
            · skip
              have hji : i ≤ j := kg (by omega) (by omega) c_20
              have hje : j = i := by omega
              refine lv_iload_n hx hb dX7_countPages_67 rfl (lv_at hl 3 rfl) ?_
              refine lv_iload_n hx hb dX7_countPages_68 rfl (lv_at hl 1 rfl) ?_
              refine lv_if_eq (tgt := 76) hx hb dX7_countPages_69 (by decide) (fun c_69 => ?_) (fun c_69 => ?_)
              · skip
                rw [hje] at c_69
                have hds := dst_yes hin c_69
                refine lv_iconst (v := 0) hx hb dX7_countPages_76 (by decide) ?_
                refine lv_iadd hx hb dX7_countPages_77 ?_
                rw [show ((nI (dst sp (P.take i))) + 0 : Int32) = nI (dst sp (P.take (i + 1))) from by rw [hds]; exact kIz _]
                refine lv_istore_n (lv' := [(1, .int (nI (dst sp (P.take (i + 1))))), (4, .int (nI j)), (3, .int (pgN sp P i j)), (2, .int (nI i)), (0, .ref h)]) hx hb dX7_countPages_78 rfl hl (by decide) rfl (fun ls hl => ?_)
                refine lv_iinc (v := nI (i + 1)) (lv' := [(2, .int (nI (i + 1))), (1, .int (nI (dst sp (P.take (i + 1))))), (4, .int (nI j)), (3, .int (pgN sp P i j)), (0, .ref h)]) hx hb dX7_countPages_79 hl (k := 3) rfl (nI_1 i) (by decide) rfl (fun ls hl => ?_)
                refine lv_goto (tgt := 4) hx hb dX7_countPages_82 (by decide) ?_
                exact ih4 (i + 1) _ _ ls hin (by omega) hP hD hS (lv_sub hl [0, 1, 4] rfl)
              · skip
                rw [hje] at c_69
                have hds := dst_no hin c_69
                refine lv_iconst (v := 1) hx hb dX7_countPages_72 (by decide) ?_
                refine lv_goto (tgt := 77) hx hb dX7_countPages_73 (by decide) ?_
                refine lv_iadd hx hb dX7_countPages_77 ?_
                rw [show (nI (dst sp (P.take i))) + 1 = nI (dst sp (P.take i) + 1) from nI_1 (dst sp (P.take i))]
                rw [show (nI (dst sp (P.take i) + 1) : Int32) = nI (dst sp (P.take (i + 1))) from by rw [hds]]
                refine lv_istore_n (lv' := [(1, .int (nI (dst sp (P.take (i + 1))))), (4, .int (nI j)), (3, .int (pgN sp P i j)), (2, .int (nI i)), (0, .ref h)]) hx hb dX7_countPages_78 rfl hl (by decide) rfl (fun ls hl => ?_)
                refine lv_iinc (v := nI (i + 1)) (lv' := [(2, .int (nI (i + 1))), (1, .int (nI (dst sp (P.take (i + 1))))), (4, .int (nI j)), (3, .int (pgN sp P i j)), (0, .ref h)]) hx hb dX7_countPages_79 hl (k := 3) rfl (nI_1 i) (by decide) rfl (fun ls hl => ?_)
                refine lv_goto (tgt := 4) hx hb dX7_countPages_82 (by decide) ?_
                exact ih4 (i + 1) _ _ ls hin (by omega) hP hD hS (lv_sub hl [0, 1, 4] rfl)
            · skip
              have hji : j < i := kl (by omega) (by omega) c_20
              have hj9 := pAt_lt hpb.2 (show j < P.length by omega)
              refine lv_iload_n hx hb dX7_countPages_23 rfl (lv_at hl 1 rfl) ?_
              refine lv_aload_n hx hb dX7_countPages_24 rfl (lv_at hl 4 rfl) ?_
              refine va_get (D := g.1) (ci := 9) (v := .ref pa) (C := RX7) (T := TX7) (N := 40) hx hb hts (by decide +kernel) hown hK hP 0 rfl rfl 19 (by decide) (hts (.fieldLink RX7 40 "LearnedIndexModel" "probedAt" "[I") (by decide +kernel)) (fun _ h9 => h9) rfl dX7_countPages_25 ?_
              refine lv_iload hx hb dX7_countPages_28 (lv_at hl 0 rfl) ?_
              refine va_iald hx hb hK hP 11 0 rfl rfl (vp_in_nI (show j < 152 by omega) (by omega)) dX7_countPages_30 ?_
              rw [show (nI j : Int32).toNatClampNeg = j from nI_clamp (n := j) (by omega)]
              rw [show (fp j : Int32) = nI (pAt P j) from hpr j (by omega)]
              refine lv_aload_n hx hb dX7_countPages_31 rfl (lv_at hl 4 rfl) ?_
              refine va_get (D := g.1) (ci := 9) (v := .ref a_s) (C := RX7) (T := TX7) (N := 40) hx hb hts (by decide +kernel) hown hK hP 0 rfl rfl 8 (by decide) (hts (.fieldLink RX7 25 "LearnedIndexModel" "settings" "[I") (by decide +kernel)) (fun _ h9 => h9) rfl dX7_countPages_32 ?_
              refine lv_iconst (v := 2) hx hb dX7_countPages_35 (by decide) ?_
              refine va_iald hx hb hK hP 6 0 rfl rfl (show vp_in 2 4 from vp_in_nI (n := 2) (by omega) (by omega)) dX7_countPages_36 ?_
              rw [show (2 : Int32).toNatClampNeg = 2 from nI_clamp (n := 2) (by omega)]
              rw [show (fS 2 : Int32) = nI sp from by rw [hS4 2 (by decide), hsp, ← kI_tn (by omega)]; exact kI_of _]
              refine lv_idiv hx hb dX7_countPages_37 (nI_ne0 hs0 (by omega)) ?_
              rw [show ((nI (pAt P j)) / (nI sp) : Int32) = nI (pAt P j / sp) from pk_div (by omega) hs0 (by omega)]
              refine lv_aload_n hx hb dX7_countPages_38 rfl (lv_at hl 4 rfl) ?_
              refine va_get (D := g.1) (ci := 9) (v := .ref pa) (C := RX7) (T := TX7) (N := 40) hx hb hts (by decide +kernel) hown hK hP 0 rfl rfl 19 (by decide) (hts (.fieldLink RX7 40 "LearnedIndexModel" "probedAt" "[I") (by decide +kernel)) (fun _ h9 => h9) rfl dX7_countPages_39 ?_
              refine lv_iload_n hx hb dX7_countPages_42 rfl (lv_at hl 2 rfl) ?_
              refine va_iald hx hb hK hP 11 0 rfl rfl (vp_in_nI (show i < 152 by omega) (by omega)) dX7_countPages_43 ?_
              rw [show (nI i : Int32).toNatClampNeg = i from nI_clamp (n := i) (by omega)]
              rw [show (fp i : Int32) = nI (pAt P i) from hpr i hin]
              refine lv_aload_n hx hb dX7_countPages_44 rfl (lv_at hl 4 rfl) ?_
              refine va_get (D := g.1) (ci := 9) (v := .ref a_s) (C := RX7) (T := TX7) (N := 40) hx hb hts (by decide +kernel) hown hK hP 0 rfl rfl 8 (by decide) (hts (.fieldLink RX7 25 "LearnedIndexModel" "settings" "[I") (by decide +kernel)) (fun _ h9 => h9) rfl dX7_countPages_45 ?_
              refine lv_iconst (v := 2) hx hb dX7_countPages_48 (by decide) ?_
              refine va_iald hx hb hK hP 6 0 rfl rfl (show vp_in 2 4 from vp_in_nI (n := 2) (by omega) (by omega)) dX7_countPages_49 ?_
              rw [show (2 : Int32).toNatClampNeg = 2 from nI_clamp (n := 2) (by omega)]
              rw [show (fS 2 : Int32) = nI sp from by rw [hS4 2 (by decide), hsp, ← kI_tn (by omega)]; exact kI_of _]
              refine lv_idiv hx hb dX7_countPages_50 (nI_ne0 hs0 (by omega)) ?_
              have hdb1 := Nat.div_le_self (pAt P j) sp
              have hdb2 := Nat.div_le_self (pAt P i) sp
              rw [show ((nI (pAt P i)) / (nI sp) : Int32) = nI (pAt P i / sp) from pk_div (by omega) hs0 (by omega)]
              refine lv_icmp_eq (tgt := 58) hx hb dX7_countPages_51 (by decide) (fun c_51 => ?_) (fun c_51 => ?_)
              · skip
                have hpg := pgN_yes (show j < P.length by omega) (nI_injs (by omega) (by omega) c_51)
                refine lv_iconst (v := 0) hx hb dX7_countPages_58 (by decide) ?_
                refine lv_iand hx hb dX7_countPages_59 ?_
                rw [show ((pgN sp P i j) &&& 0 : Int32) = pgN sp P i (j + 1) from hpg]
                refine lv_istore_n (lv' := [(3, .int (pgN sp P i (j + 1))), (4, .int (nI j)), (2, .int (nI i)), (1, .int (nI (dst sp (P.take i)))), (0, .ref h)]) hx hb dX7_countPages_60 rfl hl (by decide) rfl (fun ls hl => ?_)
                refine lv_iinc (v := nI (j + 1)) (lv' := [(4, .int (nI (j + 1))), (3, .int (pgN sp P i (j + 1))), (2, .int (nI i)), (1, .int (nI (dst sp (P.take i)))), (0, .ref h)]) hx hb dX7_countPages_61 hl (k := 1) rfl (nI_1 j) (by decide) rfl (fun ls hl => ?_)
                refine lv_goto (tgt := 17) hx hb dX7_countPages_64 (by decide) ?_
                exact ih17 (j + 1) _ _ ls hji (by omega) hP hD hS (lv_sub hl [0, 1, 2, 3, 4] rfl)
              · skip
                have hpg := pgN_no (s := sp) (P := P) (i := i) (show j < P.length by omega) (fun z => c_51 (by rw [z]))
                refine lv_iconst (v := 1) hx hb dX7_countPages_54 (by decide) ?_
                refine lv_goto (tgt := 59) hx hb dX7_countPages_55 (by decide) ?_
                refine lv_iand hx hb dX7_countPages_59 ?_
                rw [show ((pgN sp P i j) &&& 1 : Int32) = pgN sp P i (j + 1) from hpg]
                refine lv_istore_n (lv' := [(3, .int (pgN sp P i (j + 1))), (4, .int (nI j)), (2, .int (nI i)), (1, .int (nI (dst sp (P.take i)))), (0, .ref h)]) hx hb dX7_countPages_60 rfl hl (by decide) rfl (fun ls hl => ?_)
                refine lv_iinc (v := nI (j + 1)) (lv' := [(4, .int (nI (j + 1))), (3, .int (pgN sp P i (j + 1))), (2, .int (nI i)), (1, .int (nI (dst sp (P.take i)))), (0, .ref h)]) hx hb dX7_countPages_61 hl (k := 1) rfl (nI_1 j) (by decide) rfl (fun ls hl => ?_)
                refine lv_goto (tgt := 17) hx hb dX7_countPages_64 (by decide) ?_
                exact ih17 (j + 1) _ _ ls hji (by omega) hP hD hS (lv_sub hl [0, 1, 2, 3, 4] rfl)
        exact L17 _ 0 _ _ ls (Nat.zero_le _) (Nat.lt_succ_self _) hP hD hS (lv_sub hl [0, 1, 2, 3, 4] rfl)
  exact L4 _ 0 _ _ ls (Nat.zero_le _) (Nat.lt_succ_self _) hP hD hS (lv_sub hl [0, 1, 2] rfl)
