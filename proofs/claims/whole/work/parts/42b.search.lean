set_option maxRecDepth 20000 in
theorem ggX7_search_X7_windowBegin : GoodIn wsX7_search wsX7_windowBegin := goodIn_ca (goodIn_ca (goodIn_r _ [9, 10, 11, 12, 13, 14, 8, 15, 16, 4, 17, 18, 19, 20, 21, 22, 23, 24, 25, 26, 27, 28, 29, 2, 34, 35, 36, 37, 38, 39, 40, 41, 42, 43, 44, 45, 46, 47, 48, 49, 50, 51, 52, 53, 54, 55, 56, 57, 58, 59, 60, 61, 62, 63, 64, 65, 66, 67, 68, 69, 70, 71, 72, 73] (by decide +kernel) (by decide +kernel)) (goodIn_sub (fun _ h => List.mem_cons_of_mem _ (List.mem_append_left _ (List.mem_append_right _ h))) (by decide +kernel))) (goodIn_sub (fun _ h => List.mem_cons_of_mem _ (List.mem_append_right _ h)) (by decide +kernel))
set_option maxRecDepth 20000 in
theorem gX7_search_X7_windowBegin : GoodIn wsX7_search (wsV RX7 185 RX7 yX7_windowBegin wsX7_windowBegin) := goodIn_app (goodIn_of _ (by decide +kernel)) ggX7_search_X7_windowBegin
set_option maxRecDepth 20000 in
theorem ggX7_search_X7_windowEnd : GoodIn wsX7_search wsX7_windowEnd := goodIn_ca (goodIn_ca (goodIn_r _ [33, 10, 12, 13, 14, 8, 15, 11, 16, 4, 17, 18, 19, 20, 21, 22, 23, 24, 25, 26, 27, 28, 29, 2, 34, 35, 36, 37, 38, 39, 40, 41, 42, 43, 44, 45, 46, 47, 48, 49, 50, 51, 52, 53, 54, 55, 56, 57, 58, 59, 60, 61, 62, 63, 64, 65, 66, 67, 68, 69, 70, 71, 72, 73] (by decide +kernel) (by decide +kernel)) (goodIn_sub (fun _ h => List.mem_cons_of_mem _ (List.mem_append_left _ (List.mem_append_right _ h))) (by decide +kernel))) (goodIn_sub (fun _ h => List.mem_cons_of_mem _ (List.mem_append_right _ h)) (by decide +kernel))
set_option maxRecDepth 20000 in
theorem gX7_search_X7_windowEnd : GoodIn wsX7_search (wsV RX7 188 RX7 yX7_windowEnd wsX7_windowEnd) := goodIn_app (goodIn_of _ (by decide +kernel)) ggX7_search_X7_windowEnd
theorem dX7_search_0 : decode cX7_search 0 = .ok (.aload_n 0, 1) := by decide +kernel
theorem dX7_search_1 : decode cX7_search 1 = .ok (.iconst 0, 1) := by decide +kernel
theorem dX7_search_2 : decode cX7_search 2 = .ok (.putfield 182, 3) := by decide +kernel
theorem dX7_search_5 : decode cX7_search 5 = .ok (.aload_n 0, 1) := by decide +kernel
theorem dX7_search_6 : decode cX7_search 6 = .ok (.getfield 79, 3) := by decide +kernel
theorem dX7_search_9 : decode cX7_search 9 = .ok (.ifCond .ne 4, 3) := by decide +kernel
theorem dX7_search_12 : decode cX7_search 12 = .ok (.return_, 1) := by decide +kernel
theorem dX7_search_13 : decode cX7_search 13 = .ok (.aload_n 0, 1) := by decide +kernel
theorem dX7_search_14 : decode cX7_search 14 = .ok (.iload_n 1, 1) := by decide +kernel
theorem dX7_search_15 : decode cX7_search 15 = .ok (.invokevirtual 185, 3) := by decide +kernel
theorem dX7_search_18 : decode cX7_search 18 = .ok (.istore_n 2, 1) := by decide +kernel
theorem dX7_search_19 : decode cX7_search 19 = .ok (.aload_n 0, 1) := by decide +kernel
theorem dX7_search_20 : decode cX7_search 20 = .ok (.iload_n 1, 1) := by decide +kernel
theorem dX7_search_21 : decode cX7_search 21 = .ok (.invokevirtual 188, 3) := by decide +kernel
theorem dX7_search_24 : decode cX7_search 24 = .ok (.istore_n 3, 1) := by decide +kernel
theorem dX7_search_25 : decode cX7_search 25 = .ok (.iload_n 2, 1) := by decide +kernel
theorem dX7_search_26 : decode cX7_search 26 = .ok (.iload_n 3, 1) := by decide +kernel
theorem dX7_search_27 : decode cX7_search 27 = .ok (.if_icmp .gt 70, 3) := by decide +kernel
theorem dX7_search_30 : decode cX7_search 30 = .ok (.iload_n 2, 1) := by decide +kernel
theorem dX7_search_31 : decode cX7_search 31 = .ok (.iload_n 3, 1) := by decide +kernel
theorem dX7_search_32 : decode cX7_search 32 = .ok (.iadd, 1) := by decide +kernel
theorem dX7_search_33 : decode cX7_search 33 = .ok (.iconst 2, 1) := by decide +kernel
theorem dX7_search_34 : decode cX7_search 34 = .ok (.idiv, 1) := by decide +kernel
theorem dX7_search_35 : decode cX7_search 35 = .ok (.istore 4, 2) := by decide +kernel
theorem dX7_search_37 : decode cX7_search 37 = .ok (.aload_n 0, 1) := by decide +kernel
theorem dX7_search_38 : decode cX7_search 38 = .ok (.getfield 40, 3) := by decide +kernel
theorem dX7_search_41 : decode cX7_search 41 = .ok (.aload_n 0, 1) := by decide +kernel
theorem dX7_search_42 : decode cX7_search 42 = .ok (.getfield 182, 3) := by decide +kernel
theorem dX7_search_45 : decode cX7_search 45 = .ok (.iload 4, 2) := by decide +kernel
theorem dX7_search_47 : decode cX7_search 47 = .ok (.iastore, 1) := by decide +kernel
theorem dX7_search_48 : decode cX7_search 48 = .ok (.aload_n 0, 1) := by decide +kernel
theorem dX7_search_49 : decode cX7_search 49 = .ok (.dup, 1) := by decide +kernel
theorem dX7_search_50 : decode cX7_search 50 = .ok (.getfield 182, 3) := by decide +kernel
theorem dX7_search_53 : decode cX7_search 53 = .ok (.iconst 1, 1) := by decide +kernel
theorem dX7_search_54 : decode cX7_search 54 = .ok (.iadd, 1) := by decide +kernel
theorem dX7_search_55 : decode cX7_search 55 = .ok (.putfield 182, 3) := by decide +kernel
theorem dX7_search_58 : decode cX7_search 58 = .ok (.aload_n 0, 1) := by decide +kernel
theorem dX7_search_59 : decode cX7_search 59 = .ok (.getfield 9, 3) := by decide +kernel
theorem dX7_search_62 : decode cX7_search 62 = .ok (.iload 4, 2) := by decide +kernel
theorem dX7_search_64 : decode cX7_search 64 = .ok (.iaload, 1) := by decide +kernel
theorem dX7_search_65 : decode cX7_search 65 = .ok (.iload_n 1, 1) := by decide +kernel
theorem dX7_search_66 : decode cX7_search 66 = .ok (.if_icmp .ne 4, 3) := by decide +kernel
theorem dX7_search_69 : decode cX7_search 69 = .ok (.return_, 1) := by decide +kernel
theorem dX7_search_70 : decode cX7_search 70 = .ok (.aload_n 0, 1) := by decide +kernel
theorem dX7_search_71 : decode cX7_search 71 = .ok (.getfield 9, 3) := by decide +kernel
theorem dX7_search_74 : decode cX7_search 74 = .ok (.iload 4, 2) := by decide +kernel
theorem dX7_search_76 : decode cX7_search 76 = .ok (.iaload, 1) := by decide +kernel
theorem dX7_search_77 : decode cX7_search 77 = .ok (.iload_n 1, 1) := by decide +kernel
theorem dX7_search_78 : decode cX7_search 78 = .ok (.if_icmp .ge 11, 3) := by decide +kernel
theorem dX7_search_81 : decode cX7_search 81 = .ok (.iload 4, 2) := by decide +kernel
theorem dX7_search_83 : decode cX7_search 83 = .ok (.iconst 1, 1) := by decide +kernel
theorem dX7_search_84 : decode cX7_search 84 = .ok (.iadd, 1) := by decide +kernel
theorem dX7_search_85 : decode cX7_search 85 = .ok (.istore_n 2, 1) := by decide +kernel
theorem dX7_search_86 : decode cX7_search 86 = .ok (.goto 8, 3) := by decide +kernel
theorem dX7_search_89 : decode cX7_search 89 = .ok (.iload 4, 2) := by decide +kernel
theorem dX7_search_91 : decode cX7_search 91 = .ok (.iconst 1, 1) := by decide +kernel
theorem dX7_search_92 : decode cX7_search 92 = .ok (.isub, 1) := by decide +kernel
theorem dX7_search_93 : decode cX7_search 93 = .ok (.istore_n 3, 1) := by decide +kernel
theorem dX7_search_94 : decode cX7_search 94 = .ok (.goto (-69), 3) := by decide +kernel
theorem dX7_search_97 : decode cX7_search 97 = .ok (.return_, 1) := by decide +kernel
def rm_X7_search : Room := { frames := 3, cells := 0, slots := 0, locals := 73 }
abbrev p_X7_search (g : kG) (h : Nat) (zth : Int32) (zl1 : Int64) (zl2 : Int64) (zl3 : Int64) (zl4 : Int64) (zpb : Int32) (zln : Int32) (zat : Int32) (zrk : Int32) (zrv : Int32) (zre : Int32) (zwr : Int32) (zrm : Int32) (zrs : Int32) (zis : Int32) (zss : Int32) (zsc : Int32) (ak : Nat) (av : Nat) (bk : Nat) (bv : Nat) (br : Nat) (a_s : Nat) (a_t : Nat) (g1 : Nat) (g2 : Nat) (g3 : Nat) (pa : Nat) (ru : Nat) (tx : Nat) (dk : Nat) (dv : Nat) (ek : Nat) (ev : Nat) (er : Nat) (es : Nat) (et : Nat) (nA : Nat) (fk : Nat → Int32) (fv : Nat → Int32) (nB : Nat) (ck : Nat → Int32) (cv : Nat → Int32) (cr : Nat → Int32) (fS : Nat → Int32) (fT : Nat → Int32) (mS : Nat) (y1 : Nat → Int32) (y2 : Nat → Int32) (y3 : Nat → Int32) (M : List kE3) (C : List kE3) (S : Nat → Int32) (T : Nat → Int32) (fp : Nat → Int32) (x : Int32) : va_W → Prop := fun w1 => ∃ (fp2 : Nat → Int32), (kPr fp2 (PBS M S x)) ∧ w1 = [(h, .inr (9, [.int zth, .int (nI nA), .int (nI nB), .ref ak, .ref av, .ref bk, .ref bv, .ref br, .ref a_s, .ref a_t, .int (nI mS), .ref g1, .ref g2, .ref g3, .long zl1, .long zl2, .long zl3, .long zl4, .int (nI (PBS M S x).length), .ref pa, .ref ru, .ref tx, .int zln, .int zat, .int zrk, .int zrv, .int zre, .int zwr, .int zrm, .int zrs, .int zis, .int zss, .int zsc, .ref dk, .ref dv, .ref ek, .ref ev, .ref er, .ref es, .ref et])), (ak, .inl (g.2.1.1, 152, .inl fk)), (av, .inl (g.2.1.1, 152, .inl fv)), (bk, .inl (g.2.1.1, 24, .inl ck)), (bv, .inl (g.2.1.1, 24, .inl cv)), (br, .inl (g.2.1.1, 24, .inl cr)), (a_s, .inl (g.2.1.1, 4, .inl fS)), (a_t, .inl (g.2.1.1, 5, .inl fT)), (g1, .inl (g.2.1.1, 152, .inl y1)), (g2, .inl (g.2.1.1, 152, .inl y2)), (g3, .inl (g.2.1.1, 152, .inl y3)), (pa, .inl (g.2.1.1, 152, .inl fp2))]
set_option maxHeartbeats 4000000 in
set_option maxRecDepth 100000 in
theorem c_X7_search (l : Launch) (g : kG) (h : Nat) (zth : Int32) (zl1 : Int64) (zl2 : Int64) (zl3 : Int64) (zl4 : Int64) (zpb : Int32) (zln : Int32) (zat : Int32) (zrk : Int32) (zrv : Int32) (zre : Int32) (zwr : Int32) (zrm : Int32) (zrs : Int32) (zis : Int32) (zss : Int32) (zsc : Int32) (ak : Nat) (av : Nat) (bk : Nat) (bv : Nat) (br : Nat) (a_s : Nat) (a_t : Nat) (g1 : Nat) (g2 : Nat) (g3 : Nat) (pa : Nat) (ru : Nat) (tx : Nat) (dk : Nat) (dv : Nat) (ek : Nat) (ev : Nat) (er : Nat) (es : Nat) (et : Nat) (nA : Nat) (fk : Nat → Int32) (fv : Nat → Int32) (nB : Nat) (ck : Nat → Int32) (cv : Nat → Int32) (cr : Nat → Int32) (fS : Nat → Int32) (fT : Nat → Int32) (mS : Nat) (y1 : Nat → Int32) (y2 : Nat → Int32) (y3 : Nat → Int32) (M : List kE3) (C : List kE3) (S : Nat → Int32) (T : Nat → Int32) (fp : Nat → Int32) (x : Int32) (hMX : kMX nA fk fv nB ck cv cr fS fT mS y1 y2 y3 M C S T) (hxr : 0 ≤ x.toInt ∧ x.toInt < 10000) : KV l yX7_search wsX7_search rm_X7_search g [.ref h, .int x] [(h, .inr (9, [.int zth, .int (nI nA), .int (nI nB), .ref ak, .ref av, .ref bk, .ref bv, .ref br, .ref a_s, .ref a_t, .int (nI mS), .ref g1, .ref g2, .ref g3, .long zl1, .long zl2, .long zl3, .long zl4, .int zpb, .ref pa, .ref ru, .ref tx, .int zln, .int zat, .int zrk, .int zrv, .int zre, .int zwr, .int zrm, .int zrs, .int zis, .int zss, .int zsc, .ref dk, .ref dv, .ref ek, .ref ev, .ref er, .ref es, .ref et])), (ak, .inl (g.2.1.1, 152, .inl fk)), (av, .inl (g.2.1.1, 152, .inl fv)), (bk, .inl (g.2.1.1, 24, .inl ck)), (bv, .inl (g.2.1.1, 24, .inl cv)), (br, .inl (g.2.1.1, 24, .inl cr)), (a_s, .inl (g.2.1.1, 4, .inl fS)), (a_t, .inl (g.2.1.1, 5, .inl fT)), (g1, .inl (g.2.1.1, 152, .inl y1)), (g2, .inl (g.2.1.1, 152, .inl y2)), (g3, .inl (g.2.1.1, 152, .inl y3)), (pa, .inl (g.2.1.1, 152, .inl fp))] (p_X7_search g h zth zl1 zl2 zl3 zl4 zpb zln zat zrk zrv zre zwr zrm zrs zis zss zsc ak av bk bv br a_s a_t g1 g2 g3 pa ru tx dk dv ek ev er es et nA fk fv nB ck cv cr fS fT mS y1 y2 y3 M C S T fp x) := by
  refine kbodyV (cc := cX7_search) (n := 5) (k := 12) (own := RX7) (plainFor_of_name (by decide)) rfl rfl rfl rfl ?_
  intro p e s m below meth cd A ls hcx
  obtain ⟨hx, hb, hRt, hml, hts, hown, hlk, hA, hP, hK, hD, hE, hS, hl⟩ := hcx
  have hl : lv_has ls 5 [(0, .ref h), (1, .int x)] := hl
  obtain ⟨hMM, hS4, hT5, hKS, hSGm⟩ := id hMX
  obtain ⟨⟨hM, hC⟩, ⟨hnM, hnC⟩, ⟨hIM, hIC⟩, hlen, hrem⟩ := id hMM
  have hsM : kSo (EL nA fk fv fz0) := by rw [hM]; exact hIM.1
  have hsC : kSo (EL nB ck cv cr) := by rw [hC]; exact hIC.1
  have hnl : nA = M.length := by rw [← hM, EL_len]
  have hcl : nB = C.length := by rw [← hC, EL_len]
  obtain ⟨⟨hS01, hS02⟩, ⟨hS11, hS12⟩, ⟨hS21, hS22⟩, ⟨hS31, hS32⟩⟩ := id hKS
  obtain ⟨v2, v3, hSG⟩ := hSGm
  obtain ⟨hmL, hseg⟩ := SG_seg hSG
  have hasc := kap_asc hM hIM
  have hsl : (ksegs M S).length ≤ M.length - 0 := sg_len (hnl ▸ hasc) (by omega) ⟨by omega, by omega⟩ _ _
  refine lv_aload_n hx hb dX7_search_0 rfl (lv_at hl 0 rfl) ?_
  refine lv_iconst (v := 0) hx hb dX7_search_1 (by decide) ?_
  rw [show (0 : Int32) = nI (List.length ([] : List Nat)) from rfl]
  refine va_put (D := g.1) (ci := 9) (v := .int (nI (List.length ([] : List Nat)))) (ty := .int) (C := RX7) (T := TX7) (N := 40) hx hb hts (by decide +kernel) tyX7 tyX7_ok nmX7 hown hK hP hD hS 0 rfl rfl 18 (by decide) (hts (.fieldLink RX7 182 "LearnedIndexModel" "probed" "I") (by decide +kernel)) (fun _ h9 => h9) rfl (by decide +kernel) rfl rfl (Nat.le_of_ble_eq_true rfl) dX7_search_2 (fun H locs hP hD hS => ?_)
  have hP : va_P g.1 vwCl [(h, .inr (9, [.int zth, .int (nI nA), .int (nI nB), .ref ak, .ref av, .ref bk, .ref bv, .ref br, .ref a_s, .ref a_t, .int (nI mS), .ref g1, .ref g2, .ref g3, .long zl1, .long zl2, .long zl3, .long zl4, .int (nI (List.length ([] : List Nat))), .ref pa, .ref ru, .ref tx, .int zln, .int zat, .int zrk, .int zrv, .int zre, .int zwr, .int zrm, .int zrs, .int zis, .int zss, .int zsc, .ref dk, .ref dv, .ref ek, .ref ev, .ref er, .ref es, .ref et])), (ak, .inl (g.2.1.1, 152, .inl fk)), (av, .inl (g.2.1.1, 152, .inl fv)), (bk, .inl (g.2.1.1, 24, .inl ck)), (bv, .inl (g.2.1.1, 24, .inl cv)), (br, .inl (g.2.1.1, 24, .inl cr)), (a_s, .inl (g.2.1.1, 4, .inl fS)), (a_t, .inl (g.2.1.1, 5, .inl fT)), (g1, .inl (g.2.1.1, 152, .inl y1)), (g2, .inl (g.2.1.1, 152, .inl y2)), (g3, .inl (g.2.1.1, 152, .inl y3)), (pa, .inl (g.2.1.1, 152, .inl fp))] H := hP
  have hD : va_D A [(h, .inr (9, [.int zth, .int (nI nA), .int (nI nB), .ref ak, .ref av, .ref bk, .ref bv, .ref br, .ref a_s, .ref a_t, .int (nI mS), .ref g1, .ref g2, .ref g3, .long zl1, .long zl2, .long zl3, .long zl4, .int (nI (List.length ([] : List Nat))), .ref pa, .ref ru, .ref tx, .int zln, .int zat, .int zrk, .int zrv, .int zre, .int zwr, .int zrm, .int zrs, .int zis, .int zss, .int zsc, .ref dk, .ref dv, .ref ek, .ref ev, .ref er, .ref es, .ref et])), (ak, .inl (g.2.1.1, 152, .inl fk)), (av, .inl (g.2.1.1, 152, .inl fv)), (bk, .inl (g.2.1.1, 24, .inl ck)), (bv, .inl (g.2.1.1, 24, .inl cv)), (br, .inl (g.2.1.1, 24, .inl cr)), (a_s, .inl (g.2.1.1, 4, .inl fS)), (a_t, .inl (g.2.1.1, 5, .inl fT)), (g1, .inl (g.2.1.1, 152, .inl y1)), (g2, .inl (g.2.1.1, 152, .inl y2)), (g3, .inl (g.2.1.1, 152, .inl y3)), (pa, .inl (g.2.1.1, 152, .inl fp))] := hD
  refine lv_aload_n hx hb dX7_search_5 rfl (lv_at hl 0 rfl) ?_
  refine va_get (D := g.1) (ci := 9) (v := .int (nI nA)) (C := RX7) (T := TX7) (N := 40) hx hb hts (by decide +kernel) hown hK hP 0 rfl rfl 1 (by decide) (hts (.fieldLink RX7 79 "LearnedIndexModel" "size" "I") (by decide +kernel)) (fun _ h9 => h9) rfl dX7_search_6 ?_
  refine lv_if_ne (tgt := 13) hx hb dX7_search_9 (by decide) (fun c_9 => ?_) (fun c_9 => ?_)
  · skip
    have hne : 0 < M.length := by rw [← hnl]; exact Nat.pos_of_ne_zero (fun z => c_9 (by rw [z]; rfl))
    obtain ⟨loz, hiz, hlo, hhi, hw1, hw2, hw3, hPB⟩ := win_ok hIM (by omega) hKS hne x
    refine lv_aload_n hx hb dX7_search_13 rfl (lv_at hl 0 rfl) ?_
    refine lv_iload_n hx hb dX7_search_14 rfl (lv_at hl 1 rfl) ?_
    refine kcalli (wc := [(h, .inr (9, [.int zth, .int (nI nA), .int (nI nB), .ref ak, .ref av, .ref bk, .ref bv, .ref br, .ref a_s, .ref a_t, .int (nI mS), .ref g1, .ref g2, .ref g3, .long zl1, .long zl2, .long zl3, .long zl4, .int (nI (List.length ([] : List Nat))), .ref pa, .ref ru, .ref tx, .int zln, .int zat, .int zrk, .int zrv, .int zre, .int zwr, .int zrm, .int zrs, .int zis, .int zss, .int zsc, .ref dk, .ref dv, .ref ek, .ref ev, .ref er, .ref es, .ref et])), (ak, .inl (g.2.1.1, 152, .inl fk)), (av, .inl (g.2.1.1, 152, .inl fv)), (bk, .inl (g.2.1.1, 24, .inl ck)), (bv, .inl (g.2.1.1, 24, .inl cv)), (br, .inl (g.2.1.1, 24, .inl cr)), (a_s, .inl (g.2.1.1, 4, .inl fS)), (a_t, .inl (g.2.1.1, 5, .inl fT)), (g1, .inl (g.2.1.1, 152, .inl y1)), (g2, .inl (g.2.1.1, 152, .inl y2)), (g3, .inl (g.2.1.1, 152, .inl y3))]) [0, 1, 2, 3, 4, 5, 6, 7, 8, 9, 10] (va_runV (C := RX7) (As := [.int x]) (rest := []) ⟨hx, hb, hml, hown, hts⟩ ((c_X7_windowBegin l g h zth zl1 zl2 zl3 zl4 (nI (List.length ([] : List Nat))) zln zat zrk zrv zre zwr zrm zrs zis zss zsc ak av bk bv br a_s a_t g1 g2 g3 pa ru tx dk dv ek ev er es et nA fk fv nB ck cv cr fS fT mS y1 y2 y3 M C S T x hMX hne hxr) _) (cwV 1 hts gX7_search_X7_windowBegin rfl rfl rfl (by decide +kernel) ⟨Nat.le_of_ble_eq_true rfl, Nat.le_of_ble_eq_true rfl⟩) (kpreV (wc := [(h, .inr (9, [.int zth, .int (nI nA), .int (nI nB), .ref ak, .ref av, .ref bk, .ref bv, .ref br, .ref a_s, .ref a_t, .int (nI mS), .ref g1, .ref g2, .ref g3, .long zl1, .long zl2, .long zl3, .long zl4, .int (nI (List.length ([] : List Nat))), .ref pa, .ref ru, .ref tx, .int zln, .int zat, .int zrk, .int zrv, .int zre, .int zwr, .int zrm, .int zrs, .int zis, .int zss, .int zsc, .ref dk, .ref dv, .ref ek, .ref ev, .ref er, .ref es, .ref et])), (ak, .inl (g.2.1.1, 152, .inl fk)), (av, .inl (g.2.1.1, 152, .inl fv)), (bk, .inl (g.2.1.1, 24, .inl ck)), (bv, .inl (g.2.1.1, 24, .inl cv)), (br, .inl (g.2.1.1, 24, .inl cr)), (a_s, .inl (g.2.1.1, 4, .inl fS)), (a_t, .inl (g.2.1.1, 5, .inl fT)), (g1, .inl (g.2.1.1, 152, .inl y1)), (g2, .inl (g.2.1.1, 152, .inl y2)), (g3, .inl (g.2.1.1, 152, .inl y3))]) (ci := 9) hK hP hD hS hA hE [0, 1, 2, 3, 4, 5, 6, 7, 8, 9, 10] rfl rfl rfl rfl) rfl rfl hl.1 rfl (lv_room (Nat.le_of_ble_eq_true rfl)) dX7_search_15 ⟨Nat.zero_le _, Nat.zero_le _⟩) hP hD hS hA rfl (fun r_1 w_1 H locs hp hP hD hS => ?_)
    obtain ⟨rfl, rfl⟩ := hp
    have hP : va_P g.1 vwCl [(h, .inr (9, [.int zth, .int (nI nA), .int (nI nB), .ref ak, .ref av, .ref bk, .ref bv, .ref br, .ref a_s, .ref a_t, .int (nI mS), .ref g1, .ref g2, .ref g3, .long zl1, .long zl2, .long zl3, .long zl4, .int (nI (List.length ([] : List Nat))), .ref pa, .ref ru, .ref tx, .int zln, .int zat, .int zrk, .int zrv, .int zre, .int zwr, .int zrm, .int zrs, .int zis, .int zss, .int zsc, .ref dk, .ref dv, .ref ek, .ref ev, .ref er, .ref es, .ref et])), (ak, .inl (g.2.1.1, 152, .inl fk)), (av, .inl (g.2.1.1, 152, .inl fv)), (bk, .inl (g.2.1.1, 24, .inl ck)), (bv, .inl (g.2.1.1, 24, .inl cv)), (br, .inl (g.2.1.1, 24, .inl cr)), (a_s, .inl (g.2.1.1, 4, .inl fS)), (a_t, .inl (g.2.1.1, 5, .inl fT)), (g1, .inl (g.2.1.1, 152, .inl y1)), (g2, .inl (g.2.1.1, 152, .inl y2)), (g3, .inl (g.2.1.1, 152, .inl y3)), (pa, .inl (g.2.1.1, 152, .inl fp))] H := hP
    have hD : va_D A [(h, .inr (9, [.int zth, .int (nI nA), .int (nI nB), .ref ak, .ref av, .ref bk, .ref bv, .ref br, .ref a_s, .ref a_t, .int (nI mS), .ref g1, .ref g2, .ref g3, .long zl1, .long zl2, .long zl3, .long zl4, .int (nI (List.length ([] : List Nat))), .ref pa, .ref ru, .ref tx, .int zln, .int zat, .int zrk, .int zrv, .int zre, .int zwr, .int zrm, .int zrs, .int zis, .int zss, .int zsc, .ref dk, .ref dv, .ref ek, .ref ev, .ref er, .ref es, .ref et])), (ak, .inl (g.2.1.1, 152, .inl fk)), (av, .inl (g.2.1.1, 152, .inl fv)), (bk, .inl (g.2.1.1, 24, .inl ck)), (bv, .inl (g.2.1.1, 24, .inl cv)), (br, .inl (g.2.1.1, 24, .inl cr)), (a_s, .inl (g.2.1.1, 4, .inl fS)), (a_t, .inl (g.2.1.1, 5, .inl fT)), (g1, .inl (g.2.1.1, 152, .inl y1)), (g2, .inl (g.2.1.1, 152, .inl y2)), (g3, .inl (g.2.1.1, 152, .inl y3)), (pa, .inl (g.2.1.1, 152, .inl fp))] := hD
    rw [show (nI (PLO (kap M) (ksegs M S) (S 0).toInt x) : Int32) = nI loz from by rw [hlo ()]]
    refine lv_istore_n (lv' := [(2, .int (nI loz)), (0, .ref h), (1, .int x)]) hx hb dX7_search_18 rfl hl (by decide) rfl (fun ls hl => ?_)
    refine lv_aload_n hx hb dX7_search_19 rfl (lv_at hl 1 rfl) ?_
    refine lv_iload_n hx hb dX7_search_20 rfl (lv_at hl 2 rfl) ?_
    refine kcalli (wc := [(h, .inr (9, [.int zth, .int (nI nA), .int (nI nB), .ref ak, .ref av, .ref bk, .ref bv, .ref br, .ref a_s, .ref a_t, .int (nI mS), .ref g1, .ref g2, .ref g3, .long zl1, .long zl2, .long zl3, .long zl4, .int (nI (List.length ([] : List Nat))), .ref pa, .ref ru, .ref tx, .int zln, .int zat, .int zrk, .int zrv, .int zre, .int zwr, .int zrm, .int zrs, .int zis, .int zss, .int zsc, .ref dk, .ref dv, .ref ek, .ref ev, .ref er, .ref es, .ref et])), (ak, .inl (g.2.1.1, 152, .inl fk)), (av, .inl (g.2.1.1, 152, .inl fv)), (bk, .inl (g.2.1.1, 24, .inl ck)), (bv, .inl (g.2.1.1, 24, .inl cv)), (br, .inl (g.2.1.1, 24, .inl cr)), (a_s, .inl (g.2.1.1, 4, .inl fS)), (a_t, .inl (g.2.1.1, 5, .inl fT)), (g1, .inl (g.2.1.1, 152, .inl y1)), (g2, .inl (g.2.1.1, 152, .inl y2)), (g3, .inl (g.2.1.1, 152, .inl y3))]) [0, 1, 2, 3, 4, 5, 6, 7, 8, 9, 10] (va_runV (C := RX7) (As := [.int x]) (rest := []) ⟨hx, hb, hml, hown, hts⟩ ((c_X7_windowEnd l g h zth zl1 zl2 zl3 zl4 (nI (List.length ([] : List Nat))) zln zat zrk zrv zre zwr zrm zrs zis zss zsc ak av bk bv br a_s a_t g1 g2 g3 pa ru tx dk dv ek ev er es et nA fk fv nB ck cv cr fS fT mS y1 y2 y3 M C S T x hMX hne hxr) _) (cwV 1 hts gX7_search_X7_windowEnd rfl rfl rfl (by decide +kernel) ⟨Nat.le_of_ble_eq_true rfl, Nat.le_of_ble_eq_true rfl⟩) (kpreV (wc := [(h, .inr (9, [.int zth, .int (nI nA), .int (nI nB), .ref ak, .ref av, .ref bk, .ref bv, .ref br, .ref a_s, .ref a_t, .int (nI mS), .ref g1, .ref g2, .ref g3, .long zl1, .long zl2, .long zl3, .long zl4, .int (nI (List.length ([] : List Nat))), .ref pa, .ref ru, .ref tx, .int zln, .int zat, .int zrk, .int zrv, .int zre, .int zwr, .int zrm, .int zrs, .int zis, .int zss, .int zsc, .ref dk, .ref dv, .ref ek, .ref ev, .ref er, .ref es, .ref et])), (ak, .inl (g.2.1.1, 152, .inl fk)), (av, .inl (g.2.1.1, 152, .inl fv)), (bk, .inl (g.2.1.1, 24, .inl ck)), (bv, .inl (g.2.1.1, 24, .inl cv)), (br, .inl (g.2.1.1, 24, .inl cr)), (a_s, .inl (g.2.1.1, 4, .inl fS)), (a_t, .inl (g.2.1.1, 5, .inl fT)), (g1, .inl (g.2.1.1, 152, .inl y1)), (g2, .inl (g.2.1.1, 152, .inl y2)), (g3, .inl (g.2.1.1, 152, .inl y3))]) (ci := 9) hK hP hD hS hA hE [0, 1, 2, 3, 4, 5, 6, 7, 8, 9, 10] rfl rfl rfl rfl) rfl rfl hl.1 rfl (lv_room (Nat.le_of_ble_eq_true rfl)) dX7_search_21 ⟨Nat.zero_le _, Nat.zero_le _⟩) hP hD hS hA rfl (fun r_2 w_2 H locs hp hP hD hS => ?_)
    obtain ⟨rfl, rfl⟩ := hp
    have hP : va_P g.1 vwCl [(h, .inr (9, [.int zth, .int (nI nA), .int (nI nB), .ref ak, .ref av, .ref bk, .ref bv, .ref br, .ref a_s, .ref a_t, .int (nI mS), .ref g1, .ref g2, .ref g3, .long zl1, .long zl2, .long zl3, .long zl4, .int (nI (List.length ([] : List Nat))), .ref pa, .ref ru, .ref tx, .int zln, .int zat, .int zrk, .int zrv, .int zre, .int zwr, .int zrm, .int zrs, .int zis, .int zss, .int zsc, .ref dk, .ref dv, .ref ek, .ref ev, .ref er, .ref es, .ref et])), (ak, .inl (g.2.1.1, 152, .inl fk)), (av, .inl (g.2.1.1, 152, .inl fv)), (bk, .inl (g.2.1.1, 24, .inl ck)), (bv, .inl (g.2.1.1, 24, .inl cv)), (br, .inl (g.2.1.1, 24, .inl cr)), (a_s, .inl (g.2.1.1, 4, .inl fS)), (a_t, .inl (g.2.1.1, 5, .inl fT)), (g1, .inl (g.2.1.1, 152, .inl y1)), (g2, .inl (g.2.1.1, 152, .inl y2)), (g3, .inl (g.2.1.1, 152, .inl y3)), (pa, .inl (g.2.1.1, 152, .inl fp))] H := hP
    have hD : va_D A [(h, .inr (9, [.int zth, .int (nI nA), .int (nI nB), .ref ak, .ref av, .ref bk, .ref bv, .ref br, .ref a_s, .ref a_t, .int (nI mS), .ref g1, .ref g2, .ref g3, .long zl1, .long zl2, .long zl3, .long zl4, .int (nI (List.length ([] : List Nat))), .ref pa, .ref ru, .ref tx, .int zln, .int zat, .int zrk, .int zrv, .int zre, .int zwr, .int zrm, .int zrs, .int zis, .int zss, .int zsc, .ref dk, .ref dv, .ref ek, .ref ev, .ref er, .ref es, .ref et])), (ak, .inl (g.2.1.1, 152, .inl fk)), (av, .inl (g.2.1.1, 152, .inl fv)), (bk, .inl (g.2.1.1, 24, .inl ck)), (bv, .inl (g.2.1.1, 24, .inl cv)), (br, .inl (g.2.1.1, 24, .inl cr)), (a_s, .inl (g.2.1.1, 4, .inl fS)), (a_t, .inl (g.2.1.1, 5, .inl fT)), (g1, .inl (g.2.1.1, 152, .inl y1)), (g2, .inl (g.2.1.1, 152, .inl y2)), (g3, .inl (g.2.1.1, 152, .inl y3)), (pa, .inl (g.2.1.1, 152, .inl fp))] := hD
    rw [show (nI (PHI (kap M) (ksegs M S) (S 0).toInt x) : Int32) = kH (hiz + 1) from by rw [hhi (), kI_nI, kH]; congr 1; omega]
    refine lv_istore_n (lv' := [(3, .int (kH (hiz + 1))), (2, .int (nI loz)), (0, .ref h), (1, .int x)]) hx hb dX7_search_24 rfl hl (by decide) rfl (fun ls hl => ?_)
    have L25 : ∀ (n9 : Nat) (f : Nat) (t : Nat) (P : List Nat) (fq : Nat → Int32) (H : Heap) (locs : List Loc) (ls : Array Slot), (loz ≤ f ∧ f ≤ 1000 ∧ t ≤ hiz + 1) → (List.length P + (t - f) ≤ hiz + 1 - loz) → (P ++ prb (fun j => kI (kap M j)) x (t - f) f t = (PBS M S x)) → (kPr fq P) → t - f < n9 → va_P g.1 vwCl [(h, .inr (9, [.int zth, .int (nI nA), .int (nI nB), .ref ak, .ref av, .ref bk, .ref bv, .ref br, .ref a_s, .ref a_t, .int (nI mS), .ref g1, .ref g2, .ref g3, .long zl1, .long zl2, .long zl3, .long zl4, .int (nI (List.length P)), .ref pa, .ref ru, .ref tx, .int zln, .int zat, .int zrk, .int zrv, .int zre, .int zwr, .int zrm, .int zrs, .int zis, .int zss, .int zsc, .ref dk, .ref dv, .ref ek, .ref ev, .ref er, .ref es, .ref et])), (ak, .inl (g.2.1.1, 152, .inl fk)), (av, .inl (g.2.1.1, 152, .inl fv)), (bk, .inl (g.2.1.1, 24, .inl ck)), (bv, .inl (g.2.1.1, 24, .inl cv)), (br, .inl (g.2.1.1, 24, .inl cr)), (a_s, .inl (g.2.1.1, 4, .inl fS)), (a_t, .inl (g.2.1.1, 5, .inl fT)), (g1, .inl (g.2.1.1, 152, .inl y1)), (g2, .inl (g.2.1.1, 152, .inl y2)), (g3, .inl (g.2.1.1, 152, .inl y3)), (pa, .inl (g.2.1.1, 152, .inl fq))] H → va_D A [(h, .inr (9, [.int zth, .int (nI nA), .int (nI nB), .ref ak, .ref av, .ref bk, .ref bv, .ref br, .ref a_s, .ref a_t, .int (nI mS), .ref g1, .ref g2, .ref g3, .long zl1, .long zl2, .long zl3, .long zl4, .int (nI (List.length P)), .ref pa, .ref ru, .ref tx, .int zln, .int zat, .int zrk, .int zrv, .int zre, .int zwr, .int zrm, .int zrs, .int zis, .int zss, .int zsc, .ref dk, .ref dv, .ref ek, .ref ev, .ref er, .ref es, .ref et])), (ak, .inl (g.2.1.1, 152, .inl fk)), (av, .inl (g.2.1.1, 152, .inl fv)), (bk, .inl (g.2.1.1, 24, .inl ck)), (bv, .inl (g.2.1.1, 24, .inl cv)), (br, .inl (g.2.1.1, 24, .inl cr)), (a_s, .inl (g.2.1.1, 4, .inl fS)), (a_t, .inl (g.2.1.1, 5, .inl fT)), (g1, .inl (g.2.1.1, 152, .inl y1)), (g2, .inl (g.2.1.1, 152, .inl y2)), (g3, .inl (g.2.1.1, 152, .inl y3)), (pa, .inl (g.2.1.1, 152, .inl fq))] → va_S A s.heap H locs → lv_has ls 5 [(3, .int (kH t)), (2, .int (nI f)), (0, .ref h), (1, .int x)] → W p l e rm_X7_search s m ([.ref h, .int x] : List Value).toArray below meth cd H locs 0 0 (kQv g 12 A (p_X7_search g h zth zl1 zl2 zl3 zl4 zpb zln zat zrk zrv zre zwr zrm zrs zis zss zsc ak av bk bv br a_s a_t g1 g2 g3 pa ru tx dk dv ek ev er es et nA fk fv nB ck cv cr fS fT mS y1 y2 y3 M C S T fp x) below ([.ref h, .int x] : List Value).toArray s) (F0 m 25 ls []) := by
      intro n9
      induction n9 with
      | zero => intro f t P fq H locs ls hf hPl hPr hfq h9; exact absurd h9 (Nat.not_lt_zero _)
      | succ n9 ih25 =>
        intro f t P fq H locs ls hf hPl hPr hfq hn25 hP hD hS hl
        refine lv_iload_n hx hb dX7_search_25 rfl (lv_at hl 1 rfl) ?_
        refine lv_iload_n hx hb dX7_search_26 rfl (lv_at hl 0 rfl) ?_
        refine lv_icmp_gt (tgt := 97) hx hb dX7_search_27 (by decide) (fun c_27 => ?_) (fun c_27 => ?_)
        · skip
          have hft : t ≤ f := by rw [kI_nI, kH, kI_lt (by omega) (by omega) (by omega) (by omega)] at c_27; omega
          have hPT : P = (PBS M S x) := by rw [← hPr, prb_0 (fun j => kI (kap M j)) x hft, List.append_nil]
          exact kretv hx hb hRt hlk hK hP hD hS rfl dX7_search_97 (⟨fq, by rw [← hPT]; exact hfq, by rw [hPT]⟩)
        · skip
          have hft : f < t := by rw [kI_nI, kH, kI_lt (by omega) (by omega) (by omega) (by omega)] at c_27; omega
          have hmn : ((f + t - 1) / 2) < nA := by omega
          refine lv_iload_n hx hb dX7_search_30 rfl (lv_at hl 1 rfl) ?_
          refine lv_iload_n hx hb dX7_search_31 rfl (lv_at hl 0 rfl) ?_
          refine lv_iadd hx hb dX7_search_32 ?_
          rw [show ((nI f) + (kH t) : Int32) = nI (f + t - 1) from by rw [kI_nI, kH, kI_add, kI_nI]; congr 1; omega]
          refine lv_iconst (v := 2) hx hb dX7_search_33 (by decide) ?_
          refine lv_idiv hx hb dX7_search_34 (by decide) ?_
          rw [show ((nI (f + t - 1)) / 2 : Int32) = nI ((f + t - 1) / 2) from by rw [show (2 : Int32) = nI 2 from rfl, pk_div (by omega) (by decide) (by decide)]]
          refine lv_istore (lv' := [(4, .int (nI ((f + t - 1) / 2))), (3, .int (kH t)), (2, .int (nI f)), (0, .ref h), (1, .int x)]) hx hb dX7_search_35 hl (by decide) rfl (fun ls hl => ?_)
          refine lv_aload_n hx hb dX7_search_37 rfl (lv_at hl 3 rfl) ?_
          refine va_get (D := g.1) (ci := 9) (v := .ref pa) (C := RX7) (T := TX7) (N := 40) hx hb hts (by decide +kernel) hown hK hP 0 rfl rfl 19 (by decide) (hts (.fieldLink RX7 40 "LearnedIndexModel" "probedAt" "[I") (by decide +kernel)) (fun _ h9 => h9) rfl dX7_search_38 ?_
          refine lv_aload_n hx hb dX7_search_41 rfl (lv_at hl 3 rfl) ?_
          refine va_get (D := g.1) (ci := 9) (v := .int (nI (List.length P))) (C := RX7) (T := TX7) (N := 40) hx hb hts (by decide +kernel) hown hK hP 0 rfl rfl 18 (by decide) (hts (.fieldLink RX7 182 "LearnedIndexModel" "probed" "I") (by decide +kernel)) (fun _ h9 => h9) rfl dX7_search_42 ?_
          refine lv_iload hx hb dX7_search_45 (lv_at hl 0 rfl) ?_
          refine va_iast hx hb hK hP hD hS 11 0 rfl rfl (vp_in_nI (show List.length P < 152 by omega) (by omega)) dX7_search_47 (fun H locs hP hD hS => ?_)
          rw [show (nI (List.length P) : Int32).toNatClampNeg = List.length P from nI_clamp (n := List.length P) (by omega)] at hP hD
          have hP : va_P g.1 vwCl [(h, .inr (9, [.int zth, .int (nI nA), .int (nI nB), .ref ak, .ref av, .ref bk, .ref bv, .ref br, .ref a_s, .ref a_t, .int (nI mS), .ref g1, .ref g2, .ref g3, .long zl1, .long zl2, .long zl3, .long zl4, .int (nI (List.length P)), .ref pa, .ref ru, .ref tx, .int zln, .int zat, .int zrk, .int zrv, .int zre, .int zwr, .int zrm, .int zrs, .int zis, .int zss, .int zsc, .ref dk, .ref dv, .ref ek, .ref ev, .ref er, .ref es, .ref et])), (ak, .inl (g.2.1.1, 152, .inl fk)), (av, .inl (g.2.1.1, 152, .inl fv)), (bk, .inl (g.2.1.1, 24, .inl ck)), (bv, .inl (g.2.1.1, 24, .inl cv)), (br, .inl (g.2.1.1, 24, .inl cr)), (a_s, .inl (g.2.1.1, 4, .inl fS)), (a_t, .inl (g.2.1.1, 5, .inl fT)), (g1, .inl (g.2.1.1, 152, .inl y1)), (g2, .inl (g.2.1.1, 152, .inl y2)), (g3, .inl (g.2.1.1, 152, .inl y3)), (pa, .inl (g.2.1.1, 152, .inl (upd fq (List.length P) (nI ((f + t - 1) / 2)))))] H := hP
          have hD : va_D A [(h, .inr (9, [.int zth, .int (nI nA), .int (nI nB), .ref ak, .ref av, .ref bk, .ref bv, .ref br, .ref a_s, .ref a_t, .int (nI mS), .ref g1, .ref g2, .ref g3, .long zl1, .long zl2, .long zl3, .long zl4, .int (nI (List.length P)), .ref pa, .ref ru, .ref tx, .int zln, .int zat, .int zrk, .int zrv, .int zre, .int zwr, .int zrm, .int zrs, .int zis, .int zss, .int zsc, .ref dk, .ref dv, .ref ek, .ref ev, .ref er, .ref es, .ref et])), (ak, .inl (g.2.1.1, 152, .inl fk)), (av, .inl (g.2.1.1, 152, .inl fv)), (bk, .inl (g.2.1.1, 24, .inl ck)), (bv, .inl (g.2.1.1, 24, .inl cv)), (br, .inl (g.2.1.1, 24, .inl cr)), (a_s, .inl (g.2.1.1, 4, .inl fS)), (a_t, .inl (g.2.1.1, 5, .inl fT)), (g1, .inl (g.2.1.1, 152, .inl y1)), (g2, .inl (g.2.1.1, 152, .inl y2)), (g3, .inl (g.2.1.1, 152, .inl y3)), (pa, .inl (g.2.1.1, 152, .inl (upd fq (List.length P) (nI ((f + t - 1) / 2)))))] := hD
          refine lv_aload_n hx hb dX7_search_48 rfl (lv_at hl 3 rfl) ?_
          refine lv_dup hx hb dX7_search_49 rfl ?_
          refine va_get (D := g.1) (ci := 9) (v := .int (nI (List.length P))) (C := RX7) (T := TX7) (N := 40) hx hb hts (by decide +kernel) hown hK hP 0 rfl rfl 18 (by decide) (hts (.fieldLink RX7 182 "LearnedIndexModel" "probed" "I") (by decide +kernel)) (fun _ h9 => h9) rfl dX7_search_50 ?_
          refine lv_iconst (v := 1) hx hb dX7_search_53 (by decide) ?_
          refine lv_iadd hx hb dX7_search_54 ?_
          rw [show (nI (List.length P)) + 1 = nI (List.length P + 1) from nI_1 (List.length P)]
          rw [show (nI (List.length P + 1) : Int32) = nI (List.length (P ++ [((f + t - 1) / 2)])) from by rw [List.length_append, List.length_singleton]]
          refine va_put (D := g.1) (ci := 9) (v := .int (nI (List.length (P ++ [((f + t - 1) / 2)])))) (ty := .int) (C := RX7) (T := TX7) (N := 40) hx hb hts (by decide +kernel) tyX7 tyX7_ok nmX7 hown hK hP hD hS 0 rfl rfl 18 (by decide) (hts (.fieldLink RX7 182 "LearnedIndexModel" "probed" "I") (by decide +kernel)) (fun _ h9 => h9) rfl (by decide +kernel) rfl rfl (Nat.le_of_ble_eq_true rfl) dX7_search_55 (fun H locs hP hD hS => ?_)
          have hP : va_P g.1 vwCl [(h, .inr (9, [.int zth, .int (nI nA), .int (nI nB), .ref ak, .ref av, .ref bk, .ref bv, .ref br, .ref a_s, .ref a_t, .int (nI mS), .ref g1, .ref g2, .ref g3, .long zl1, .long zl2, .long zl3, .long zl4, .int (nI (List.length (P ++ [((f + t - 1) / 2)]))), .ref pa, .ref ru, .ref tx, .int zln, .int zat, .int zrk, .int zrv, .int zre, .int zwr, .int zrm, .int zrs, .int zis, .int zss, .int zsc, .ref dk, .ref dv, .ref ek, .ref ev, .ref er, .ref es, .ref et])), (ak, .inl (g.2.1.1, 152, .inl fk)), (av, .inl (g.2.1.1, 152, .inl fv)), (bk, .inl (g.2.1.1, 24, .inl ck)), (bv, .inl (g.2.1.1, 24, .inl cv)), (br, .inl (g.2.1.1, 24, .inl cr)), (a_s, .inl (g.2.1.1, 4, .inl fS)), (a_t, .inl (g.2.1.1, 5, .inl fT)), (g1, .inl (g.2.1.1, 152, .inl y1)), (g2, .inl (g.2.1.1, 152, .inl y2)), (g3, .inl (g.2.1.1, 152, .inl y3)), (pa, .inl (g.2.1.1, 152, .inl (upd fq (List.length P) (nI ((f + t - 1) / 2)))))] H := hP
          have hD : va_D A [(h, .inr (9, [.int zth, .int (nI nA), .int (nI nB), .ref ak, .ref av, .ref bk, .ref bv, .ref br, .ref a_s, .ref a_t, .int (nI mS), .ref g1, .ref g2, .ref g3, .long zl1, .long zl2, .long zl3, .long zl4, .int (nI (List.length (P ++ [((f + t - 1) / 2)]))), .ref pa, .ref ru, .ref tx, .int zln, .int zat, .int zrk, .int zrv, .int zre, .int zwr, .int zrm, .int zrs, .int zis, .int zss, .int zsc, .ref dk, .ref dv, .ref ek, .ref ev, .ref er, .ref es, .ref et])), (ak, .inl (g.2.1.1, 152, .inl fk)), (av, .inl (g.2.1.1, 152, .inl fv)), (bk, .inl (g.2.1.1, 24, .inl ck)), (bv, .inl (g.2.1.1, 24, .inl cv)), (br, .inl (g.2.1.1, 24, .inl cr)), (a_s, .inl (g.2.1.1, 4, .inl fS)), (a_t, .inl (g.2.1.1, 5, .inl fT)), (g1, .inl (g.2.1.1, 152, .inl y1)), (g2, .inl (g.2.1.1, 152, .inl y2)), (g3, .inl (g.2.1.1, 152, .inl y3)), (pa, .inl (g.2.1.1, 152, .inl (upd fq (List.length P) (nI ((f + t - 1) / 2)))))] := hD
          refine lv_aload_n hx hb dX7_search_58 rfl (lv_at hl 3 rfl) ?_
          refine va_get (D := g.1) (ci := 9) (v := .ref ak) (C := RX7) (T := TX7) (N := 40) hx hb hts (by decide +kernel) hown hK hP 0 rfl rfl 3 (by decide) (hts (.fieldLink RX7 9 "LearnedIndexModel" "keys" "[I") (by decide +kernel)) (fun _ h9 => h9) rfl dX7_search_59 ?_
          refine lv_iload hx hb dX7_search_62 (lv_at hl 0 rfl) ?_
          refine va_iald hx hb hK hP 1 0 rfl rfl (vp_in_nI (show (f + t - 1) / 2 < 152 by omega) (by omega)) dX7_search_64 ?_
          rw [show (nI ((f + t - 1) / 2) : Int32).toNatClampNeg = (f + t - 1) / 2 from nI_clamp (n := (f + t - 1) / 2) (by omega)]
          rw [show (fk ((f + t - 1) / 2) : Int32) = (fun j => kI (kap M j)) ((f + t - 1) / 2) from EL_kap hM (by omega)]
          refine lv_iload_n hx hb dX7_search_65 rfl (lv_at hl 4 rfl) ?_
          refine lv_icmp_ne (tgt := 70) hx hb dX7_search_66 (by decide) (fun c_66 => ?_) (fun c_66 => ?_)
          · skip
            refine lv_aload_n hx hb dX7_search_70 rfl (lv_at hl 3 rfl) ?_
            refine va_get (D := g.1) (ci := 9) (v := .ref ak) (C := RX7) (T := TX7) (N := 40) hx hb hts (by decide +kernel) hown hK hP 0 rfl rfl 3 (by decide) (hts (.fieldLink RX7 9 "LearnedIndexModel" "keys" "[I") (by decide +kernel)) (fun _ h9 => h9) rfl dX7_search_71 ?_
            refine lv_iload hx hb dX7_search_74 (lv_at hl 0 rfl) ?_
            refine va_iald hx hb hK hP 1 0 rfl rfl (vp_in_nI (show (f + t - 1) / 2 < 152 by omega) (by omega)) dX7_search_76 ?_
            rw [show (nI ((f + t - 1) / 2) : Int32).toNatClampNeg = (f + t - 1) / 2 from nI_clamp (n := (f + t - 1) / 2) (by omega)]
            rw [show (fk ((f + t - 1) / 2) : Int32) = (fun j => kI (kap M j)) ((f + t - 1) / 2) from EL_kap hM (by omega)]
            refine lv_iload_n hx hb dX7_search_77 rfl (lv_at hl 4 rfl) ?_
            refine lv_icmp_ge (tgt := 89) hx hb dX7_search_78 (by decide) (fun c_78 => ?_) (fun c_78 => ?_)
            · skip
              refine lv_iload hx hb dX7_search_89 (lv_at hl 0 rfl) ?_
              refine lv_iconst (v := 1) hx hb dX7_search_91 (by decide) ?_
              refine lv_isub hx hb dX7_search_92 ?_
              rw [show ((nI ((f + t - 1) / 2)) - 1 : Int32) = kH ((f + t - 1) / 2) from kH_sub _]
              refine lv_istore_n (lv' := [(3, .int (kH ((f + t - 1) / 2))), (4, .int (nI ((f + t - 1) / 2))), (2, .int (nI f)), (0, .ref h), (1, .int x)]) hx hb dX7_search_93 rfl hl (by decide) rfl (fun ls hl => ?_)
              refine lv_goto (tgt := 25) hx hb dX7_search_94 (by decide) ?_
              exact ih25 f ((f + t - 1) / 2) (P ++ [((f + t - 1) / 2)]) (upd fq (List.length P) (nI ((f + t - 1) / 2))) _ _ ls (⟨by omega, by omega, by omega⟩) (by rw [List.length_append, List.length_singleton]; omega) (by rw [prb_gt (Q := (fun j => kI (kap M j))) hft c_66 (Int32.not_lt.mpr c_78)] at hPr; rw [← hPr, List.append_assoc, List.singleton_append]) (kPr_snoc hfq) (by omega) hP hD hS (lv_sub hl [0, 2, 3, 4] rfl)
            · skip
              refine lv_iload hx hb dX7_search_81 (lv_at hl 0 rfl) ?_
              refine lv_iconst (v := 1) hx hb dX7_search_83 (by decide) ?_
              refine lv_iadd hx hb dX7_search_84 ?_
              rw [show (nI ((f + t - 1) / 2)) + 1 = nI ((f + t - 1) / 2 + 1) from nI_1 ((f + t - 1) / 2)]
              refine lv_istore_n (lv' := [(2, .int (nI ((f + t - 1) / 2 + 1))), (4, .int (nI ((f + t - 1) / 2))), (3, .int (kH t)), (0, .ref h), (1, .int x)]) hx hb dX7_search_85 rfl hl (by decide) rfl (fun ls hl => ?_)
              refine lv_goto (tgt := 94) hx hb dX7_search_86 (by decide) ?_
              refine lv_goto (tgt := 25) hx hb dX7_search_94 (by decide) ?_
              exact ih25 ((f + t - 1) / 2 + 1) t (P ++ [((f + t - 1) / 2)]) (upd fq (List.length P) (nI ((f + t - 1) / 2))) _ _ ls (⟨by omega, by omega, by omega⟩) (by rw [List.length_append, List.length_singleton]; omega) (by rw [prb_lt (Q := (fun j => kI (kap M j))) hft c_66 (Int32.not_le.mp c_78)] at hPr; rw [← hPr, List.append_assoc, List.singleton_append]) (kPr_snoc hfq) (by omega) hP hD hS (lv_sub hl [2, 0, 3, 4] rfl)
          · skip
            have q66 : kI (kap M ((f + t - 1) / 2)) = x := c_66
            have q67 : prb (fun j => kI (kap M j)) x (t - f) f t = [((f + t - 1) / 2)] := prb_eq hft q66
            have hPr2 : P ++ [((f + t - 1) / 2)] = PBS M S x := (congrArg (fun z => P ++ z) q67).symm.trans hPr
            clear c_66 q66 q67 hPr
            exact kretv hx hb hRt hlk hK hP hD hS rfl dX7_search_69 (⟨upd fq (List.length P) (nI ((f + t - 1) / 2)), by rw [← hPr2]; exact kPr_snoc hfq, by rw [hPr2]⟩)
    exact L25 _ loz (hiz + 1) ([] : List Nat) fp _ _ ls (⟨Nat.le_refl _, by omega, Nat.le_refl _⟩) (by simp) (by rw [List.nil_append]; exact hPB.symm) (kPr_nil _) (Nat.lt_succ_self _) hP hD hS (lv_sub hl [0, 1, 2, 3] rfl)
  · skip
    have hn0 : M.length = 0 := by rw [← hnl]; exact Decidable.byContradiction (fun z => nI_ne0 (Nat.pos_of_ne_zero z) (by omega) c_9)
    have hPB : (PBS M S x) = [] := by rw [PBS, if_pos hn0]
    exact kretv hx hb hRt hlk hK hP hD hS rfl dX7_search_12 (⟨fp, by rw [hPB]; exact kPr_nil _, by rw [hPB]⟩)
