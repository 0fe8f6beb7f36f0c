/-! ===== the model: mergeAll, mergeIfFull, putValue, removeKey ===== -/
theorem kXm_C {nA : Nat} {fk fv : Nat → Int32} {nB : Nat} {ck cv cr fS fT : Nat → Int32} {mS : Nat} {y1 y2 y3 : Nat → Int32} {M C : List kE3} {S T : Nat → Int32} {n2 : Nat} {hk hv hr : Nat → Int32} {C2 : List kE3} (h : kMX nA fk fv nB ck cv cr fS fT mS y1 y2 y3 M C S T) (he : EL n2 hk hv hr = C2) (hn : C2.length ≤ 22) (hi : kIv C2) (hg : (gat M C2).length ≤ 150) (hr2 : ∀ c ∈ C2, c.2.2 = 1 → (lkp M c.1).isSome = true) : kMX nA fk fv n2 hk hv hr fS fT mS y1 y2 y3 M C2 S T := by
  obtain ⟨⟨⟨hM, hC⟩, ⟨hnM, hnC⟩, ⟨hIM, hIC⟩, hlen, hrem⟩, hS, hT, hK, hs⟩ := h
  exact ⟨⟨⟨hM, he⟩, ⟨hnM, by rw [← EL_len n2 hk hv hr, he]; exact hn⟩, ⟨hIM, hi⟩, hg, hr2⟩, hS, hT, hK, hs⟩
theorem kput_rm {M C : List kE3} {x v b : Int32} (h : ∀ c ∈ C, c.2.2 = 1 → (lkp M c.1).isSome = true) (hb : b = 1 → (lkp M x).isSome = true) : ∀ c ∈ kput (x, v, b) C, c.2.2 = 1 → (lkp M c.1).isSome = true := by
  intro c hc e
  rcases kput_keys _ _ _ hc with rfl | hc
  · exact hb e
  · exact h c hc e
theorem flt_rm {M C : List kE3} {f : kE3 → Bool} (h : ∀ c ∈ C, c.2.2 = 1 → (lkp M c.1).isSome = true) : ∀ c ∈ C.filter f, c.2.2 = 1 → (lkp M c.1).isSome = true := fun c hc e => h c (List.mem_filter.mp hc).1 e
theorem drp_rm {M C : List kE3} {x : Int32} (h : ∀ c ∈ C, c.2.2 = 1 → (lkp M c.1).isSome = true) : ∀ c ∈ drpS M C x, c.2.2 = 1 → (lkp M c.1).isSome = true := by
  unfold drpS
  split
  · rename_i hm; exact kput_rm h (fun _ => hm)
  · exact flt_rm h

set_option maxRecDepth 20000 in
theorem ggX7_mergeAll_X7_positionOf : GoodIn wsX7_mergeAll wsX7_positionOf := goodIn_ca (goodIn_r _ [12, 13, 14, 50, 51, 52, 53, 54, 55, 56, 57, 58, 59, 60, 61, 62, 63, 64, 65, 66, 67, 68, 69, 70, 71, 72, 73, 74, 75, 76, 77, 78, 79, 80, 81, 82, 83, 84, 85, 86, 87, 88, 89] (by decide +kernel) (by decide +kernel)) (goodIn_sub (fun _ h => List.mem_cons_of_mem _ (List.mem_append_left _ (List.mem_append_right _ h))) (by decide +kernel))
set_option maxRecDepth 20000 in
theorem gX7_mergeAll_X7_positionOf : GoodIn wsX7_mergeAll (wsV RX7 89 RX7 yX7_positionOf wsX7_positionOf) := goodIn_app (goodIn_of _ (by decide +kernel)) ggX7_mergeAll_X7_positionOf
set_option maxRecDepth 20000 in
theorem ggX7_mergeAll_X7_removeMain : GoodIn wsX7_mergeAll wsX7_removeMain := goodIn_ca (goodIn_r _ [18, 13, 14, 4, 50, 51, 52, 53, 54, 55, 56, 57, 58, 59, 60, 61, 62, 63, 64, 65, 66, 67, 68, 69, 70, 71, 72, 73, 74, 75, 76, 77, 78, 79, 80, 81, 82, 83, 84, 85, 86, 87, 88, 89] (by decide +kernel) (by decide +kernel)) (goodIn_sub (fun _ h => List.mem_cons_of_mem _ (List.mem_append_left _ (List.mem_append_right _ h))) (by decide +kernel))
set_option maxRecDepth 20000 in
theorem gX7_mergeAll_X7_removeMain : GoodIn wsX7_mergeAll (wsV RX7 92 RX7 yX7_removeMain wsX7_removeMain) := goodIn_app (goodIn_of _ (by decide +kernel)) ggX7_mergeAll_X7_removeMain
set_option maxRecDepth 20000 in
theorem ggX7_mergeAll_X7_insertMain : GoodIn wsX7_mergeAll wsX7_insertMain := goodIn_ca (goodIn_r _ [22, 13, 14, 4, 50, 51, 52, 53, 54, 55, 56, 57, 58, 59, 60, 61, 62, 63, 64, 65, 66, 67, 68, 69, 70, 71, 72, 73, 74, 75, 76, 77, 78, 79, 80, 81, 82, 83, 84, 85, 86, 87, 88, 89] (by decide +kernel) (by decide +kernel)) (goodIn_sub (fun _ h => List.mem_cons_of_mem _ (List.mem_append_left _ (List.mem_append_right _ h))) (by decide +kernel))
set_option maxRecDepth 20000 in
theorem gX7_mergeAll_X7_insertMain : GoodIn wsX7_mergeAll (wsV RX7 96 RX7 yX7_insertMain wsX7_insertMain) := goodIn_app (goodIn_of _ (by decide +kernel)) ggX7_mergeAll_X7_insertMain
set_option maxRecDepth 20000 in
theorem ggX7_mergeAll_X7_build : GoodIn wsX7_mergeAll wsX7_build := goodIn_ca (goodIn_ca (goodIn_r _ [26, 27, 13, 28, 29, 30, 31, 32, 33, 34, 35, 11, 36, 37, 38, 39, 40, 41, 42, 43, 44, 45, 46, 14, 47, 48, 49, 50, 51, 52, 53, 54, 55, 56, 57, 58, 59, 60, 61, 62, 63, 64, 65, 66, 67, 68, 69, 70, 71, 72, 73, 74, 75, 76, 77, 78, 79, 80, 81, 82, 83, 84, 85, 86, 87, 88, 89] (by decide +kernel) (by decide +kernel)) (goodIn_sub (fun _ h => List.mem_cons_of_mem _ (List.mem_append_left _ (List.mem_append_right _ h))) (by decide +kernel))) (goodIn_sub (fun _ h => List.mem_cons_of_mem _ (List.mem_append_right _ h)) (by decide +kernel))
set_option maxRecDepth 20000 in
theorem gX7_mergeAll_X7_build : GoodIn wsX7_mergeAll (wsV RX7 100 RX7 yX7_build wsX7_build) := goodIn_app (goodIn_of _ (by decide +kernel)) ggX7_mergeAll_X7_build
theorem dX7_mergeAll_0 : decode cX7_mergeAll 0 = .ok (.iconst 0, 1) := by decide +kernel
theorem dX7_mergeAll_1 : decode cX7_mergeAll 1 = .ok (.istore_n 1, 1) := by decide +kernel
theorem dX7_mergeAll_2 : decode cX7_mergeAll 2 = .ok (.iload_n 1, 1) := by decide +kernel
theorem dX7_mergeAll_3 : decode cX7_mergeAll 3 = .ok (.aload_n 0, 1) := by decide +kernel
theorem dX7_mergeAll_4 : decode cX7_mergeAll 4 = .ok (.getfield 82, 3) := by decide +kernel
theorem dX7_mergeAll_7 : decode cX7_mergeAll 7 = .ok (.if_icmp .ge 33, 3) := by decide +kernel
theorem dX7_mergeAll_10 : decode cX7_mergeAll 10 = .ok (.aload_n 0, 1) := by decide +kernel
theorem dX7_mergeAll_11 : decode cX7_mergeAll 11 = .ok (.getfield 22, 3) := by decide +kernel
theorem dX7_mergeAll_14 : decode cX7_mergeAll 14 = .ok (.iload_n 1, 1) := by decide +kernel
theorem dX7_mergeAll_15 : decode cX7_mergeAll 15 = .ok (.iaload, 1) := by decide +kernel
theorem dX7_mergeAll_16 : decode cX7_mergeAll 16 = .ok (.iconst 1, 1) := by decide +kernel
theorem dX7_mergeAll_17 : decode cX7_mergeAll 17 = .ok (.if_icmp .ne 17, 3) := by decide +kernel
theorem dX7_mergeAll_20 : decode cX7_mergeAll 20 = .ok (.aload_n 0, 1) := by decide +kernel
theorem dX7_mergeAll_21 : decode cX7_mergeAll 21 = .ok (.aload_n 0, 1) := by decide +kernel
theorem dX7_mergeAll_22 : decode cX7_mergeAll 22 = .ok (.aload_n 0, 1) := by decide +kernel
theorem dX7_mergeAll_23 : decode cX7_mergeAll 23 = .ok (.getfield 16, 3) := by decide +kernel
theorem dX7_mergeAll_26 : decode cX7_mergeAll 26 = .ok (.iload_n 1, 1) := by decide +kernel
theorem dX7_mergeAll_27 : decode cX7_mergeAll 27 = .ok (.iaload, 1) := by decide +kernel
theorem dX7_mergeAll_28 : decode cX7_mergeAll 28 = .ok (.invokevirtual 89, 3) := by decide +kernel
theorem dX7_mergeAll_31 : decode cX7_mergeAll 31 = .ok (.invokevirtual 92, 3) := by decide +kernel
theorem dX7_mergeAll_34 : decode cX7_mergeAll 34 = .ok (.iinc 1 1, 3) := by decide +kernel
theorem dX7_mergeAll_37 : decode cX7_mergeAll 37 = .ok (.goto (-35), 3) := by decide +kernel
theorem dX7_mergeAll_40 : decode cX7_mergeAll 40 = .ok (.iconst 0, 1) := by decide +kernel
theorem dX7_mergeAll_41 : decode cX7_mergeAll 41 = .ok (.istore_n 1, 1) := by decide +kernel
theorem dX7_mergeAll_42 : decode cX7_mergeAll 42 = .ok (.iload_n 1, 1) := by decide +kernel
theorem dX7_mergeAll_43 : decode cX7_mergeAll 43 = .ok (.aload_n 0, 1) := by decide +kernel
theorem dX7_mergeAll_44 : decode cX7_mergeAll 44 = .ok (.getfield 82, 3) := by decide +kernel
theorem dX7_mergeAll_47 : decode cX7_mergeAll 47 = .ok (.if_icmp .ge 64, 3) := by decide +kernel
theorem dX7_mergeAll_50 : decode cX7_mergeAll 50 = .ok (.aload_n 0, 1) := by decide +kernel
theorem dX7_mergeAll_51 : decode cX7_mergeAll 51 = .ok (.getfield 22, 3) := by decide +kernel
theorem dX7_mergeAll_54 : decode cX7_mergeAll 54 = .ok (.iload_n 1, 1) := by decide +kernel
theorem dX7_mergeAll_55 : decode cX7_mergeAll 55 = .ok (.iaload, 1) := by decide +kernel
theorem dX7_mergeAll_56 : decode cX7_mergeAll 56 = .ok (.ifCond .ne 49, 3) := by decide +kernel
theorem dX7_mergeAll_59 : decode cX7_mergeAll 59 = .ok (.aload_n 0, 1) := by decide +kernel
theorem dX7_mergeAll_60 : decode cX7_mergeAll 60 = .ok (.aload_n 0, 1) := by decide +kernel
theorem dX7_mergeAll_61 : decode cX7_mergeAll 61 = .ok (.getfield 16, 3) := by decide +kernel
theorem dX7_mergeAll_64 : decode cX7_mergeAll 64 = .ok (.iload_n 1, 1) := by decide +kernel
theorem dX7_mergeAll_65 : decode cX7_mergeAll 65 = .ok (.iaload, 1) := by decide +kernel
theorem dX7_mergeAll_66 : decode cX7_mergeAll 66 = .ok (.invokevirtual 89, 3) := by decide +kernel
theorem dX7_mergeAll_69 : decode cX7_mergeAll 69 = .ok (.istore_n 2, 1) := by decide +kernel
theorem dX7_mergeAll_70 : decode cX7_mergeAll 70 = .ok (.iload_n 2, 1) := by decide +kernel
theorem dX7_mergeAll_71 : decode cX7_mergeAll 71 = .ok (.ifCond .lt 18, 3) := by decide +kernel
theorem dX7_mergeAll_74 : decode cX7_mergeAll 74 = .ok (.aload_n 0, 1) := by decide +kernel
theorem dX7_mergeAll_75 : decode cX7_mergeAll 75 = .ok (.getfield 13, 3) := by decide +kernel
theorem dX7_mergeAll_78 : decode cX7_mergeAll 78 = .ok (.iload_n 2, 1) := by decide +kernel
theorem dX7_mergeAll_79 : decode cX7_mergeAll 79 = .ok (.aload_n 0, 1) := by decide +kernel
theorem dX7_mergeAll_80 : decode cX7_mergeAll 80 = .ok (.getfield 19, 3) := by decide +kernel
theorem dX7_mergeAll_83 : decode cX7_mergeAll 83 = .ok (.iload_n 1, 1) := by decide +kernel
theorem dX7_mergeAll_84 : decode cX7_mergeAll 84 = .ok (.iaload, 1) := by decide +kernel
theorem dX7_mergeAll_85 : decode cX7_mergeAll 85 = .ok (.iastore, 1) := by decide +kernel
theorem dX7_mergeAll_86 : decode cX7_mergeAll 86 = .ok (.goto 19, 3) := by decide +kernel
theorem dX7_mergeAll_89 : decode cX7_mergeAll 89 = .ok (.aload_n 0, 1) := by decide +kernel
theorem dX7_mergeAll_90 : decode cX7_mergeAll 90 = .ok (.aload_n 0, 1) := by decide +kernel
theorem dX7_mergeAll_91 : decode cX7_mergeAll 91 = .ok (.getfield 16, 3) := by decide +kernel
theorem dX7_mergeAll_94 : decode cX7_mergeAll 94 = .ok (.iload_n 1, 1) := by decide +kernel
theorem dX7_mergeAll_95 : decode cX7_mergeAll 95 = .ok (.iaload, 1) := by decide +kernel
theorem dX7_mergeAll_96 : decode cX7_mergeAll 96 = .ok (.aload_n 0, 1) := by decide +kernel
theorem dX7_mergeAll_97 : decode cX7_mergeAll 97 = .ok (.getfield 19, 3) := by decide +kernel
theorem dX7_mergeAll_100 : decode cX7_mergeAll 100 = .ok (.iload_n 1, 1) := by decide +kernel
theorem dX7_mergeAll_101 : decode cX7_mergeAll 101 = .ok (.iaload, 1) := by decide +kernel
theorem dX7_mergeAll_102 : decode cX7_mergeAll 102 = .ok (.invokevirtual 96, 3) := by decide +kernel
theorem dX7_mergeAll_105 : decode cX7_mergeAll 105 = .ok (.iinc 1 1, 3) := by decide +kernel
theorem dX7_mergeAll_108 : decode cX7_mergeAll 108 = .ok (.goto (-66), 3) := by decide +kernel
theorem dX7_mergeAll_111 : decode cX7_mergeAll 111 = .ok (.aload_n 0, 1) := by decide +kernel
theorem dX7_mergeAll_112 : decode cX7_mergeAll 112 = .ok (.iconst 0, 1) := by decide +kernel
theorem dX7_mergeAll_113 : decode cX7_mergeAll 113 = .ok (.putfield 82, 3) := by decide +kernel
theorem dX7_mergeAll_116 : decode cX7_mergeAll 116 = .ok (.aload_n 0, 1) := by decide +kernel
theorem dX7_mergeAll_117 : decode cX7_mergeAll 117 = .ok (.getfield 28, 3) := by decide +kernel
theorem dX7_mergeAll_120 : decode cX7_mergeAll 120 = .ok (.iconst 3, 1) := by decide +kernel
theorem dX7_mergeAll_121 : decode cX7_mergeAll 121 = .ok (.iconst 0, 1) := by decide +kernel
theorem dX7_mergeAll_122 : decode cX7_mergeAll 122 = .ok (.iastore, 1) := by decide +kernel
theorem dX7_mergeAll_123 : decode cX7_mergeAll 123 = .ok (.aload_n 0, 1) := by decide +kernel
theorem dX7_mergeAll_124 : decode cX7_mergeAll 124 = .ok (.getfield 28, 3) := by decide +kernel
theorem dX7_mergeAll_127 : decode cX7_mergeAll 127 = .ok (.iconst 4, 1) := by decide +kernel
theorem dX7_mergeAll_128 : decode cX7_mergeAll 128 = .ok (.dup2, 1) := by decide +kernel
theorem dX7_mergeAll_129 : decode cX7_mergeAll 129 = .ok (.iaload, 1) := by decide +kernel
theorem dX7_mergeAll_130 : decode cX7_mergeAll 130 = .ok (.iconst 1, 1) := by decide +kernel
theorem dX7_mergeAll_131 : decode cX7_mergeAll 131 = .ok (.iadd, 1) := by decide +kernel
theorem dX7_mergeAll_132 : decode cX7_mergeAll 132 = .ok (.iastore, 1) := by decide +kernel
theorem dX7_mergeAll_133 : decode cX7_mergeAll 133 = .ok (.aload_n 0, 1) := by decide +kernel
theorem dX7_mergeAll_134 : decode cX7_mergeAll 134 = .ok (.aload_n 0, 1) := by decide +kernel
theorem dX7_mergeAll_135 : decode cX7_mergeAll 135 = .ok (.getfield 25, 3) := by decide +kernel
theorem dX7_mergeAll_138 : decode cX7_mergeAll 138 = .ok (.iconst 0, 1) := by decide +kernel
theorem dX7_mergeAll_139 : decode cX7_mergeAll 139 = .ok (.iaload, 1) := by decide +kernel
theorem dX7_mergeAll_140 : decode cX7_mergeAll 140 = .ok (.invokevirtual 100, 3) := by decide +kernel
theorem dX7_mergeAll_143 : decode cX7_mergeAll 143 = .ok (.return_, 1) := by decide +kernel
def rm_X7_mergeAll : Room := { frames := 68, cells := 0, slots := 0, locals := 1431 }
abbrev p_X7_mergeAll (g : kG) (h : Nat) (zth : Int32) (zl1 : Int64) (zl2 : Int64) (zl3 : Int64) (zl4 : Int64) (zpb : Int32) (zln : Int32) (zat : Int32) (zrk : Int32) (zrv : Int32) (zre : Int32) (zwr : Int32) (zrm : Int32) (zrs : Int32) (zis : Int32) (zss : Int32) (zsc : Int32) (ak : Nat) (av : Nat) (bk : Nat) (bv : Nat) (br : Nat) (a_s : Nat) (a_t : Nat) (g1 : Nat) (g2 : Nat) (g3 : Nat) (pa : Nat) (ru : Nat) (tx : Nat) (dk : Nat) (dv : Nat) (ek : Nat) (ev : Nat) (er : Nat) (es : Nat) (et : Nat) (nA : Nat) (fk : Nat → Int32) (fv : Nat → Int32) (nB : Nat) (ck : Nat → Int32) (cv : Nat → Int32) (cr : Nat → Int32) (fS : Nat → Int32) (fT : Nat → Int32) (mS : Nat) (y1 : Nat → Int32) (y2 : Nat → Int32) (y3 : Nat → Int32) (M : List kE3) (C : List kE3) (S : Nat → Int32) (T : Nat → Int32) : va_W → Prop := fun w1 => ∃ (n2 : Nat), ∃ (fk2 : Nat → Int32), ∃ (fv2 : Nat → Int32), ∃ (c2 : Nat), ∃ (ck2 : Nat → Int32), ∃ (cv2 : Nat → Int32), ∃ (cr2 : Nat → Int32), ∃ (t2 : Nat → Int32), ∃ (m2 : Nat), ∃ (x1 : Nat → Int32), ∃ (x2 : Nat → Int32), ∃ (x3 : Nat → Int32), ∃ (l1x : Int64), ∃ (l2x : Int64), ∃ (l3x : Int64), ∃ (l4x : Int64), (kMX n2 fk2 fv2 c2 ck2 cv2 cr2 fS t2 m2 x1 x2 x3 (gat M C) [] S (mrgT T)) ∧ w1 = [(h, .inr (9, [.int zth, .int (nI n2), .int (nI c2), .ref ak, .ref av, .ref bk, .ref bv, .ref br, .ref a_s, .ref a_t, .int (nI m2), .ref g1, .ref g2, .ref g3, .long l1x, .long l2x, .long l3x, .long l4x, .int zpb, .ref pa, .ref ru, .ref tx, .int zln, .int zat, .int zrk, .int zrv, .int zre, .int zwr, .int zrm, .int zrs, .int zis, .int zss, .int zsc, .ref dk, .ref dv, .ref ek, .ref ev, .ref er, .ref es, .ref et])), (ak, .inl (g.2.1.1, 152, .inl fk2)), (av, .inl (g.2.1.1, 152, .inl fv2)), (bk, .inl (g.2.1.1, 24, .inl ck2)), (bv, .inl (g.2.1.1, 24, .inl cv2)), (br, .inl (g.2.1.1, 24, .inl cr2)), (a_s, .inl (g.2.1.1, 4, .inl fS)), (a_t, .inl (g.2.1.1, 5, .inl t2)), (g1, .inl (g.2.1.1, 152, .inl x1)), (g2, .inl (g.2.1.1, 152, .inl x2)), (g3, .inl (g.2.1.1, 152, .inl x3))]
set_option maxHeartbeats 4000000 in
set_option maxRecDepth 100000 in
theorem c_X7_mergeAll (l : Launch) (g : kG) (h : Nat) (zth : Int32) (zl1 : Int64) (zl2 : Int64) (zl3 : Int64) (zl4 : Int64) (zpb : Int32) (zln : Int32) (zat : Int32) (zrk : Int32) (zrv : Int32) (zre : Int32) (zwr : Int32) (zrm : Int32) (zrs : Int32) (zis : Int32) (zss : Int32) (zsc : Int32) (ak : Nat) (av : Nat) (bk : Nat) (bv : Nat) (br : Nat) (a_s : Nat) (a_t : Nat) (g1 : Nat) (g2 : Nat) (g3 : Nat) (pa : Nat) (ru : Nat) (tx : Nat) (dk : Nat) (dv : Nat) (ek : Nat) (ev : Nat) (er : Nat) (es : Nat) (et : Nat) (nA : Nat) (fk : Nat → Int32) (fv : Nat → Int32) (nB : Nat) (ck : Nat → Int32) (cv : Nat → Int32) (cr : Nat → Int32) (fS : Nat → Int32) (fT : Nat → Int32) (mS : Nat) (y1 : Nat → Int32) (y2 : Nat → Int32) (y3 : Nat → Int32) (M : List kE3) (C : List kE3) (S : Nat → Int32) (T : Nat → Int32) (hMX : kMX nA fk fv nB ck cv cr fS fT mS y1 y2 y3 M C S T) : KV l yX7_mergeAll wsX7_mergeAll rm_X7_mergeAll g [.ref h] [(h, .inr (9, [.int zth, .int (nI nA), .int (nI nB), .ref ak, .ref av, .ref bk, .ref bv, .ref br, .ref a_s, .ref a_t, .int (nI mS), .ref g1, .ref g2, .ref g3, .long zl1, .long zl2, .long zl3, .long zl4, .int zpb, .ref pa, .ref ru, .ref tx, .int zln, .int zat, .int zrk, .int zrv, .int zre, .int zwr, .int zrm, .int zrs, .int zis, .int zss, .int zsc, .ref dk, .ref dv, .ref ek, .ref ev, .ref er, .ref es, .ref et])), (ak, .inl (g.2.1.1, 152, .inl fk)), (av, .inl (g.2.1.1, 152, .inl fv)), (bk, .inl (g.2.1.1, 24, .inl ck)), (bv, .inl (g.2.1.1, 24, .inl cv)), (br, .inl (g.2.1.1, 24, .inl cr)), (a_s, .inl (g.2.1.1, 4, .inl fS)), (a_t, .inl (g.2.1.1, 5, .inl fT)), (g1, .inl (g.2.1.1, 152, .inl y1)), (g2, .inl (g.2.1.1, 152, .inl y2)), (g3, .inl (g.2.1.1, 152, .inl y3))] (p_X7_mergeAll g h zth zl1 zl2 zl3 zl4 zpb zln zat zrk zrv zre zwr zrm zrs zis zss zsc ak av bk bv br a_s a_t g1 g2 g3 pa ru tx dk dv ek ev er es et nA fk fv nB ck cv cr fS fT mS y1 y2 y3 M C S T) := by
  refine kbodyV (cc := cX7_mergeAll) (n := 3) (k := 11) (own := RX7) (plainFor_of_name (by decide)) rfl rfl rfl rfl ?_
  intro p e s m below meth cd A ls hcx
  obtain ⟨hx, hb, hRt, hml, hts, hown, hlk, hA, hP, hK, hD, hE, hS, hl⟩ := hcx
  have hl : lv_has ls 3 [(0, .ref h)] := hl
  obtain ⟨hMM, hS4, hT5, hKS, hSGm⟩ := id hMX
  obtain ⟨⟨hM, hC⟩, ⟨hnM, hnC⟩, ⟨hIM, hIC⟩, hlen, hrem⟩ := id hMM
  have hsM : kSo (EL nA fk fv fz0) := by rw [hM]; exact hIM.1
  have hsC : kSo (EL nB ck cv cr) := by rw [hC]; exact hIC.1
  have hnl : nA = M.length := by rw [← hM, EL_len]
  have hcl : nB = C.length := by rw [← hC, EL_len]
  obtain ⟨⟨hS01, hS02⟩, ⟨hS11, hS12⟩, ⟨hS21, hS22⟩, ⟨hS31, hS32⟩⟩ := id hKS
  obtain ⟨M9, hM9⟩ : ∃ L, L = (C.filter isRm).foldl appG M := ⟨_, rfl⟩
  refine lv_iconst (v := 0) hx hb dX7_mergeAll_0 (by decide) ?_
  refine lv_istore_n (lv' := [(1, .int 0), (0, .ref h)]) hx hb dX7_mergeAll_1 rfl hl (by decide) rfl (fun ls hl => ?_)
  have L2 : ∀ (n9 : Nat) (j : Nat) (n8 : Nat) (u : Nat → Int32) (w : Nat → Int32) (H : Heap) (locs : List Loc) (ls : Array Slot), (j ≤ nB) → (n8 ≤ nA) → (EL n8 u w fz0 = (((C.take j).filter isRm).foldl appG M)) → nB - j < n9 → va_P g.1 vwCl [(h, .inr (9, [.int zth, .int (nI n8), .int (nI nB), .ref ak, .ref av, .ref bk, .ref bv, .ref br, .ref a_s, .ref a_t, .int (nI mS), .ref g1, .ref g2, .ref g3, .long zl1, .long zl2, .long zl3, .long zl4, .int zpb, .ref pa, .ref ru, .ref tx, .int zln, .int zat, .int zrk, .int zrv, .int zre, .int zwr, .int zrm, .int zrs, .int zis, .int zss, .int zsc, .ref dk, .ref dv, .ref ek, .ref ev, .ref er, .ref es, .ref et])), (ak, .inl (g.2.1.1, 152, .inl u)), (av, .inl (g.2.1.1, 152, .inl w)), (bk, .inl (g.2.1.1, 24, .inl ck)), (bv, .inl (g.2.1.1, 24, .inl cv)), (br, .inl (g.2.1.1, 24, .inl cr)), (a_s, .inl (g.2.1.1, 4, .inl fS)), (a_t, .inl (g.2.1.1, 5, .inl fT)), (g1, .inl (g.2.1.1, 152, .inl y1)), (g2, .inl (g.2.1.1, 152, .inl y2)), (g3, .inl (g.2.1.1, 152, .inl y3))] H → va_D A [(h, .inr (9, [.int zth, .int (nI n8), .int (nI nB), .ref ak, .ref av, .ref bk, .ref bv, .ref br, .ref a_s, .ref a_t, .int (nI mS), .ref g1, .ref g2, .ref g3, .long zl1, .long zl2, .long zl3, .long zl4, .int zpb, .ref pa, .ref ru, .ref tx, .int zln, .int zat, .int zrk, .int zrv, .int zre, .int zwr, .int zrm, .int zrs, .int zis, .int zss, .int zsc, .ref dk, .ref dv, .ref ek, .ref ev, .ref er, .ref es, .ref et])), (ak, .inl (g.2.1.1, 152, .inl u)), (av, .inl (g.2.1.1, 152, .inl w)), (bk, .inl (g.2.1.1, 24, .inl ck)), (bv, .inl (g.2.1.1, 24, .inl cv)), (br, .inl (g.2.1.1, 24, .inl cr)), (a_s, .inl (g.2.1.1, 4, .inl fS)), (a_t, .inl (g.2.1.1, 5, .inl fT)), (g1, .inl (g.2.1.1, 152, .inl y1)), (g2, .inl (g.2.1.1, 152, .inl y2)), (g3, .inl (g.2.1.1, 152, .inl y3))] → va_S A s.heap H locs → lv_has ls 3 [(1, .int (nI j)), (0, .ref h)] → W p l e rm_X7_mergeAll s m ([.ref h] : List Value).toArray below meth cd H locs 0 0 (kQv g 11 A (p_X7_mergeAll g h zth zl1 zl2 zl3 zl4 zpb zln zat zrk zrv zre zwr zrm zrs zis zss zsc ak av bk bv br a_s a_t g1 g2 g3 pa ru tx dk dv ek ev er es et nA fk fv nB ck cv cr fS fT mS y1 y2 y3 M C S T) below ([.ref h] : List Value).toArray s) (F0 m 2 ls []) := by
    intro n9
    induction n9 with
    | zero => intro j n8 u w H locs ls hj hn9 hEQ h9; exact absurd h9 (Nat.not_lt_zero _)
    | succ n9 ih2 =>
      intro j n8 u w H locs ls hj hn9 hEQ hn2 hP hD hS hl
      refine lv_iload_n hx hb dX7_mergeAll_2 rfl (lv_at hl 0 rfl) ?_
      refine lv_aload_n hx hb dX7_mergeAll_3 rfl (lv_at hl 1 rfl) ?_
      refine va_get (D := g.1) (ci := 9) (v := .int (nI nB)) (C := RX7) (T := TX7) (N := 40) hx hb hts (by decide +kernel) hown hK hP 0 rfl rfl 2 (by decide) (hts (.fieldLink RX7 82 "LearnedIndexModel" "changes" "I") (by decide +kernel)) (fun _ h9 => h9) rfl dX7_mergeAll_4 ?_
      refine lv_icmp_ge (tgt := 40) hx hb dX7_mergeAll_7 (by decide) (fun c_7 => ?_) (fun c_7 => ?_)
      · skip
        have hjn : nB ≤ j := kg (by omega) (by omega) c_7
        have hE9 : EL n8 u w fz0 = M9 := by rw [hEQ, hM9, List.take_of_length_le (by omega)]
        refine lv_iconst (v := 0) hx hb dX7_mergeAll_40 (by decide) ?_
        refine lv_istore_n (lv' := [(1, .int 0), (0, .ref h)]) hx hb dX7_mergeAll_41 rfl hl (by decide) rfl (fun ls hl => ?_)
        have L42 : ∀ (n9 : Nat) (j : Nat) (n8 : Nat) (u : Nat → Int32) (w : Nat → Int32) (H : Heap) (locs : List Loc) (ls : Array Slot), (j ≤ nB) → (EL n8 u w fz0 = (((C.take j).filter isNv).foldl appG M9)) → nB - j < n9 → va_P g.1 vwCl [(h, .inr (9, [.int zth, .int (nI n8), .int (nI nB), .ref ak, .ref av, .ref bk, .ref bv, .ref br, .ref a_s, .ref a_t, .int (nI mS), .ref g1, .ref g2, .ref g3, .long zl1, .long zl2, .long zl3, .long zl4, .int zpb, .ref pa, .ref ru, .ref tx, .int zln, .int zat, .int zrk, .int zrv, .int zre, .int zwr, .int zrm, .int zrs, .int zis, .int zss, .int zsc, .ref dk, .ref dv, .ref ek, .ref ev, .ref er, .ref es, .ref et])), (ak, .inl (g.2.1.1, 152, .inl u)), (av, .inl (g.2.1.1, 152, .inl w)), (bk, .inl (g.2.1.1, 24, .inl ck)), (bv, .inl (g.2.1.1, 24, .inl cv)), (br, .inl (g.2.1.1, 24, .inl cr)), (a_s, .inl (g.2.1.1, 4, .inl fS)), (a_t, .inl (g.2.1.1, 5, .inl fT)), (g1, .inl (g.2.1.1, 152, .inl y1)), (g2, .inl (g.2.1.1, 152, .inl y2)), (g3, .inl (g.2.1.1, 152, .inl y3))] H → va_D A [(h, .inr (9, [.int zth, .int (nI n8), .int (nI nB), .ref ak, .ref av, .ref bk, .ref bv, .ref br, .ref a_s, .ref a_t, .int (nI mS), .ref g1, .ref g2, .ref g3, .long zl1, .long zl2, .long zl3, .long zl4, .int zpb, .ref pa, .ref ru, .ref tx, .int zln, .int zat, .int zrk, .int zrv, .int zre, .int zwr, .int zrm, .int zrs, .int zis, .int zss, .int zsc, .ref dk, .ref dv, .ref ek, .ref ev, .ref er, .ref es, .ref et])), (ak, .inl (g.2.1.1, 152, .inl u)), (av, .inl (g.2.1.1, 152, .inl w)), (bk, .inl (g.2.1.1, 24, .inl ck)), (bv, .inl (g.2.1.1, 24, .inl cv)), (br, .inl (g.2.1.1, 24, .inl cr)), (a_s, .inl (g.2.1.1, 4, .inl fS)), (a_t, .inl (g.2.1.1, 5, .inl fT)), (g1, .inl (g.2.1.1, 152, .inl y1)), (g2, .inl (g.2.1.1, 152, .inl y2)), (g3, .inl (g.2.1.1, 152, .inl y3))] → va_S A s.heap H locs → lv_has ls 3 [(1, .int (nI j)), (0, .ref h)] → W p l e rm_X7_mergeAll s m ([.ref h] : List Value).toArray below meth cd H locs 0 0 (kQv g 11 A (p_X7_mergeAll g h zth zl1 zl2 zl3 zl4 zpb zln zat zrk zrv zre zwr zrm zrs zis zss zsc ak av bk bv br a_s a_t g1 g2 g3 pa ru tx dk dv ek ev er es et nA fk fv nB ck cv cr fS fT mS y1 y2 y3 M C S T) below ([.ref h] : List Value).toArray s) (F0 m 42 ls []) := by
          intro n9
          induction n9 with
          | zero => intro j n8 u w H locs ls hj hEQ h9; exact absurd h9 (Nat.not_lt_zero _)
          | succ n9 ih42 =>
            intro j n8 u w H locs ls hj hEQ hn42 hP hD hS hl
            refine lv_iload_n hx hb dX7_mergeAll_42 rfl (lv_at hl 0 rfl) ?_
            refine lv_aload_n hx hb dX7_mergeAll_43 rfl (lv_at hl 1 rfl) ?_
            refine va_get (D := g.1) (ci := 9) (v := .int (nI nB)) (C := RX7) (T := TX7) (N := 40) hx hb hts (by decide +kernel) hown hK hP 0 rfl rfl 2 (by decide) (hts (.fieldLink RX7 82 "LearnedIndexModel" "changes" "I") (by decide +kernel)) (fun _ h9 => h9) rfl dX7_mergeAll_44 ?_
            refine lv_icmp_ge (tgt := 111) hx hb dX7_mergeAll_47 (by decide) (fun c_47 => ?_) (fun c_47 => ?_)
            · skip
              have hjn : nB ≤ j := kg (by omega) (by omega) c_47
              have hE9 : EL n8 u w fz0 = gat M C := by rw [hEQ, List.take_of_length_le (by omega), hM9]; exact fold_two hIM.1 hIC.1 (kMM_z hMM)
              have hIG := gat_iv hIM hIC
              have hn9 : n8 = (gat M C).length := by rw [← hE9, EL_len]
              refine lv_aload_n hx hb dX7_mergeAll_111 rfl (lv_at hl 1 rfl) ?_
              refine lv_iconst (v := 0) hx hb dX7_mergeAll_112 (by decide) ?_
              rw [show (0 : Int32) = nI 0 from rfl]
              refine va_put (D := g.1) (ci := 9) (v := .int (nI 0)) (ty := .int) (C := RX7) (T := TX7) (N := 40) hx hb hts (by decide +kernel) tyX7 tyX7_ok nmX7 hown hK hP hD hS 0 rfl rfl 2 (by decide) (hts (.fieldLink RX7 82 "LearnedIndexModel" "changes" "I") (by decide +kernel)) (fun _ h9 => h9) rfl (by decide +kernel) rfl rfl (Nat.le_of_ble_eq_true rfl) dX7_mergeAll_113 (fun H locs hP hD hS => ?_)
              have hP : va_P g.1 vwCl [(h, .inr (9, [.int zth, .int (nI n8), .int (nI 0), .ref ak, .ref av, .ref bk, .ref bv, .ref br, .ref a_s, .ref a_t, .int (nI mS), .ref g1, .ref g2, .ref g3, .long zl1, .long zl2, .long zl3, .long zl4, .int zpb, .ref pa, .ref ru, .ref tx, .int zln, .int zat, .int zrk, .int zrv, .int zre, .int zwr, .int zrm, .int zrs, .int zis, .int zss, .int zsc, .ref dk, .ref dv, .ref ek, .ref ev, .ref er, .ref es, .ref et])), (ak, .inl (g.2.1.1, 152, .inl u)), (av, .inl (g.2.1.1, 152, .inl w)), (bk, .inl (g.2.1.1, 24, .inl ck)), (bv, .inl (g.2.1.1, 24, .inl cv)), (br, .inl (g.2.1.1, 24, .inl cr)), (a_s, .inl (g.2.1.1, 4, .inl fS)), (a_t, .inl (g.2.1.1, 5, .inl fT)), (g1, .inl (g.2.1.1, 152, .inl y1)), (g2, .inl (g.2.1.1, 152, .inl y2)), (g3, .inl (g.2.1.1, 152, .inl y3))] H := hP
              have hD : va_D A [(h, .inr (9, [.int zth, .int (nI n8), .int (nI 0), .ref ak, .ref av, .ref bk, .ref bv, .ref br, .ref a_s, .ref a_t, .int (nI mS), .ref g1, .ref g2, .ref g3, .long zl1, .long zl2, .long zl3, .long zl4, .int zpb, .ref pa, .ref ru, .ref tx, .int zln, .int zat, .int zrk, .int zrv, .int zre, .int zwr, .int zrm, .int zrs, .int zis, .int zss, .int zsc, .ref dk, .ref dv, .ref ek, .ref ev, .ref er, .ref es, .ref et])), (ak, .inl (g.2.1.1, 152, .inl u)), (av, .inl (g.2.1.1, 152, .inl w)), (bk, .inl (g.2.1.1, 24, .inl ck)), (bv, .inl (g.2.1.1, 24, .inl cv)), (br, .inl (g.2.1.1, 24, .inl cr)), (a_s, .inl (g.2.1.1, 4, .inl fS)), (a_t, .inl (g.2.1.1, 5, .inl fT)), (g1, .inl (g.2.1.1, 152, .inl y1)), (g2, .inl (g.2.1.1, 152, .inl y2)), (g3, .inl (g.2.1.1, 152, .inl y3))] := hD
              refine lv_aload_n hx hb dX7_mergeAll_116 rfl (lv_at hl 1 rfl) ?_
              refine va_get (D := g.1) (ci := 9) (v := .ref a_t) (C := RX7) (T := TX7) (N := 40) hx hb hts (by decide +kernel) hown hK hP 0 rfl rfl 9 (by decide) (hts (.fieldLink RX7 28 "LearnedIndexModel" "counts" "[I") (by decide +kernel)) (fun _ h9 => h9) rfl dX7_mergeAll_117 ?_
              refine lv_iconst (v := 3) hx hb dX7_mergeAll_120 (by decide) ?_
              refine lv_iconst (v := 0) hx hb dX7_mergeAll_121 (by decide) ?_
              refine va_iast hx hb hK hP hD hS 7 0 rfl rfl (show vp_in 3 5 from vp_in_nI (n := 3) (by omega) (by omega)) dX7_mergeAll_122 (fun H locs hP hD hS => ?_)
              rw [show (3 : Int32).toNatClampNeg = 3 from nI_clamp (n := 3) (by omega)] at hP hD
              have hP : va_P g.1 vwCl [(h, .inr (9, [.int zth, .int (nI n8), .int (nI 0), .ref ak, .ref av, .ref bk, .ref bv, .ref br, .ref a_s, .ref a_t, .int (nI mS), .ref g1, .ref g2, .ref g3, .long zl1, .long zl2, .long zl3, .long zl4, .int zpb, .ref pa, .ref ru, .ref tx, .int zln, .int zat, .int zrk, .int zrv, .int zre, .int zwr, .int zrm, .int zrs, .int zis, .int zss, .int zsc, .ref dk, .ref dv, .ref ek, .ref ev, .ref er, .ref es, .ref et])), (ak, .inl (g.2.1.1, 152, .inl u)), (av, .inl (g.2.1.1, 152, .inl w)), (bk, .inl (g.2.1.1, 24, .inl ck)), (bv, .inl (g.2.1.1, 24, .inl cv)), (br, .inl (g.2.1.1, 24, .inl cr)), (a_s, .inl (g.2.1.1, 4, .inl fS)), (a_t, .inl (g.2.1.1, 5, .inl (upd fT 3 0))), (g1, .inl (g.2.1.1, 152, .inl y1)), (g2, .inl (g.2.1.1, 152, .inl y2)), (g3, .inl (g.2.1.1, 152, .inl y3))] H := hP
              have hD : va_D A [(h, .inr (9, [.int zth, .int (nI n8), .int (nI 0), .ref ak, .ref av, .ref bk, .ref bv, .ref br, .ref a_s, .ref a_t, .int (nI mS), .ref g1, .ref g2, .ref g3, .long zl1, .long zl2, .long zl3, .long zl4, .int zpb, .ref pa, .ref ru, .ref tx, .int zln, .int zat, .int zrk, .int zrv, .int zre, .int zwr, .int zrm, .int zrs, .int zis, .int zss, .int zsc, .ref dk, .ref dv, .ref ek, .ref ev, .ref er, .ref es, .ref et])), (ak, .inl (g.2.1.1, 152, .inl u)), (av, .inl (g.2.1.1, 152, .inl w)), (bk, .inl (g.2.1.1, 24, .inl ck)), (bv, .inl (g.2.1.1, 24, .inl cv)), (br, .inl (g.2.1.1, 24, .inl cr)), (a_s, .inl (g.2.1.1, 4, .inl fS)), (a_t, .inl (g.2.1.1, 5, .inl (upd fT 3 0))), (g1, .inl (g.2.1.1, 152, .inl y1)), (g2, .inl (g.2.1.1, 152, .inl y2)), (g3, .inl (g.2.1.1, 152, .inl y3))] := hD
              refine lv_aload_n hx hb dX7_mergeAll_123 rfl (lv_at hl 1 rfl) ?_
              refine va_get (D := g.1) (ci := 9) (v := .ref a_t) (C := RX7) (T := TX7) (N := 40) hx hb hts (by decide +kernel) hown hK hP 0 rfl rfl 9 (by decide) (hts (.fieldLink RX7 28 "LearnedIndexModel" "counts" "[I") (by decide +kernel)) (fun _ h9 => h9) rfl dX7_mergeAll_124 ?_
              refine lv_iconst (v := 4) hx hb dX7_mergeAll_127 (by decide) ?_
              refine lv_dup2_11 hx hb dX7_mergeAll_128 rfl rfl ?_
              refine va_iald hx hb hK hP 7 0 rfl rfl (show vp_in 4 5 from vp_in_nI (n := 4) (by omega) (by omega)) dX7_mergeAll_129 ?_
              rw [show (4 : Int32).toNatClampNeg = 4 from nI_clamp (n := 4) (by omega)]
              refine lv_iconst (v := 1) hx hb dX7_mergeAll_130 (by decide) ?_
              refine lv_iadd hx hb dX7_mergeAll_131 ?_
              refine va_iast hx hb hK hP hD hS 7 0 rfl rfl (show vp_in 4 5 from vp_in_nI (n := 4) (by omega) (by omega)) dX7_mergeAll_132 (fun H locs hP hD hS => ?_)
              rw [show (4 : Int32).toNatClampNeg = 4 from nI_clamp (n := 4) (by omega)] at hP hD
              have hP : va_P g.1 vwCl [(h, .inr (9, [.int zth, .int (nI n8), .int (nI 0), .ref ak, .ref av, .ref bk, .ref bv, .ref br, .ref a_s, .ref a_t, .int (nI mS), .ref g1, .ref g2, .ref g3, .long zl1, .long zl2, .long zl3, .long zl4, .int zpb, .ref pa, .ref ru, .ref tx, .int zln, .int zat, .int zrk, .int zrv, .int zre, .int zwr, .int zrm, .int zrs, .int zis, .int zss, .int zsc, .ref dk, .ref dv, .ref ek, .ref ev, .ref er, .ref es, .ref et])), (ak, .inl (g.2.1.1, 152, .inl u)), (av, .inl (g.2.1.1, 152, .inl w)), (bk, .inl (g.2.1.1, 24, .inl ck)), (bv, .inl (g.2.1.1, 24, .inl cv)), (br, .inl (g.2.1.1, 24, .inl cr)), (a_s, .inl (g.2.1.1, 4, .inl fS)), (a_t, .inl (g.2.1.1, 5, .inl (upd (upd fT 3 0) 4 (((upd fT 3 0) 4) + 1)))), (g1, .inl (g.2.1.1, 152, .inl y1)), (g2, .inl (g.2.1.1, 152, .inl y2)), (g3, .inl (g.2.1.1, 152, .inl y3))] H := hP
              have hD : va_D A [(h, .inr (9, [.int zth, .int (nI n8), .int (nI 0), .ref ak, .ref av, .ref bk, .ref bv, .ref br, .ref a_s, .ref a_t, .int (nI mS), .ref g1, .ref g2, .ref g3, .long zl1, .long zl2, .long zl3, .long zl4, .int zpb, .ref pa, .ref ru, .ref tx, .int zln, .int zat, .int zrk, .int zrv, .int zre, .int zwr, .int zrm, .int zrs, .int zis, .int zss, .int zsc, .ref dk, .ref dv, .ref ek, .ref ev, .ref er, .ref es, .ref et])), (ak, .inl (g.2.1.1, 152, .inl u)), (av, .inl (g.2.1.1, 152, .inl w)), (bk, .inl (g.2.1.1, 24, .inl ck)), (bv, .inl (g.2.1.1, 24, .inl cv)), (br, .inl (g.2.1.1, 24, .inl cr)), (a_s, .inl (g.2.1.1, 4, .inl fS)), (a_t, .inl (g.2.1.1, 5, .inl (upd (upd fT 3 0) 4 (((upd fT 3 0) 4) + 1)))), (g1, .inl (g.2.1.1, 152, .inl y1)), (g2, .inl (g.2.1.1, 152, .inl y2)), (g3, .inl (g.2.1.1, 152, .inl y3))] := hD
              refine lv_aload_n hx hb dX7_mergeAll_133 rfl (lv_at hl 1 rfl) ?_
              refine lv_aload_n hx hb dX7_mergeAll_134 rfl (lv_at hl 1 rfl) ?_
              refine va_get (D := g.1) (ci := 9) (v := .ref a_s) (C := RX7) (T := TX7) (N := 40) hx hb hts (by decide +kernel) hown hK hP 0 rfl rfl 8 (by decide) (hts (.fieldLink RX7 25 "LearnedIndexModel" "settings" "[I") (by decide +kernel)) (fun _ h9 => h9) rfl dX7_mergeAll_135 ?_
              refine lv_iconst (v := 0) hx hb dX7_mergeAll_138 (by decide) ?_
              refine va_iald hx hb hK hP 6 0 rfl rfl (show vp_in 0 4 from vp_in_nI (n := 0) (by omega) (by omega)) dX7_mergeAll_139 ?_
              rw [show (0 : Int32).toNatClampNeg = 0 from nI_clamp (n := 0) (by omega)]
              rw [show (fS 0 : Int32) = kI (S 0).toInt from by rw [hS4 0 (by decide)]; exact kI_of _]
              refine kcallv (wc := [(h, .inr (9, [.int zth, .int (nI n8), .int (nI 0), .ref ak, .ref av, .ref bk, .ref bv, .ref br, .ref a_s, .ref a_t, .int (nI mS), .ref g1, .ref g2, .ref g3, .long zl1, .long zl2, .long zl3, .long zl4, .int zpb, .ref pa, .ref ru, .ref tx, .int zln, .int zat, .int zrk, .int zrv, .int zre, .int zwr, .int zrm, .int zrs, .int zis, .int zss, .int zsc, .ref dk, .ref dv, .ref ek, .ref ev, .ref er, .ref es, .ref et])), (ak, .inl (g.2.1.1, 152, .inl u)), (g1, .inl (g.2.1.1, 152, .inl y1)), (g2, .inl (g.2.1.1, 152, .inl y2)), (g3, .inl (g.2.1.1, 152, .inl y3))]) [0, 1, 8, 9, 10] (va_runV (C := RX7) (As := [.int (kI (S 0).toInt)]) (rest := []) ⟨hx, hb, hml, hown, hts⟩ ((c_X7_build l g h zth (nI 0) (nI mS) zl1 zl2 zl3 zl4 zpb zln zat zrk zrv zre zwr zrm zrs zis zss zsc ak av bk bv br a_s a_t g1 g2 g3 pa ru tx dk dv ek ev er es et n8 u y1 y2 y3 ((S 0).toInt) (kap (gat M C)) (fun i hi => EL_kap hE9 hi) (kap_asc hE9 hIG) (by omega) (⟨by omega, by omega⟩)) _) (cwV 1 hts gX7_mergeAll_X7_build rfl rfl rfl (by decide +kernel) ⟨Nat.le_of_ble_eq_true rfl, Nat.le_of_ble_eq_true rfl⟩) (kpreV (wc := [(h, .inr (9, [.int zth, .int (nI n8), .int (nI 0), .ref ak, .ref av, .ref bk, .ref bv, .ref br, .ref a_s, .ref a_t, .int (nI mS), .ref g1, .ref g2, .ref g3, .long zl1, .long zl2, .long zl3, .long zl4, .int zpb, .ref pa, .ref ru, .ref tx, .int zln, .int zat, .int zrk, .int zrv, .int zre, .int zwr, .int zrm, .int zrs, .int zis, .int zss, .int zsc, .ref dk, .ref dv, .ref ek, .ref ev, .ref er, .ref es, .ref et])), (ak, .inl (g.2.1.1, 152, .inl u)), (g1, .inl (g.2.1.1, 152, .inl y1)), (g2, .inl (g.2.1.1, 152, .inl y2)), (g3, .inl (g.2.1.1, 152, .inl y3))]) (ci := 9) hK hP hD hS hA hE [0, 1, 8, 9, 10] rfl rfl rfl rfl) rfl rfl hl.1 rfl (lv_room (Nat.le_of_ble_eq_true rfl)) dX7_mergeAll_140 ⟨Nat.zero_le _, Nat.zero_le _⟩) hP hD hS hA rfl (fun w_1 H locs hp hP hD hS => ?_)
              obtain ⟨m2, x1, x2, x3, v2, v3, l1x, l2x, l3x, l4x, hSG2, rfl⟩ := hp
              have hP : va_P g.1 vwCl [(h, .inr (9, [.int zth, .int (nI n8), .int (nI 0), .ref ak, .ref av, .ref bk, .ref bv, .ref br, .ref a_s, .ref a_t, .int (nI m2), .ref g1, .ref g2, .ref g3, .long l1x, .long l2x, .long l3x, .long l4x, .int zpb, .ref pa, .ref ru, .ref tx, .int zln, .int zat, .int zrk, .int zrv, .int zre, .int zwr, .int zrm, .int zrs, .int zis, .int zss, .int zsc, .ref dk, .ref dv, .ref ek, .ref ev, .ref er, .ref es, .ref et])), (ak, .inl (g.2.1.1, 152, .inl u)), (av, .inl (g.2.1.1, 152, .inl w)), (bk, .inl (g.2.1.1, 24, .inl ck)), (bv, .inl (g.2.1.1, 24, .inl cv)), (br, .inl (g.2.1.1, 24, .inl cr)), (a_s, .inl (g.2.1.1, 4, .inl fS)), (a_t, .inl (g.2.1.1, 5, .inl (upd (upd fT 3 0) 4 (((upd fT 3 0) 4) + 1)))), (g1, .inl (g.2.1.1, 152, .inl x1)), (g2, .inl (g.2.1.1, 152, .inl x2)), (g3, .inl (g.2.1.1, 152, .inl x3))] H := hP
              have hD : va_D A [(h, .inr (9, [.int zth, .int (nI n8), .int (nI 0), .ref ak, .ref av, .ref bk, .ref bv, .ref br, .ref a_s, .ref a_t, .int (nI m2), .ref g1, .ref g2, .ref g3, .long l1x, .long l2x, .long l3x, .long l4x, .int zpb, .ref pa, .ref ru, .ref tx, .int zln, .int zat, .int zrk, .int zrv, .int zre, .int zwr, .int zrm, .int zrs, .int zis, .int zss, .int zsc, .ref dk, .ref dv, .ref ek, .ref ev, .ref er, .ref es, .ref et])), (ak, .inl (g.2.1.1, 152, .inl u)), (av, .inl (g.2.1.1, 152, .inl w)), (bk, .inl (g.2.1.1, 24, .inl ck)), (bv, .inl (g.2.1.1, 24, .inl cv)), (br, .inl (g.2.1.1, 24, .inl cr)), (a_s, .inl (g.2.1.1, 4, .inl fS)), (a_t, .inl (g.2.1.1, 5, .inl (upd (upd fT 3 0) 4 (((upd fT 3 0) 4) + 1)))), (g1, .inl (g.2.1.1, 152, .inl x1)), (g2, .inl (g.2.1.1, 152, .inl x2)), (g3, .inl (g.2.1.1, 152, .inl x3))] := hD
              exact kretv hx hb hRt hlk hK hP hD hS rfl dX7_mergeAll_143 (⟨n8, u, w, 0, ck, cv, cr, _, m2, x1, x2, x3, l1x, l2x, l3x, l4x, kMX_mrg hMX hE9 rfl hSG2, rfl⟩)
            · skip
              have hjn : j < nB := kl (by omega) (by omega) c_47
              have hge : C[j]? = some (ck j, cv j, cr j) := by rw [← hC, EL_get, if_pos hjn]
              have hcj := (hIC.2 _ (List.mem_of_getElem? hge)).2
              have hso9 : kSo M9 := by rw [hM9]; exact fold_so _ _ hIM.1
              have hs9 : kSo (EL n8 u w fz0) := by rw [hEQ]; exact fold_so _ _ hso9
              have hle9 : ∀ i, (((C.take i).filter isNv).foldl appG M9).length ≤ 150 := fun i => by refine Nat.le_trans (fold_part hso9 i) ?_; rw [hM9, fold_two hIM.1 hIC.1 (kMM_z hMM)]; exact hlen
              have hl9 : n8 ≤ 150 := by have h8 := hle9 j; rw [← hEQ, EL_len] at h8; exact h8
              refine lv_aload_n hx hb dX7_mergeAll_50 rfl (lv_at hl 1 rfl) ?_
              refine va_get (D := g.1) (ci := 9) (v := .ref br) (C := RX7) (T := TX7) (N := 40) hx hb hts (by decide +kernel) hown hK hP 0 rfl rfl 7 (by decide) (hts (.fieldLink RX7 22 "LearnedIndexModel" "changedKinds" "[I") (by decide +kernel)) (fun _ h9 => h9) rfl dX7_mergeAll_51 ?_
              refine lv_iload_n hx hb dX7_mergeAll_54 rfl (lv_at hl 0 rfl) ?_
              refine va_iald hx hb hK hP 5 0 rfl rfl (vp_in_nI (show j < 24 by omega) (by omega)) dX7_mergeAll_55 ?_
              rw [show (nI j : Int32).toNatClampNeg = j from nI_clamp (n := j) (by omega)]
              refine lv_if_ne (tgt := 105) hx hb dX7_mergeAll_56 (by decide) (fun c_56 => ?_) (fun c_56 => ?_)
              · skip
                have hr1 : cr j = 1 := hcj.elim (fun z => absurd z c_56) id
                have hE2 : EL n8 u w fz0 = ((C.take (j + 1)).filter isNv).foldl appG M9 := by rw [hEQ, flt_take hge, if_neg (by simp [isNv, hr1]), List.append_nil]
                refine lv_iinc (v := nI (j + 1)) (lv' := [(1, .int (nI (j + 1))), (0, .ref h)]) hx hb dX7_mergeAll_105 hl (k := 0) rfl (nI_1 j) (by decide) rfl (fun ls hl => ?_)
                refine lv_goto (tgt := 42) hx hb dX7_mergeAll_108 (by decide) ?_
                exact ih42 (j + 1) n8 u w _ _ ls hjn hE2 (by omega) hP hD hS (lv_sub hl [0, 1] rfl)
              · skip
                have hr1 : ¬ cr j = 1 := by rw [c_56]; decide
                have hE3 : ((C.take (j + 1)).filter isNv).foldl appG M9 = kput (ck j, cv j, 0) (EL n8 u w fz0) := by rw [flt_take hge, if_pos (by simp [isNv, hr1]), List.foldl_append, ← hEQ]; simp [appG, hr1]
                refine lv_aload_n hx hb dX7_mergeAll_59 rfl (lv_at hl 1 rfl) ?_
                refine lv_aload_n hx hb dX7_mergeAll_60 rfl (lv_at hl 1 rfl) ?_
                refine va_get (D := g.1) (ci := 9) (v := .ref bk) (C := RX7) (T := TX7) (N := 40) hx hb hts (by decide +kernel) hown hK hP 0 rfl rfl 5 (by decide) (hts (.fieldLink RX7 16 "LearnedIndexModel" "changedKeys" "[I") (by decide +kernel)) (fun _ h9 => h9) rfl dX7_mergeAll_61 ?_
                refine lv_iload_n hx hb dX7_mergeAll_64 rfl (lv_at hl 0 rfl) ?_
                refine va_iald hx hb hK hP 3 0 rfl rfl (vp_in_nI (show j < 24 by omega) (by omega)) dX7_mergeAll_65 ?_
                rw [show (nI j : Int32).toNatClampNeg = j from nI_clamp (n := j) (by omega)]
                refine kcalli (wc := [(h, .inr (9, [.int zth, .int (nI n8), .int (nI nB), .ref ak, .ref av, .ref bk, .ref bv, .ref br, .ref a_s, .ref a_t, .int (nI mS), .ref g1, .ref g2, .ref g3, .long zl1, .long zl2, .long zl3, .long zl4, .int zpb, .ref pa, .ref ru, .ref tx, .int zln, .int zat, .int zrk, .int zrv, .int zre, .int zwr, .int zrm, .int zrs, .int zis, .int zss, .int zsc, .ref dk, .ref dv, .ref ek, .ref ev, .ref er, .ref es, .ref et])), (ak, .inl (g.2.1.1, 152, .inl u))]) [0, 1] (va_runV (C := RX7) (As := [.int (ck j)]) (rest := []) ⟨hx, hb, hml, hown, hts⟩ ((c_X7_positionOf l g h zth (nI nB) (nI mS) zl1 zl2 zl3 zl4 zpb zln zat zrk zrv zre zwr zrm zrs zis zss zsc ak av bk bv br a_s a_t g1 g2 g3 pa ru tx dk dv ek ev er es et n8 u w (ck j) hs9 (by omega)) _) (cwV 1 hts gX7_mergeAll_X7_positionOf rfl rfl rfl (by decide +kernel) ⟨Nat.le_of_ble_eq_true rfl, Nat.le_of_ble_eq_true rfl⟩) (kpreV (wc := [(h, .inr (9, [.int zth, .int (nI n8), .int (nI nB), .ref ak, .ref av, .ref bk, .ref bv, .ref br, .ref a_s, .ref a_t, .int (nI mS), .ref g1, .ref g2, .ref g3, .long zl1, .long zl2, .long zl3, .long zl4, .int zpb, .ref pa, .ref ru, .ref tx, .int zln, .int zat, .int zrk, .int zrv, .int zre, .int zwr, .int zrm, .int zrs, .int zis, .int zss, .int zsc, .ref dk, .ref dv, .ref ek, .ref ev, .ref er, .ref es, .ref et])), (ak, .inl (g.2.1.1, 152, .inl u))]) (ci := 9) hK hP hD hS hA hE [0, 1] rfl rfl rfl rfl) rfl rfl hl.1 rfl (lv_room (Nat.le_of_ble_eq_true rfl)) dX7_mergeAll_66 ⟨Nat.zero_le _, Nat.zero_le _⟩) hP hD hS hA rfl (fun r_2 w_2 H locs hp hP hD hS => ?_)
                obtain ⟨im, rfl, hfm, rfl⟩ := hp
                have hP : va_P g.1 vwCl [(h, .inr (9, [.int zth, .int (nI n8), .int (nI nB), .ref ak, .ref av, .ref bk, .ref bv, .ref br, .ref a_s, .ref a_t, .int (nI mS), .ref g1, .ref g2, .ref g3, .long zl1, .long zl2, .long zl3, .long zl4, .int zpb, .ref pa, .ref ru, .ref tx, .int zln, .int zat, .int zrk, .int zrv, .int zre, .int zwr, .int zrm, .int zrs, .int zis, .int zss, .int zsc, .ref dk, .ref dv, .ref ek, .ref ev, .ref er, .ref es, .ref et])), (ak, .inl (g.2.1.1, 152, .inl u)), (av, .inl (g.2.1.1, 152, .inl w)), (bk, .inl (g.2.1.1, 24, .inl ck)), (bv, .inl (g.2.1.1, 24, .inl cv)), (br, .inl (g.2.1.1, 24, .inl cr)), (a_s, .inl (g.2.1.1, 4, .inl fS)), (a_t, .inl (g.2.1.1, 5, .inl fT)), (g1, .inl (g.2.1.1, 152, .inl y1)), (g2, .inl (g.2.1.1, 152, .inl y2)), (g3, .inl (g.2.1.1, 152, .inl y3))] H := hP
                have hD : va_D A [(h, .inr (9, [.int zth, .int (nI n8), .int (nI nB), .ref ak, .ref av, .ref bk, .ref bv, .ref br, .ref a_s, .ref a_t, .int (nI mS), .ref g1, .ref g2, .ref g3, .long zl1, .long zl2, .long zl3, .long zl4, .int zpb, .ref pa, .ref ru, .ref tx, .int zln, .int zat, .int zrk, .int zrv, .int zre, .int zwr, .int zrm, .int zrs, .int zis, .int zss, .int zsc, .ref dk, .ref dv, .ref ek, .ref ev, .ref er, .ref es, .ref et])), (ak, .inl (g.2.1.1, 152, .inl u)), (av, .inl (g.2.1.1, 152, .inl w)), (bk, .inl (g.2.1.1, 24, .inl ck)), (bv, .inl (g.2.1.1, 24, .inl cv)), (br, .inl (g.2.1.1, 24, .inl cr)), (a_s, .inl (g.2.1.1, 4, .inl fS)), (a_t, .inl (g.2.1.1, 5, .inl fT)), (g1, .inl (g.2.1.1, 152, .inl y1)), (g2, .inl (g.2.1.1, 152, .inl y2)), (g3, .inl (g.2.1.1, 152, .inl y3))] := hD
                refine lv_istore_n (lv' := [(2, .int (kfnd n8 u (ck j) im)), (1, .int (nI j)), (0, .ref h)]) hx hb dX7_mergeAll_69 rfl hl (by decide) rfl (fun ls hl => ?_)
                refine lv_iload_n hx hb dX7_mergeAll_70 rfl (lv_at hl 0 rfl) ?_
                refine lv_if_lt (tgt := 89) hx hb dX7_mergeAll_71 (by decide) (fun c_71 => ?_) (fun c_71 => ?_)
                · skip
                  have hmf : ¬ (im < n8 ∧ u im = ck j) := kfnd_lt (by omega) (Int32.not_le.mpr c_71)
                  have hno := kfst_no hs9 hfm hmf
                  have hl8 : n8 + 1 ≤ 150 := by have h8 := hle9 (j + 1); rw [hE3, kput_len _ _ hs9, kfst_lkp hs9 hfm, if_neg hmf] at h8; rw [EL_len] at h8; simpa using h8
                  refine lv_aload_n hx hb dX7_mergeAll_89 rfl (lv_at hl 2 rfl) ?_
                  refine lv_aload_n hx hb dX7_mergeAll_90 rfl (lv_at hl 2 rfl) ?_
                  refine va_get (D := g.1) (ci := 9) (v := .ref bk) (C := RX7) (T := TX7) (N := 40) hx hb hts (by decide +kernel) hown hK hP 0 rfl rfl 5 (by decide) (hts (.fieldLink RX7 16 "LearnedIndexModel" "changedKeys" "[I") (by decide +kernel)) (fun _ h9 => h9) rfl dX7_mergeAll_91 ?_
                  refine lv_iload_n hx hb dX7_mergeAll_94 rfl (lv_at hl 1 rfl) ?_
                  refine va_iald hx hb hK hP 3 0 rfl rfl (vp_in_nI (show j < 24 by omega) (by omega)) dX7_mergeAll_95 ?_
                  rw [show (nI j : Int32).toNatClampNeg = j from nI_clamp (n := j) (by omega)]
                  refine lv_aload_n hx hb dX7_mergeAll_96 rfl (lv_at hl 2 rfl) ?_
                  refine va_get (D := g.1) (ci := 9) (v := .ref bv) (C := RX7) (T := TX7) (N := 40) hx hb hts (by decide +kernel) hown hK hP 0 rfl rfl 6 (by decide) (hts (.fieldLink RX7 19 "LearnedIndexModel" "changedValues" "[I") (by decide +kernel)) (fun _ h9 => h9) rfl dX7_mergeAll_97 ?_
                  refine lv_iload_n hx hb dX7_mergeAll_100 rfl (lv_at hl 1 rfl) ?_
                  refine va_iald hx hb hK hP 4 0 rfl rfl (vp_in_nI (show j < 24 by omega) (by omega)) dX7_mergeAll_101 ?_
                  rw [show (nI j : Int32).toNatClampNeg = j from nI_clamp (n := j) (by omega)]
                  refine kcallv (wc := [(h, .inr (9, [.int zth, .int (nI n8), .int (nI nB), .ref ak, .ref av, .ref bk, .ref bv, .ref br, .ref a_s, .ref a_t, .int (nI mS), .ref g1, .ref g2, .ref g3, .long zl1, .long zl2, .long zl3, .long zl4, .int zpb, .ref pa, .ref ru, .ref tx, .int zln, .int zat, .int zrk, .int zrv, .int zre, .int zwr, .int zrm, .int zrs, .int zis, .int zss, .int zsc, .ref dk, .ref dv, .ref ek, .ref ev, .ref er, .ref es, .ref et])), (ak, .inl (g.2.1.1, 152, .inl u)), (av, .inl (g.2.1.1, 152, .inl w))]) [0, 1, 2] (va_runV (C := RX7) (As := [.int (ck j), .int (cv j)]) (rest := []) ⟨hx, hb, hml, hown, hts⟩ ((c_X7_insertMain l g h zth (nI nB) (nI mS) zl1 zl2 zl3 zl4 zpb zln zat zrk zrv zre zwr zrm zrs zis zss zsc ak av bk bv br a_s a_t g1 g2 g3 pa ru tx dk dv ek ev er es et n8 u w (ck j) (cv j) hs9 hl9 hno) _) (cwV 2 hts gX7_mergeAll_X7_insertMain rfl rfl rfl (by decide +kernel) ⟨Nat.le_of_ble_eq_true rfl, Nat.le_of_ble_eq_true rfl⟩) (kpreV (wc := [(h, .inr (9, [.int zth, .int (nI n8), .int (nI nB), .ref ak, .ref av, .ref bk, .ref bv, .ref br, .ref a_s, .ref a_t, .int (nI mS), .ref g1, .ref g2, .ref g3, .long zl1, .long zl2, .long zl3, .long zl4, .int zpb, .ref pa, .ref ru, .ref tx, .int zln, .int zat, .int zrk, .int zrv, .int zre, .int zwr, .int zrm, .int zrs, .int zis, .int zss, .int zsc, .ref dk, .ref dv, .ref ek, .ref ev, .ref er, .ref es, .ref et])), (ak, .inl (g.2.1.1, 152, .inl u)), (av, .inl (g.2.1.1, 152, .inl w))]) (ci := 9) hK hP hD hS hA hE [0, 1, 2] rfl rfl rfl rfl) rfl rfl hl.1 rfl (lv_room (Nat.le_of_ble_eq_true rfl)) dX7_mergeAll_102 ⟨Nat.zero_le _, Nat.zero_le _⟩) hP hD hS hA rfl (fun w_3 H locs hp hP hD hS => ?_)
                  obtain ⟨u2, w2, hL9, rfl⟩ := hp
                  have hP : va_P g.1 vwCl [(h, .inr (9, [.int zth, .int (nI (n8 + 1)), .int (nI nB), .ref ak, .ref av, .ref bk, .ref bv, .ref br, .ref a_s, .ref a_t, .int (nI mS), .ref g1, .ref g2, .ref g3, .long zl1, .long zl2, .long zl3, .long zl4, .int zpb, .ref pa, .ref ru, .ref tx, .int zln, .int zat, .int zrk, .int zrv, .int zre, .int zwr, .int zrm, .int zrs, .int zis, .int zss, .int zsc, .ref dk, .ref dv, .ref ek, .ref ev, .ref er, .ref es, .ref et])), (ak, .inl (g.2.1.1, 152, .inl u2)), (av, .inl (g.2.1.1, 152, .inl w2)), (bk, .inl (g.2.1.1, 24, .inl ck)), (bv, .inl (g.2.1.1, 24, .inl cv)), (br, .inl (g.2.1.1, 24, .inl cr)), (a_s, .inl (g.2.1.1, 4, .inl fS)), (a_t, .inl (g.2.1.1, 5, .inl fT)), (g1, .inl (g.2.1.1, 152, .inl y1)), (g2, .inl (g.2.1.1, 152, .inl y2)), (g3, .inl (g.2.1.1, 152, .inl y3))] H := hP
                  have hD : va_D A [(h, .inr (9, [.int zth, .int (nI (n8 + 1)), .int (nI nB), .ref ak, .ref av, .ref bk, .ref bv, .ref br, .ref a_s, .ref a_t, .int (nI mS), .ref g1, .ref g2, .ref g3, .long zl1, .long zl2, .long zl3, .long zl4, .int zpb, .ref pa, .ref ru, .ref tx, .int zln, .int zat, .int zrk, .int zrv, .int zre, .int zwr, .int zrm, .int zrs, .int zis, .int zss, .int zsc, .ref dk, .ref dv, .ref ek, .ref ev, .ref er, .ref es, .ref et])), (ak, .inl (g.2.1.1, 152, .inl u2)), (av, .inl (g.2.1.1, 152, .inl w2)), (bk, .inl (g.2.1.1, 24, .inl ck)), (bv, .inl (g.2.1.1, 24, .inl cv)), (br, .inl (g.2.1.1, 24, .inl cr)), (a_s, .inl (g.2.1.1, 4, .inl fS)), (a_t, .inl (g.2.1.1, 5, .inl fT)), (g1, .inl (g.2.1.1, 152, .inl y1)), (g2, .inl (g.2.1.1, 152, .inl y2)), (g3, .inl (g.2.1.1, 152, .inl y3))] := hD
                  have hE2 : EL (n8 + 1) u2 w2 fz0 = ((C.take (j + 1)).filter isNv).foldl appG M9 := by rw [hE3]; exact hL9
                  refine lv_iinc (v := nI (j + 1)) (lv' := [(1, .int (nI (j + 1))), (2, .int (kfnd n8 u (ck j) im)), (0, .ref h)]) hx hb dX7_mergeAll_105 hl (k := 1) rfl (nI_1 j) (by decide) rfl (fun ls hl => ?_)
                  refine lv_goto (tgt := 42) hx hb dX7_mergeAll_108 (by decide) ?_
                  exact ih42 (j + 1) (n8 + 1) u2 w2 _ _ ls hjn hE2 (by omega) hP hD hS (lv_sub hl [0, 2] rfl)
                · skip
                  have hmf := kfnd_ge (Int32.not_lt.mp c_71)
                  rw [show (kfnd n8 u (ck j) im : Int32) = nI im from by rw [kfnd, if_pos hmf]] at hl
                  have hl : lv_has ls 3 [(2, .int (nI im)), (1, .int (nI j)), (0, .ref h)] := hl
                  refine lv_aload_n hx hb dX7_mergeAll_74 rfl (lv_at hl 2 rfl) ?_
                  refine va_get (D := g.1) (ci := 9) (v := .ref av) (C := RX7) (T := TX7) (N := 40) hx hb hts (by decide +kernel) hown hK hP 0 rfl rfl 4 (by decide) (hts (.fieldLink RX7 13 "LearnedIndexModel" "values" "[I") (by decide +kernel)) (fun _ h9 => h9) rfl dX7_mergeAll_75 ?_
                  refine lv_iload_n hx hb dX7_mergeAll_78 rfl (lv_at hl 0 rfl) ?_
                  refine lv_aload_n hx hb dX7_mergeAll_79 rfl (lv_at hl 2 rfl) ?_
                  refine va_get (D := g.1) (ci := 9) (v := .ref bv) (C := RX7) (T := TX7) (N := 40) hx hb hts (by decide +kernel) hown hK hP 0 rfl rfl 6 (by decide) (hts (.fieldLink RX7 19 "LearnedIndexModel" "changedValues" "[I") (by decide +kernel)) (fun _ h9 => h9) rfl dX7_mergeAll_80 ?_
                  refine lv_iload_n hx hb dX7_mergeAll_83 rfl (lv_at hl 1 rfl) ?_
                  refine va_iald hx hb hK hP 4 0 rfl rfl (vp_in_nI (show j < 24 by omega) (by omega)) dX7_mergeAll_84 ?_
                  rw [show (nI j : Int32).toNatClampNeg = j from nI_clamp (n := j) (by omega)]
                  refine va_iast hx hb hK hP hD hS 2 0 rfl rfl (vp_in_nI (show im < 152 by omega) (by omega)) dX7_mergeAll_85 (fun H locs hP hD hS => ?_)
                  rw [show (nI im : Int32).toNatClampNeg = im from nI_clamp (n := im) (by omega)] at hP hD
                  have hP : va_P g.1 vwCl [(h, .inr (9, [.int zth, .int (nI n8), .int (nI nB), .ref ak, .ref av, .ref bk, .ref bv, .ref br, .ref a_s, .ref a_t, .int (nI mS), .ref g1, .ref g2, .ref g3, .long zl1, .long zl2, .long zl3, .long zl4, .int zpb, .ref pa, .ref ru, .ref tx, .int zln, .int zat, .int zrk, .int zrv, .int zre, .int zwr, .int zrm, .int zrs, .int zis, .int zss, .int zsc, .ref dk, .ref dv, .ref ek, .ref ev, .ref er, .ref es, .ref et])), (ak, .inl (g.2.1.1, 152, .inl u)), (av, .inl (g.2.1.1, 152, .inl (upd w im (cv j)))), (bk, .inl (g.2.1.1, 24, .inl ck)), (bv, .inl (g.2.1.1, 24, .inl cv)), (br, .inl (g.2.1.1, 24, .inl cr)), (a_s, .inl (g.2.1.1, 4, .inl fS)), (a_t, .inl (g.2.1.1, 5, .inl fT)), (g1, .inl (g.2.1.1, 152, .inl y1)), (g2, .inl (g.2.1.1, 152, .inl y2)), (g3, .inl (g.2.1.1, 152, .inl y3))] H := hP
                  have hD : va_D A [(h, .inr (9, [.int zth, .int (nI n8), .int (nI nB), .ref ak, .ref av, .ref bk, .ref bv, .ref br, .ref a_s, .ref a_t, .int (nI mS), .ref g1, .ref g2, .ref g3, .long zl1, .long zl2, .long zl3, .long zl4, .int zpb, .ref pa, .ref ru, .ref tx, .int zln, .int zat, .int zrk, .int zrv, .int zre, .int zwr, .int zrm, .int zrs, .int zis, .int zss, .int zsc, .ref dk, .ref dv, .ref ek, .ref ev, .ref er, .ref es, .ref et])), (ak, .inl (g.2.1.1, 152, .inl u)), (av, .inl (g.2.1.1, 152, .inl (upd w im (cv j)))), (bk, .inl (g.2.1.1, 24, .inl ck)), (bv, .inl (g.2.1.1, 24, .inl cv)), (br, .inl (g.2.1.1, 24, .inl cr)), (a_s, .inl (g.2.1.1, 4, .inl fS)), (a_t, .inl (g.2.1.1, 5, .inl fT)), (g1, .inl (g.2.1.1, 152, .inl y1)), (g2, .inl (g.2.1.1, 152, .inl y2)), (g3, .inl (g.2.1.1, 152, .inl y3))] := hD
                  have hE2 : EL n8 u (upd w im (cv j)) fz0 = ((C.take (j + 1)).filter isNv).foldl appG M9 := by rw [hE3]; exact put_old hfm hmf.1 hmf.2
                  refine lv_goto (tgt := 105) hx hb dX7_mergeAll_86 (by decide) ?_
                  refine lv_iinc (v := nI (j + 1)) (lv' := [(1, .int (nI (j + 1))), (2, .int (nI im)), (0, .ref h)]) hx hb dX7_mergeAll_105 hl (k := 1) rfl (nI_1 j) (by decide) rfl (fun ls hl => ?_)
                  refine lv_goto (tgt := 42) hx hb dX7_mergeAll_108 (by decide) ?_
                  exact ih42 (j + 1) n8 u (upd w im (cv j)) _ _ ls hjn hE2 (by omega) hP hD hS (lv_sub hl [0, 2] rfl)
        exact L42 _ 0 n8 u w _ _ ls (Nat.zero_le _) hE9 (Nat.lt_succ_self _) hP hD hS (lv_sub hl [0, 1] rfl)
      · skip
        have hjn : j < nB := kl (by omega) (by omega) c_7
        have hge : C[j]? = some (ck j, cv j, cr j) := by rw [← hC, EL_get, if_pos hjn]
        refine lv_aload_n hx hb dX7_mergeAll_10 rfl (lv_at hl 1 rfl) ?_
        refine va_get (D := g.1) (ci := 9) (v := .ref br) (C := RX7) (T := TX7) (N := 40) hx hb hts (by decide +kernel) hown hK hP 0 rfl rfl 7 (by decide) (hts (.fieldLink RX7 22 "LearnedIndexModel" "changedKinds" "[I") (by decide +kernel)) (fun _ h9 => h9) rfl dX7_mergeAll_11 ?_
        refine lv_iload_n hx hb dX7_mergeAll_14 rfl (lv_at hl 0 rfl) ?_
        refine va_iald hx hb hK hP 5 0 rfl rfl (vp_in_nI (show j < 24 by omega) (by omega)) dX7_mergeAll_15 ?_
        rw [show (nI j : Int32).toNatClampNeg = j from nI_clamp (n := j) (by omega)]
        refine lv_iconst (v := 1) hx hb dX7_mergeAll_16 (by decide) ?_
        refine lv_icmp_ne (tgt := 34) hx hb dX7_mergeAll_17 (by decide) (fun c_17 => ?_) (fun c_17 => ?_)
        · skip
          have hr1 : ¬ cr j = 1 := c_17
          have hE2 : EL n8 u w fz0 = ((C.take (j + 1)).filter isRm).foldl appG M := by rw [hEQ, flt_take hge, if_neg (by simp [isRm, hr1]), List.append_nil]
          refine lv_iinc (v := nI (j + 1)) (lv' := [(1, .int (nI (j + 1))), (0, .ref h)]) hx hb dX7_mergeAll_34 hl (k := 0) rfl (nI_1 j) (by decide) rfl (fun ls hl => ?_)
          refine lv_goto (tgt := 2) hx hb dX7_mergeAll_37 (by decide) ?_
          exact ih2 (j + 1) n8 u w _ _ ls hjn (by omega) hE2 (by omega) hP hD hS (lv_sub hl [0, 1] rfl)
        · skip
          have hr1 : cr j = 1 := c_17
          have hs9 : kSo (EL n8 u w fz0) := by rw [hEQ]; exact fold_so _ _ hIM.1
          have hin9 : (lkp (EL n8 u w fz0) (ck j)).isSome = true := by rw [hEQ, fold_lkp _ _ hIM.1 (flt2_so _ (take_so hIC.1 j)) (kMM_z hMM), rsl, flt_take_no isRm hIC.1 hge]; simp only [Option.isSome_map]; exact hrem _ (List.mem_of_getElem? hge) hr1
          refine lv_aload_n hx hb dX7_mergeAll_20 rfl (lv_at hl 1 rfl) ?_
          refine lv_aload_n hx hb dX7_mergeAll_21 rfl (lv_at hl 1 rfl) ?_
          refine lv_aload_n hx hb dX7_mergeAll_22 rfl (lv_at hl 1 rfl) ?_
          refine va_get (D := g.1) (ci := 9) (v := .ref bk) (C := RX7) (T := TX7) (N := 40) hx hb hts (by decide +kernel) hown hK hP 0 rfl rfl 5 (by decide) (hts (.fieldLink RX7 16 "LearnedIndexModel" "changedKeys" "[I") (by decide +kernel)) (fun _ h9 => h9) rfl dX7_mergeAll_23 ?_
          refine lv_iload_n hx hb dX7_mergeAll_26 rfl (lv_at hl 0 rfl) ?_
          refine va_iald hx hb hK hP 3 0 rfl rfl (vp_in_nI (show j < 24 by omega) (by omega)) dX7_mergeAll_27 ?_
          rw [show (nI j : Int32).toNatClampNeg = j from nI_clamp (n := j) (by omega)]
          refine kcalli (wc := [(h, .inr (9, [.int zth, .int (nI n8), .int (nI nB), .ref ak, .ref av, .ref bk, .ref bv, .ref br, .ref a_s, .ref a_t, .int (nI mS), .ref g1, .ref g2, .ref g3, .long zl1, .long zl2, .long zl3, .long zl4, .int zpb, .ref pa, .ref ru, .ref tx, .int zln, .int zat, .int zrk, .int zrv, .int zre, .int zwr, .int zrm, .int zrs, .int zis, .int zss, .int zsc, .ref dk, .ref dv, .ref ek, .ref ev, .ref er, .ref es, .ref et])), (ak, .inl (g.2.1.1, 152, .inl u))]) [0, 1] (va_runV (C := RX7) (As := [.int (ck j)]) (rest := [.ref h]) ⟨hx, hb, hml, hown, hts⟩ ((c_X7_positionOf l g h zth (nI nB) (nI mS) zl1 zl2 zl3 zl4 zpb zln zat zrk zrv zre zwr zrm zrs zis zss zsc ak av bk bv br a_s a_t g1 g2 g3 pa ru tx dk dv ek ev er es et n8 u w (ck j) hs9 (by omega)) _) (cwV 1 hts gX7_mergeAll_X7_positionOf rfl rfl rfl (by decide +kernel) ⟨Nat.le_of_ble_eq_true rfl, Nat.le_of_ble_eq_true rfl⟩) (kpreV (wc := [(h, .inr (9, [.int zth, .int (nI n8), .int (nI nB), .ref ak, .ref av, .ref bk, .ref bv, .ref br, .ref a_s, .ref a_t, .int (nI mS), .ref g1, .ref g2, .ref g3, .long zl1, .long zl2, .long zl3, .long zl4, .int zpb, .ref pa, .ref ru, .ref tx, .int zln, .int zat, .int zrk, .int zrv, .int zre, .int zwr, .int zrm, .int zrs, .int zis, .int zss, .int zsc, .ref dk, .ref dv, .ref ek, .ref ev, .ref er, .ref es, .ref et])), (ak, .inl (g.2.1.1, 152, .inl u))]) (ci := 9) hK hP hD hS hA hE [0, 1] rfl rfl rfl rfl) rfl rfl hl.1 rfl (lv_room (Nat.le_of_ble_eq_true rfl)) dX7_mergeAll_28 ⟨Nat.zero_le _, Nat.zero_le _⟩) hP hD hS hA rfl (fun r_4 w_4 H locs hp hP hD hS => ?_)
          obtain ⟨im, rfl, hfm, rfl⟩ := hp
          have hP : va_P g.1 vwCl [(h, .inr (9, [.int zth, .int (nI n8), .int (nI nB), .ref ak, .ref av, .ref bk, .ref bv, .ref br, .ref a_s, .ref a_t, .int (nI mS), .ref g1, .ref g2, .ref g3, .long zl1, .long zl2, .long zl3, .long zl4, .int zpb, .ref pa, .ref ru, .ref tx, .int zln, .int zat, .int zrk, .int zrv, .int zre, .int zwr, .int zrm, .int zrs, .int zis, .int zss, .int zsc, .ref dk, .ref dv, .ref ek, .ref ev, .ref er, .ref es, .ref et])), (ak, .inl (g.2.1.1, 152, .inl u)), (av, .inl (g.2.1.1, 152, .inl w)), (bk, .inl (g.2.1.1, 24, .inl ck)), (bv, .inl (g.2.1.1, 24, .inl cv)), (br, .inl (g.2.1.1, 24, .inl cr)), (a_s, .inl (g.2.1.1, 4, .inl fS)), (a_t, .inl (g.2.1.1, 5, .inl fT)), (g1, .inl (g.2.1.1, 152, .inl y1)), (g2, .inl (g.2.1.1, 152, .inl y2)), (g3, .inl (g.2.1.1, 152, .inl y3))] H := hP
          have hD : va_D A [(h, .inr (9, [.int zth, .int (nI n8), .int (nI nB), .ref ak, .ref av, .ref bk, .ref bv, .ref br, .ref a_s, .ref a_t, .int (nI mS), .ref g1, .ref g2, .ref g3, .long zl1, .long zl2, .long zl3, .long zl4, .int zpb, .ref pa, .ref ru, .ref tx, .int zln, .int zat, .int zrk, .int zrv, .int zre, .int zwr, .int zrm, .int zrs, .int zis, .int zss, .int zsc, .ref dk, .ref dv, .ref ek, .ref ev, .ref er, .ref es, .ref et])), (ak, .inl (g.2.1.1, 152, .inl u)), (av, .inl (g.2.1.1, 152, .inl w)), (bk, .inl (g.2.1.1, 24, .inl ck)), (bv, .inl (g.2.1.1, 24, .inl cv)), (br, .inl (g.2.1.1, 24, .inl cr)), (a_s, .inl (g.2.1.1, 4, .inl fS)), (a_t, .inl (g.2.1.1, 5, .inl fT)), (g1, .inl (g.2.1.1, 152, .inl y1)), (g2, .inl (g.2.1.1, 152, .inl y2)), (g3, .inl (g.2.1.1, 152, .inl y3))] := hD
          have hmf : im < n8 ∧ u im = ck j := Decidable.byContradiction (fun z => by rw [kfst_lkp hs9 hfm, if_neg z] at hin9; cases hin9)
          rw [show (kfnd n8 u (ck j) im : Int32) = nI im from by rw [kfnd, if_pos hmf]]
          refine kcallv (wc := [(h, .inr (9, [.int zth, .int (nI n8), .int (nI nB), .ref ak, .ref av, .ref bk, .ref bv, .ref br, .ref a_s, .ref a_t, .int (nI mS), .ref g1, .ref g2, .ref g3, .long zl1, .long zl2, .long zl3, .long zl4, .int zpb, .ref pa, .ref ru, .ref tx, .int zln, .int zat, .int zrk, .int zrv, .int zre, .int zwr, .int zrm, .int zrs, .int zis, .int zss, .int zsc, .ref dk, .ref dv, .ref ek, .ref ev, .ref er, .ref es, .ref et])), (ak, .inl (g.2.1.1, 152, .inl u)), (av, .inl (g.2.1.1, 152, .inl w))]) [0, 1, 2] (va_runV (C := RX7) (As := [.int (nI im)]) (rest := []) ⟨hx, hb, hml, hown, hts⟩ ((c_X7_removeMain l g h zth (nI nB) (nI mS) zl1 zl2 zl3 zl4 zpb zln zat zrk zrv zre zwr zrm zrs zis zss zsc ak av bk bv br a_s a_t g1 g2 g3 pa ru tx dk dv ek ev er es et n8 u w im (by omega) hmf.1) _) (cwV 1 hts gX7_mergeAll_X7_removeMain rfl rfl rfl (by decide +kernel) ⟨Nat.le_of_ble_eq_true rfl, Nat.le_of_ble_eq_true rfl⟩) (kpreV (wc := [(h, .inr (9, [.int zth, .int (nI n8), .int (nI nB), .ref ak, .ref av, .ref bk, .ref bv, .ref br, .ref a_s, .ref a_t, .int (nI mS), .ref g1, .ref g2, .ref g3, .long zl1, .long zl2, .long zl3, .long zl4, .int zpb, .ref pa, .ref ru, .ref tx, .int zln, .int zat, .int zrk, .int zrv, .int zre, .int zwr, .int zrm, .int zrs, .int zis, .int zss, .int zsc, .ref dk, .ref dv, .ref ek, .ref ev, .ref er, .ref es, .ref et])), (ak, .inl (g.2.1.1, 152, .inl u)), (av, .inl (g.2.1.1, 152, .inl w))]) (ci := 9) hK hP hD hS hA hE [0, 1, 2] rfl rfl rfl rfl) rfl rfl hl.1 rfl (lv_room (Nat.le_of_ble_eq_true rfl)) dX7_mergeAll_31 ⟨Nat.zero_le _, Nat.zero_le _⟩) hP hD hS hA rfl (fun w_5 H locs hp hP hD hS => ?_)
          obtain ⟨u2, w2, hL9, rfl⟩ := hp
          have hP : va_P g.1 vwCl [(h, .inr (9, [.int zth, .int (nI (n8 - 1)), .int (nI nB), .ref ak, .ref av, .ref bk, .ref bv, .ref br, .ref a_s, .ref a_t, .int (nI mS), .ref g1, .ref g2, .ref g3, .long zl1, .long zl2, .long zl3, .long zl4, .int zpb, .ref pa, .ref ru, .ref tx, .int zln, .int zat, .int zrk, .int zrv, .int zre, .int zwr, .int zrm, .int zrs, .int zis, .int zss, .int zsc, .ref dk, .ref dv, .ref ek, .ref ev, .ref er, .ref es, .ref et])), (ak, .inl (g.2.1.1, 152, .inl u2)), (av, .inl (g.2.1.1, 152, .inl w2)), (bk, .inl (g.2.1.1, 24, .inl ck)), (bv, .inl (g.2.1.1, 24, .inl cv)), (br, .inl (g.2.1.1, 24, .inl cr)), (a_s, .inl (g.2.1.1, 4, .inl fS)), (a_t, .inl (g.2.1.1, 5, .inl fT)), (g1, .inl (g.2.1.1, 152, .inl y1)), (g2, .inl (g.2.1.1, 152, .inl y2)), (g3, .inl (g.2.1.1, 152, .inl y3))] H := hP
          have hD : va_D A [(h, .inr (9, [.int zth, .int (nI (n8 - 1)), .int (nI nB), .ref ak, .ref av, .ref bk, .ref bv, .ref br, .ref a_s, .ref a_t, .int (nI mS), .ref g1, .ref g2, .ref g3, .long zl1, .long zl2, .long zl3, .long zl4, .int zpb, .ref pa, .ref ru, .ref tx, .int zln, .int zat, .int zrk, .int zrv, .int zre, .int zwr, .int zrm, .int zrs, .int zis, .int zss, .int zsc, .ref dk, .ref dv, .ref ek, .ref ev, .ref er, .ref es, .ref et])), (ak, .inl (g.2.1.1, 152, .inl u2)), (av, .inl (g.2.1.1, 152, .inl w2)), (bk, .inl (g.2.1.1, 24, .inl ck)), (bv, .inl (g.2.1.1, 24, .inl cv)), (br, .inl (g.2.1.1, 24, .inl cr)), (a_s, .inl (g.2.1.1, 4, .inl fS)), (a_t, .inl (g.2.1.1, 5, .inl fT)), (g1, .inl (g.2.1.1, 152, .inl y1)), (g2, .inl (g.2.1.1, 152, .inl y2)), (g3, .inl (g.2.1.1, 152, .inl y3))] := hD
          have hE2 : EL (n8 - 1) u2 w2 fz0 = ((C.take (j + 1)).filter isRm).foldl appG M := by rw [hL9, flt_take hge, if_pos (by simp [isRm, hr1]), List.foldl_append, ← hEQ, erase_flt _ im (ck j) hs9 (fun e9 he => by rw [EL_get, if_pos hmf.1] at he; cases he; exact hmf.2) (by rw [EL_len]; exact hmf.1)]; simp [appG, hr1]
          refine lv_iinc (v := nI (j + 1)) (lv' := [(1, .int (nI (j + 1))), (0, .ref h)]) hx hb dX7_mergeAll_34 hl (k := 0) rfl (nI_1 j) (by decide) rfl (fun ls hl => ?_)
          refine lv_goto (tgt := 2) hx hb dX7_mergeAll_37 (by decide) ?_
          exact ih2 (j + 1) (n8 - 1) u2 w2 _ _ ls hjn (by omega) hE2 (by omega) hP hD hS (lv_sub hl [0, 1] rfl)
  exact L2 _ 0 nA fk fv _ _ ls (Nat.zero_le _) (Nat.le_refl _) hM (Nat.lt_succ_self _) hP hD hS (lv_sub hl [0, 1] rfl)
