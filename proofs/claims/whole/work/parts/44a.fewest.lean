/-! ===== the model: fewest, countSegments, leastBound ===== -/
theorem fseq_le0 (lst : Nat → Nat) : ∀ (k e : Nat), fseq lst fst0 k e ≤ 152
  | 0, e => by simp only [fseq, fst0]; split <;> omega
  | k + 1, e => by
    have h1 := fseq_le0 lst k e
    simp only [fseq, fstep]
    split
    · exact Nat.le_trans (Nat.min_le_right _ _) h1
    · exact h1
theorem gw0_out {κ : Nat → Int} {n f : Nat} {β : Int} (h : n ≤ f) : (gw0 κ n f β).1 = f := by
  rw [gw0, show n - (f + 1) = 0 by omega, gw]; simp
theorem fewS_0 {κ : Nat → Int} {n : Nat} {β : Int} (h : kasc κ n) (hn : n ≤ 150) (hβ : 0 ≤ β ∧ β ≤ 8) : fseq (fun f => (gw0 κ n f β).1) fst0 n n = fewS κ n β := by
  have hl : ∀ f, f ≤ (fun f => (gw0 κ n f β).1) f := by
    intro f
    rcases Nat.lt_or_ge f n with z | z
    · exact (gw0_bd h (by omega) hβ z).1.1
    · simp only [gw0_out z]; exact Nat.le_refl f
  have h1 := fseq_rel _ hl n
  have h2 := h1.1 n (by omega)
  have h3 := h1.2 n (Nat.le_refl n) (by omega)
  rw [fewS]
  omega
theorem fpart_s (F : Nat → Nat) {f j e : Nat} (h : f ≤ j) : fpart F f (j + 1 + 1) e = if e = j + 1 then min (F f + 1) (F (j + 1)) else fpart F f (j + 1) e := by
  unfold fpart
  by_cases z : e = j + 1
  · subst z; rw [if_pos (by omega), if_pos rfl]
  · rw [if_neg z]
    by_cases z2 : f < e ∧ e < j + 1
    · rw [if_pos z2, if_pos (by omega)]
    · rw [if_neg z2, if_neg (by omega)]
theorem fpart_f (F : Nat → Nat) (f t : Nat) : fpart F f t f = F f := by unfold fpart; rw [if_neg (by omega)]
theorem fpart_t (F : Nat → Nat) (f t : Nat) : fpart F f t t = F t := by unfold fpart; rw [if_neg (by omega)]
theorem sg_len_s {κ : Nat → Int} {n fi : Nat} {β : Int} (h : kasc κ n) (hn : n ≤ 160) (hβ : 0 ≤ β ∧ β ≤ 8) (hf : fi < n) : (sg κ n β (n - fi) fi).length = (sg κ n β (n - ((gw0 κ n fi β).1 + 1)) ((gw0 κ n fi β).1 + 1)).length + 1 := by
  have hb := gw0_bd h hn hβ hf
  have e := sg_enough h hn hβ (f := (gw0 κ n fi β).1 + 1) ((gw0 κ n fi β).1 - fi)
  rw [show n - ((gw0 κ n fi β).1 + 1) + ((gw0 κ n fi β).1 - fi) = n - fi - 1 by omega] at e
  rw [show n - fi = (n - fi - 1) + 1 by omega, sg_s, if_pos hf, e, List.length_cons]
theorem nI_gt {a : Nat} {y : Int32} (ha : a < 2 ^ 31) : nI a ≤ y ↔ ((a : Nat) : Int) ≤ y.toInt := by
  rw [Int32.le_iff_toInt_le, nI_toInt ha]
theorem stV_isB (b : Int32) : isB b 1 8 = kbool (stV 0 b) := by rw [isB_k, stV_0]

set_option maxRecDepth 20000 in
theorem ggX7_fewest_X7_isBetween : GoodIn wsX7_fewest wsX7_isBetween := goodIn_r _ [6] (by decide +kernel) (by decide +kernel)
set_option maxRecDepth 20000 in
theorem gX7_fewest_X7_isBetween : GoodIn wsX7_fewest (va_wsS RX7 75 yX7_isBetween wsX7_isBetween) := goodIn_app (goodIn_of _ (by decide +kernel)) ggX7_fewest_X7_isBetween
set_option maxRecDepth 20000 in
theorem ggX7_fewest_X7_fails : GoodIn wsX7_fewest wsX7_fails := goodIn_r _ [10, 11, 29, 30, 31, 32, 33, 34, 35, 36, 37, 38, 39, 40, 41, 42, 43, 44, 45, 46, 47, 48, 49, 50, 51, 52, 53, 54, 55, 56, 57, 58, 59, 60, 61, 62, 63, 64, 65, 66, 67, 68] (by decide +kernel) (by decide +kernel)
set_option maxRecDepth 20000 in
theorem gX7_fewest_X7_fails : GoodIn wsX7_fewest (wsV RX7 120 RX7 yX7_fails wsX7_fails) := goodIn_app (goodIn_of _ (by decide +kernel)) ggX7_fewest_X7_fails
set_option maxRecDepth 20000 in
theorem ggX7_fewest_X7_longestRun : GoodIn wsX7_fewest wsX7_longestRun := goodIn_ca (goodIn_r _ [15, 1, 16, 17, 18, 5, 19, 20, 21, 22, 23, 24, 25, 26, 27, 28, 29, 30, 31, 32, 33, 34, 35, 36, 37, 38, 39, 40, 41, 42, 43, 44, 45, 46, 47, 48, 49, 50, 51, 52, 53, 54, 55, 56, 57, 58, 59, 60, 61, 62, 63, 64, 65, 66, 67, 68] (by decide +kernel) (by decide +kernel)) (goodIn_sub (fun _ h => List.mem_cons_of_mem _ (List.mem_append_right _ h)) (by decide +kernel))
set_option maxRecDepth 20000 in
theorem gX7_fewest_X7_longestRun : GoodIn wsX7_fewest (wsV RX7 166 RX7 yX7_longestRun wsX7_longestRun) := goodIn_app (goodIn_of _ (by decide +kernel)) ggX7_fewest_X7_longestRun
theorem dX7_fewest_0 : decode cX7_fewest 0 = .ok (.aload_n 0, 1) := by decide +kernel
theorem dX7_fewest_1 : decode cX7_fewest 1 = .ok (.iconst 1, 1) := by decide +kernel
theorem dX7_fewest_2 : decode cX7_fewest 2 = .ok (.iload_n 1, 1) := by decide +kernel
theorem dX7_fewest_3 : decode cX7_fewest 3 = .ok (.iconst 1, 1) := by decide +kernel
theorem dX7_fewest_4 : decode cX7_fewest 4 = .ok (.bipush 8, 2) := by decide +kernel
theorem dX7_fewest_6 : decode cX7_fewest 6 = .ok (.invokestatic 75, 3) := by decide +kernel
theorem dX7_fewest_9 : decode cX7_fewest 9 = .ok (.ifCond .ne 7, 3) := by decide +kernel
theorem dX7_fewest_12 : decode cX7_fewest 12 = .ok (.iconst 1, 1) := by decide +kernel
theorem dX7_fewest_13 : decode cX7_fewest 13 = .ok (.goto 4, 3) := by decide +kernel
theorem dX7_fewest_16 : decode cX7_fewest 16 = .ok (.iconst 0, 1) := by decide +kernel
theorem dX7_fewest_17 : decode cX7_fewest 17 = .ok (.invokevirtual 120, 3) := by decide +kernel
theorem dX7_fewest_20 : decode cX7_fewest 20 = .ok (.ifCond .eq 5, 3) := by decide +kernel
theorem dX7_fewest_23 : decode cX7_fewest 23 = .ok (.iconst 0, 1) := by decide +kernel
theorem dX7_fewest_24 : decode cX7_fewest 24 = .ok (.ireturn, 1) := by decide +kernel
theorem dX7_fewest_25 : decode cX7_fewest 25 = .ok (.iconst 1, 1) := by decide +kernel
theorem dX7_fewest_26 : decode cX7_fewest 26 = .ok (.istore_n 2, 1) := by decide +kernel
theorem dX7_fewest_27 : decode cX7_fewest 27 = .ok (.iload_n 2, 1) := by decide +kernel
theorem dX7_fewest_28 : decode cX7_fewest 28 = .ok (.aload_n 0, 1) := by decide +kernel
theorem dX7_fewest_29 : decode cX7_fewest 29 = .ok (.getfield 79, 3) := by decide +kernel
theorem dX7_fewest_32 : decode cX7_fewest 32 = .ok (.if_icmp .gt 18, 3) := by decide +kernel
theorem dX7_fewest_35 : decode cX7_fewest 35 = .ok (.aload_n 0, 1) := by decide +kernel
theorem dX7_fewest_36 : decode cX7_fewest 36 = .ok (.getfield 43, 3) := by decide +kernel
theorem dX7_fewest_39 : decode cX7_fewest 39 = .ok (.iload_n 2, 1) := by decide +kernel
theorem dX7_fewest_40 : decode cX7_fewest 40 = .ok (.sipush 152, 3) := by decide +kernel
theorem dX7_fewest_43 : decode cX7_fewest 43 = .ok (.iastore, 1) := by decide +kernel
theorem dX7_fewest_44 : decode cX7_fewest 44 = .ok (.iinc 2 1, 3) := by decide +kernel
theorem dX7_fewest_47 : decode cX7_fewest 47 = .ok (.goto (-20), 3) := by decide +kernel
theorem dX7_fewest_50 : decode cX7_fewest 50 = .ok (.aload_n 0, 1) := by decide +kernel
theorem dX7_fewest_51 : decode cX7_fewest 51 = .ok (.getfield 43, 3) := by decide +kernel
theorem dX7_fewest_54 : decode cX7_fewest 54 = .ok (.iconst 0, 1) := by decide +kernel
theorem dX7_fewest_55 : decode cX7_fewest 55 = .ok (.iconst 0, 1) := by decide +kernel
theorem dX7_fewest_56 : decode cX7_fewest 56 = .ok (.iastore, 1) := by decide +kernel
theorem dX7_fewest_57 : decode cX7_fewest 57 = .ok (.iconst 0, 1) := by decide +kernel
theorem dX7_fewest_58 : decode cX7_fewest 58 = .ok (.istore_n 2, 1) := by decide +kernel
theorem dX7_fewest_59 : decode cX7_fewest 59 = .ok (.iload_n 2, 1) := by decide +kernel
theorem dX7_fewest_60 : decode cX7_fewest 60 = .ok (.aload_n 0, 1) := by decide +kernel
theorem dX7_fewest_61 : decode cX7_fewest 61 = .ok (.getfield 79, 3) := by decide +kernel
theorem dX7_fewest_64 : decode cX7_fewest 64 = .ok (.if_icmp .ge 80, 3) := by decide +kernel
theorem dX7_fewest_67 : decode cX7_fewest 67 = .ok (.aload_n 0, 1) := by decide +kernel
theorem dX7_fewest_68 : decode cX7_fewest 68 = .ok (.iload_n 2, 1) := by decide +kernel
theorem dX7_fewest_69 : decode cX7_fewest 69 = .ok (.iload_n 1, 1) := by decide +kernel
theorem dX7_fewest_70 : decode cX7_fewest 70 = .ok (.invokevirtual 166, 3) := by decide +kernel
theorem dX7_fewest_73 : decode cX7_fewest 73 = .ok (.istore_n 3, 1) := by decide +kernel
theorem dX7_fewest_74 : decode cX7_fewest 74 = .ok (.iload_n 2, 1) := by decide +kernel
theorem dX7_fewest_75 : decode cX7_fewest 75 = .ok (.istore 4, 2) := by decide +kernel
theorem dX7_fewest_77 : decode cX7_fewest 77 = .ok (.iload 4, 2) := by decide +kernel
theorem dX7_fewest_79 : decode cX7_fewest 79 = .ok (.iload_n 3, 1) := by decide +kernel
theorem dX7_fewest_80 : decode cX7_fewest 80 = .ok (.if_icmp .gt 58, 3) := by decide +kernel
theorem dX7_fewest_83 : decode cX7_fewest 83 = .ok (.aload_n 0, 1) := by decide +kernel
theorem dX7_fewest_84 : decode cX7_fewest 84 = .ok (.getfield 43, 3) := by decide +kernel
theorem dX7_fewest_87 : decode cX7_fewest 87 = .ok (.iload 4, 2) := by decide +kernel
theorem dX7_fewest_89 : decode cX7_fewest 89 = .ok (.iconst 1, 1) := by decide +kernel
theorem dX7_fewest_90 : decode cX7_fewest 90 = .ok (.iadd, 1) := by decide +kernel
theorem dX7_fewest_91 : decode cX7_fewest 91 = .ok (.aload_n 0, 1) := by decide +kernel
theorem dX7_fewest_92 : decode cX7_fewest 92 = .ok (.getfield 43, 3) := by decide +kernel
theorem dX7_fewest_95 : decode cX7_fewest 95 = .ok (.iload_n 2, 1) := by decide +kernel
theorem dX7_fewest_96 : decode cX7_fewest 96 = .ok (.iaload, 1) := by decide +kernel
theorem dX7_fewest_97 : decode cX7_fewest 97 = .ok (.iconst 1, 1) := by decide +kernel
theorem dX7_fewest_98 : decode cX7_fewest 98 = .ok (.iadd, 1) := by decide +kernel
theorem dX7_fewest_99 : decode cX7_fewest 99 = .ok (.aload_n 0, 1) := by decide +kernel
theorem dX7_fewest_100 : decode cX7_fewest 100 = .ok (.getfield 43, 3) := by decide +kernel
theorem dX7_fewest_103 : decode cX7_fewest 103 = .ok (.iload 4, 2) := by decide +kernel
theorem dX7_fewest_105 : decode cX7_fewest 105 = .ok (.iconst 1, 1) := by decide +kernel
theorem dX7_fewest_106 : decode cX7_fewest 106 = .ok (.iadd, 1) := by decide +kernel
theorem dX7_fewest_107 : decode cX7_fewest 107 = .ok (.iaload, 1) := by decide +kernel
theorem dX7_fewest_108 : decode cX7_fewest 108 = .ok (.if_icmp .ge 14, 3) := by decide +kernel
theorem dX7_fewest_111 : decode cX7_fewest 111 = .ok (.aload_n 0, 1) := by decide +kernel
theorem dX7_fewest_112 : decode cX7_fewest 112 = .ok (.getfield 43, 3) := by decide +kernel
theorem dX7_fewest_115 : decode cX7_fewest 115 = .ok (.iload_n 2, 1) := by decide +kernel
theorem dX7_fewest_116 : decode cX7_fewest 116 = .ok (.iaload, 1) := by decide +kernel
theorem dX7_fewest_117 : decode cX7_fewest 117 = .ok (.iconst 1, 1) := by decide +kernel
theorem dX7_fewest_118 : decode cX7_fewest 118 = .ok (.iadd, 1) := by decide +kernel
theorem dX7_fewest_119 : decode cX7_fewest 119 = .ok (.goto 12, 3) := by decide +kernel
theorem dX7_fewest_122 : decode cX7_fewest 122 = .ok (.aload_n 0, 1) := by decide +kernel
theorem dX7_fewest_123 : decode cX7_fewest 123 = .ok (.getfield 43, 3) := by decide +kernel
theorem dX7_fewest_126 : decode cX7_fewest 126 = .ok (.iload 4, 2) := by decide +kernel
theorem dX7_fewest_128 : decode cX7_fewest 128 = .ok (.iconst 1, 1) := by decide +kernel
theorem dX7_fewest_129 : decode cX7_fewest 129 = .ok (.iadd, 1) := by decide +kernel
theorem dX7_fewest_130 : decode cX7_fewest 130 = .ok (.iaload, 1) := by decide +kernel
theorem dX7_fewest_131 : decode cX7_fewest 131 = .ok (.iastore, 1) := by decide +kernel
theorem dX7_fewest_132 : decode cX7_fewest 132 = .ok (.iinc 4 1, 3) := by decide +kernel
theorem dX7_fewest_135 : decode cX7_fewest 135 = .ok (.goto (-58), 3) := by decide +kernel
theorem dX7_fewest_138 : decode cX7_fewest 138 = .ok (.iinc 2 1, 3) := by decide +kernel
theorem dX7_fewest_141 : decode cX7_fewest 141 = .ok (.goto (-82), 3) := by decide +kernel
theorem dX7_fewest_144 : decode cX7_fewest 144 = .ok (.aload_n 0, 1) := by decide +kernel
theorem dX7_fewest_145 : decode cX7_fewest 145 = .ok (.getfield 43, 3) := by decide +kernel
theorem dX7_fewest_148 : decode cX7_fewest 148 = .ok (.aload_n 0, 1) := by decide +kernel
theorem dX7_fewest_149 : decode cX7_fewest 149 = .ok (.getfield 79, 3) := by decide +kernel
theorem dX7_fewest_152 : decode cX7_fewest 152 = .ok (.iaload, 1) := by decide +kernel
theorem dX7_fewest_153 : decode cX7_fewest 153 = .ok (.ireturn, 1) := by decide +kernel
def rm_X7_fewest : Room := { frames := 2, cells := 0, slots := 0, locals := 52 }
abbrev p_X7_fewest (g : kG) (h : Nat) (zth : Int32) (zl1 : Int64) (zl2 : Int64) (zl3 : Int64) (zl4 : Int64) (zpb : Int32) (zln : Int32) (zat : Int32) (zrk : Int32) (zrv : Int32) (zre : Int32) (zwr : Int32) (zrm : Int32) (zrs : Int32) (zis : Int32) (zss : Int32) (zsc : Int32) (ak : Nat) (av : Nat) (bk : Nat) (bv : Nat) (br : Nat) (a_s : Nat) (a_t : Nat) (g1 : Nat) (g2 : Nat) (g3 : Nat) (pa : Nat) (ru : Nat) (tx : Nat) (dk : Nat) (dv : Nat) (ek : Nat) (ev : Nat) (er : Nat) (es : Nat) (et : Nat) (nA : Nat) (fk : Nat → Int32) (fv : Nat → Int32) (nB : Nat) (ck : Nat → Int32) (cv : Nat → Int32) (cr : Nat → Int32) (fS : Nat → Int32) (fT : Nat → Int32) (mS : Nat) (y1 : Nat → Int32) (y2 : Nat → Int32) (y3 : Nat → Int32) (M : List kE3) (C : List kE3) (S : Nat → Int32) (T : Nat → Int32) (ff : Nat → Int32) (b : Int32) : Int32 → va_W → Prop := fun r w1 => ∃ (f2 : Nat → Int32), ∃ (l1x : Int64), ∃ (l2x : Int64), ∃ (l3x : Int64), ∃ (l4x : Int64), r = (if (fewK b) = 0 then nI (fewS (kap M) M.length b.toInt) else 0) ∧ w1 = [(h, .inr (9, [.int (fewK b), .int (nI nA), .int (nI nB), .ref ak, .ref av, .ref bk, .ref bv, .ref br, .ref a_s, .ref a_t, .int (nI mS), .ref g1, .ref g2, .ref g3, .long l1x, .long l2x, .long l3x, .long l4x, .int zpb, .ref pa, .ref ru, .ref tx, .int zln, .int zat, .int zrk, .int zrv, .int zre, .int zwr, .int zrm, .int zrs, .int zis, .int zss, .int zsc, .ref dk, .ref dv, .ref ek, .ref ev, .ref er, .ref es, .ref et])), (ak, .inl (g.2.1.1, 152, .inl fk)), (av, .inl (g.2.1.1, 152, .inl fv)), (bk, .inl (g.2.1.1, 24, .inl ck)), (bv, .inl (g.2.1.1, 24, .inl cv)), (br, .inl (g.2.1.1, 24, .inl cr)), (a_s, .inl (g.2.1.1, 4, .inl fS)), (a_t, .inl (g.2.1.1, 5, .inl fT)), (g1, .inl (g.2.1.1, 152, .inl y1)), (g2, .inl (g.2.1.1, 152, .inl y2)), (g3, .inl (g.2.1.1, 152, .inl y3)), (ru, .inl (g.2.1.1, 152, .inl f2))]
set_option maxHeartbeats 4000000 in
set_option maxRecDepth 100000 in
theorem c_X7_fewest (l : Launch) (g : kG) (h : Nat) (zth : Int32) (zl1 : Int64) (zl2 : Int64) (zl3 : Int64) (zl4 : Int64) (zpb : Int32) (zln : Int32) (zat : Int32) (zrk : Int32) (zrv : Int32) (zre : Int32) (zwr : Int32) (zrm : Int32) (zrs : Int32) (zis : Int32) (zss : Int32) (zsc : Int32) (ak : Nat) (av : Nat) (bk : Nat) (bv : Nat) (br : Nat) (a_s : Nat) (a_t : Nat) (g1 : Nat) (g2 : Nat) (g3 : Nat) (pa : Nat) (ru : Nat) (tx : Nat) (dk : Nat) (dv : Nat) (ek : Nat) (ev : Nat) (er : Nat) (es : Nat) (et : Nat) (nA : Nat) (fk : Nat → Int32) (fv : Nat → Int32) (nB : Nat) (ck : Nat → Int32) (cv : Nat → Int32) (cr : Nat → Int32) (fS : Nat → Int32) (fT : Nat → Int32) (mS : Nat) (y1 : Nat → Int32) (y2 : Nat → Int32) (y3 : Nat → Int32) (M : List kE3) (C : List kE3) (S : Nat → Int32) (T : Nat → Int32) (ff : Nat → Int32) (b : Int32) (hMX : kMX nA fk fv nB ck cv cr fS fT mS y1 y2 y3 M C S T) : KI l yX7_fewest wsX7_fewest rm_X7_fewest g [.ref h, .int b] [(h, .inr (9, [.int zth, .int (nI nA), .int (nI nB), .ref ak, .ref av, .ref bk, .ref bv, .ref br, .ref a_s, .ref a_t, .int (nI mS), .ref g1, .ref g2, .ref g3, .long zl1, .long zl2, .long zl3, .long zl4, .int zpb, .ref pa, .ref ru, .ref tx, .int zln, .int zat, .int zrk, .int zrv, .int zre, .int zwr, .int zrm, .int zrs, .int zis, .int zss, .int zsc, .ref dk, .ref dv, .ref ek, .ref ev, .ref er, .ref es, .ref et])), (ak, .inl (g.2.1.1, 152, .inl fk)), (av, .inl (g.2.1.1, 152, .inl fv)), (bk, .inl (g.2.1.1, 24, .inl ck)), (bv, .inl (g.2.1.1, 24, .inl cv)), (br, .inl (g.2.1.1, 24, .inl cr)), (a_s, .inl (g.2.1.1, 4, .inl fS)), (a_t, .inl (g.2.1.1, 5, .inl fT)), (g1, .inl (g.2.1.1, 152, .inl y1)), (g2, .inl (g.2.1.1, 152, .inl y2)), (g3, .inl (g.2.1.1, 152, .inl y3)), (ru, .inl (g.2.1.1, 152, .inl ff))] (p_X7_fewest g h zth zl1 zl2 zl3 zl4 zpb zln zat zrk zrv zre zwr zrm zrs zis zss zsc ak av bk bv br a_s a_t g1 g2 g3 pa ru tx dk dv ek ev er es et nA fk fv nB ck cv cr fS fT mS y1 y2 y3 M C S T ff b) := by
  refine kbodyI (cc := cX7_fewest) (n := 5) (k := 12) (own := RX7) (plainFor_of_name (by decide)) rfl rfl rfl rfl ?_
  intro p e s m below meth cd A ls hcx
  obtain ⟨hx, hb, hRt, hml, hts, hown, hlk, hA, hP, hK, hD, hE, hS, hl⟩ := hcx
  have hl : lv_has ls 5 [(0, .ref h), (1, .int b)] := hl
  obtain ⟨hMM, hS4, hT5, hKS, hSGm⟩ := id hMX
  obtain ⟨⟨hM, hC⟩, ⟨hnM, hnC⟩, ⟨hIM, hIC⟩, hlen, hrem⟩ := id hMM
  have hsM : kSo (EL nA fk fv fz0) := by rw [hM]; exact hIM.1
  have hsC : kSo (EL nB ck cv cr) := by rw [hC]; exact hIC.1
  have hnl : nA = M.length := by rw [← hM, EL_len]
  have hcl : nB = C.length := by rw [← hC, EL_len]
  obtain ⟨⟨hS01, hS02⟩, ⟨hS11, hS12⟩, ⟨hS21, hS22⟩, ⟨hS31, hS32⟩⟩ := id hKS
  have hasc := kap_asc hM hIM
  obtain ⟨lst, hlst⟩ : ∃ g : Nat → Nat, g = fun f => (gw0 (kap M) nA f b.toInt).1 := ⟨_, rfl⟩
  refine lv_aload_n hx hb dX7_fewest_0 rfl (lv_at hl 0 rfl) ?_
  refine lv_iconst (v := 1) hx hb dX7_fewest_1 (by decide) ?_
  refine lv_iload_n hx hb dX7_fewest_2 rfl (lv_at hl 1 rfl) ?_
  refine lv_iconst (v := 1) hx hb dX7_fewest_3 (by decide) ?_
  refine lv_bipush (v := 8) hx hb dX7_fewest_4 (by decide) ?_
  refine kcalli (wc := []) [] (va_runS (As := [.int b, .int 1, .int 8]) (rest := [.int 1, .ref h]) ⟨hx, hb, hml, hown, hts⟩ ((c_X7_isBetween l g b 1 8) _) (va_cwS 3 hts gX7_fewest_X7_isBetween rfl rfl rfl (by decide +kernel) ⟨Nat.le_of_ble_eq_true rfl, Nat.le_of_ble_eq_true rfl⟩) (kpreS (wc := []) hK hP hD hS hA hE [] rfl rfl) rfl rfl hl.1 rfl (lv_room (Nat.le_of_ble_eq_true rfl)) dX7_fewest_6 ⟨Nat.zero_le _, Nat.zero_le _⟩) hP hD hS hA rfl (fun r_1 w_1 H locs hp hP hD hS => ?_)
  obtain ⟨rfl, rfl⟩ := hp
  have hP : va_P g.1 vwCl [(h, .inr (9, [.int zth, .int (nI nA), .int (nI nB), .ref ak, .ref av, .ref bk, .ref bv, .ref br, .ref a_s, .ref a_t, .int (nI mS), .ref g1, .ref g2, .ref g3, .long zl1, .long zl2, .long zl3, .long zl4, .int zpb, .ref pa, .ref ru, .ref tx, .int zln, .int zat, .int zrk, .int zrv, .int zre, .int zwr, .int zrm, .int zrs, .int zis, .int zss, .int zsc, .ref dk, .ref dv, .ref ek, .ref ev, .ref er, .ref es, .ref et])), (ak, .inl (g.2.1.1, 152, .inl fk)), (av, .inl (g.2.1.1, 152, .inl fv)), (bk, .inl (g.2.1.1, 24, .inl ck)), (bv, .inl (g.2.1.1, 24, .inl cv)), (br, .inl (g.2.1.1, 24, .inl cr)), (a_s, .inl (g.2.1.1, 4, .inl fS)), (a_t, .inl (g.2.1.1, 5, .inl fT)), (g1, .inl (g.2.1.1, 152, .inl y1)), (g2, .inl (g.2.1.1, 152, .inl y2)), (g3, .inl (g.2.1.1, 152, .inl y3)), (ru, .inl (g.2.1.1, 152, .inl ff))] H := hP
  have hD : va_D A [(h, .inr (9, [.int zth, .int (nI nA), .int (nI nB), .ref ak, .ref av, .ref bk, .ref bv, .ref br, .ref a_s, .ref a_t, .int (nI mS), .ref g1, .ref g2, .ref g3, .long zl1, .long zl2, .long zl3, .long zl4, .int zpb, .ref pa, .ref ru, .ref tx, .int zln, .int zat, .int zrk, .int zrv, .int zre, .int zwr, .int zrm, .int zrs, .int zis, .int zss, .int zsc, .ref dk, .ref dv, .ref ek, .ref ev, .ref er, .ref es, .ref et])), (ak, .inl (g.2.1.1, 152, .inl fk)), (av, .inl (g.2.1.1, 152, .inl fv)), (bk, .inl (g.2.1.1, 24, .inl ck)), (bv, .inl (g.2.1.1, 24, .inl cv)), (br, .inl (g.2.1.1, 24, .inl cr)), (a_s, .inl (g.2.1.1, 4, .inl fS)), (a_t, .inl (g.2.1.1, 5, .inl fT)), (g1, .inl (g.2.1.1, 152, .inl y1)), (g2, .inl (g.2.1.1, 152, .inl y2)), (g3, .inl (g.2.1.1, 152, .inl y3)), (ru, .inl (g.2.1.1, 152, .inl ff))] := hD
  refine lv_if_ne (tgt := 16) hx hb dX7_fewest_9 (by decide) (fun c_9 => ?_) (fun c_9 => ?_)
  · skip
    have hst : stV 0 b = true := (kbool_ne _).mp (fun z => c_9 ((stV_isB b).trans z))
    have hbb := stV_b hst
    have hbI : b = kI b.toInt := kI_of b
    have hk9 : fewK b = 0 := by rw [fewK, if_pos hst]
    refine lv_iconst (v := 0) hx hb dX7_fewest_16 (by decide) ?_
    refine kcalli (wc := [(h, .inr (9, [.int zth, .int (nI nA), .int (nI nB), .ref ak, .ref av, .ref bk, .ref bv, .ref br, .ref a_s, .ref a_t, .int (nI mS), .ref g1, .ref g2, .ref g3, .long zl1, .long zl2, .long zl3, .long zl4, .int zpb, .ref pa, .ref ru, .ref tx, .int zln, .int zat, .int zrk, .int zrv, .int zre, .int zwr, .int zrm, .int zrs, .int zis, .int zss, .int zsc, .ref dk, .ref dv, .ref ek, .ref ev, .ref er, .ref es, .ref et]))]) [0] (va_runV (C := RX7) (As := [.int 1, .int 0]) (rest := []) ⟨hx, hb, hml, hown, hts⟩ ((c_X7_fails0 l g h zth (nI nA) (nI nB) (nI mS) zl1 zl2 zl3 zl4 zpb zln zat zrk zrv zre zwr zrm zrs zis zss zsc ak av bk bv br a_s a_t g1 g2 g3 pa ru tx dk dv ek ev er es et 1) _) (cwV 2 hts gX7_fewest_X7_fails rfl rfl rfl (by decide +kernel) ⟨Nat.le_of_ble_eq_true rfl, Nat.le_of_ble_eq_true rfl⟩) (kpreV (wc := [(h, .inr (9, [.int zth, .int (nI nA), .int (nI nB), .ref ak, .ref av, .ref bk, .ref bv, .ref br, .ref a_s, .ref a_t, .int (nI mS), .ref g1, .ref g2, .ref g3, .long zl1, .long zl2, .long zl3, .long zl4, .int zpb, .ref pa, .ref ru, .ref tx, .int zln, .int zat, .int zrk, .int zrv, .int zre, .int zwr, .int zrm, .int zrs, .int zis, .int zss, .int zsc, .ref dk, .ref dv, .ref ek, .ref ev, .ref er, .ref es, .ref et]))]) (ci := 9) hK hP hD hS hA hE [0] rfl rfl rfl rfl) rfl rfl hl.1 rfl (lv_room (Nat.le_of_ble_eq_true rfl)) dX7_fewest_17 ⟨Nat.zero_le _, Nat.zero_le _⟩) hP hD hS hA rfl (fun r_2 w_2 H locs hp hP hD hS => ?_)
    obtain ⟨rfl, rfl⟩ := hp
    have hP : va_P g.1 vwCl [(h, .inr (9, [.int 0, .int (nI nA), .int (nI nB), .ref ak, .ref av, .ref bk, .ref bv, .ref br, .ref a_s, .ref a_t, .int (nI mS), .ref g1, .ref g2, .ref g3, .long zl1, .long zl2, .long zl3, .long zl4, .int zpb, .ref pa, .ref ru, .ref tx, .int zln, .int zat, .int zrk, .int zrv, .int zre, .int zwr, .int zrm, .int zrs, .int zis, .int zss, .int zsc, .ref dk, .ref dv, .ref ek, .ref ev, .ref er, .ref es, .ref et])), (ak, .inl (g.2.1.1, 152, .inl fk)), (av, .inl (g.2.1.1, 152, .inl fv)), (bk, .inl (g.2.1.1, 24, .inl ck)), (bv, .inl (g.2.1.1, 24, .inl cv)), (br, .inl (g.2.1.1, 24, .inl cr)), (a_s, .inl (g.2.1.1, 4, .inl fS)), (a_t, .inl (g.2.1.1, 5, .inl fT)), (g1, .inl (g.2.1.1, 152, .inl y1)), (g2, .inl (g.2.1.1, 152, .inl y2)), (g3, .inl (g.2.1.1, 152, .inl y3)), (ru, .inl (g.2.1.1, 152, .inl ff))] H := hP
    have hD : va_D A [(h, .inr (9, [.int 0, .int (nI nA), .int (nI nB), .ref ak, .ref av, .ref bk, .ref bv, .ref br, .ref a_s, .ref a_t, .int (nI mS), .ref g1, .ref g2, .ref g3, .long zl1, .long zl2, .long zl3, .long zl4, .int zpb, .ref pa, .ref ru, .ref tx, .int zln, .int zat, .int zrk, .int zrv, .int zre, .int zwr, .int zrm, .int zrs, .int zis, .int zss, .int zsc, .ref dk, .ref dv, .ref ek, .ref ev, .ref er, .ref es, .ref et])), (ak, .inl (g.2.1.1, 152, .inl fk)), (av, .inl (g.2.1.1, 152, .inl fv)), (bk, .inl (g.2.1.1, 24, .inl ck)), (bv, .inl (g.2.1.1, 24, .inl cv)), (br, .inl (g.2.1.1, 24, .inl cr)), (a_s, .inl (g.2.1.1, 4, .inl fS)), (a_t, .inl (g.2.1.1, 5, .inl fT)), (g1, .inl (g.2.1.1, 152, .inl y1)), (g2, .inl (g.2.1.1, 152, .inl y2)), (g3, .inl (g.2.1.1, 152, .inl y3)), (ru, .inl (g.2.1.1, 152, .inl ff))] := hD
    refine lv_if_eq (tgt := 25) hx hb dX7_fewest_20 (by decide) (fun c_20 => ?_) (fun c_20 => absurd (by decide) c_20)
    refine lv_iconst (v := 1) hx hb dX7_fewest_25 (by decide) ?_
    rw [show (1 : Int32) = nI 1 from rfl]
    refine lv_istore_n (lv' := [(2, .int (nI 1)), (0, .ref h), (1, .int b)]) hx hb dX7_fewest_26 rfl hl (by decide) rfl (fun ls hl => ?_)
    have L27 : ∀ (n9 : Nat) (q : Nat) (fz : Nat → Int32) (H : Heap) (locs : List Loc) (ls : Array Slot), (1 ≤ q ∧ q ≤ nA + 1) → (∀ e, 1 ≤ e → e < q → fz e = nI 152) → nA + 1 - q < n9 → va_P g.1 vwCl [(h, .inr (9, [.int 0, .int (nI nA), .int (nI nB), .ref ak, .ref av, .ref bk, .ref bv, .ref br, .ref a_s, .ref a_t, .int (nI mS), .ref g1, .ref g2, .ref g3, .long zl1, .long zl2, .long zl3, .long zl4, .int zpb, .ref pa, .ref ru, .ref tx, .int zln, .int zat, .int zrk, .int zrv, .int zre, .int zwr, .int zrm, .int zrs, .int zis, .int zss, .int zsc, .ref dk, .ref dv, .ref ek, .ref ev, .ref er, .ref es, .ref et])), (ak, .inl (g.2.1.1, 152, .inl fk)), (av, .inl (g.2.1.1, 152, .inl fv)), (bk, .inl (g.2.1.1, 24, .inl ck)), (bv, .inl (g.2.1.1, 24, .inl cv)), (br, .inl (g.2.1.1, 24, .inl cr)), (a_s, .inl (g.2.1.1, 4, .inl fS)), (a_t, .inl (g.2.1.1, 5, .inl fT)), (g1, .inl (g.2.1.1, 152, .inl y1)), (g2, .inl (g.2.1.1, 152, .inl y2)), (g3, .inl (g.2.1.1, 152, .inl y3)), (ru, .inl (g.2.1.1, 152, .inl fz))] H → va_D A [(h, .inr (9, [.int 0, .int (nI nA), .int (nI nB), .ref ak, .ref av, .ref bk, .ref bv, .ref br, .ref a_s, .ref a_t, .int (nI mS), .ref g1, .ref g2, .ref g3, .long zl1, .long zl2, .long zl3, .long zl4, .int zpb, .ref pa, .ref ru, .ref tx, .int zln, .int zat, .int zrk, .int zrv, .int zre, .int zwr, .int zrm, .int zrs, .int zis, .int zss, .int zsc, .ref dk, .ref dv, .ref ek, .ref ev, .ref er, .ref es, .ref et])), (ak, .inl (g.2.1.1, 152, .inl fk)), (av, .inl (g.2.1.1, 152, .inl fv)), (bk, .inl (g.2.1.1, 24, .inl ck)), (bv, .inl (g.2.1.1, 24, .inl cv)), (br, .inl (g.2.1.1, 24, .inl cr)), (a_s, .inl (g.2.1.1, 4, .inl fS)), (a_t, .inl (g.2.1.1, 5, .inl fT)), (g1, .inl (g.2.1.1, 152, .inl y1)), (g2, .inl (g.2.1.1, 152, .inl y2)), (g3, .inl (g.2.1.1, 152, .inl y3)), (ru, .inl (g.2.1.1, 152, .inl fz))] → va_S A s.heap H locs → lv_has ls 5 [(2, .int (nI q)), (0, .ref h), (1, .int b)] → W p l e rm_X7_fewest s m ([.ref h, .int b] : List Value).toArray below meth cd H locs 0 0 (kQi g 12 A (p_X7_fewest g h zth zl1 zl2 zl3 zl4 zpb zln zat zrk zrv zre zwr zrm zrs zis zss zsc ak av bk bv br a_s a_t g1 g2 g3 pa ru tx dk dv ek ev er es et nA fk fv nB ck cv cr fS fT mS y1 y2 y3 M C S T ff b) below ([.ref h, .int b] : List Value).toArray s) (F0 m 27 ls []) := by
      intro n9
      induction n9 with
      | zero => intro q fz H locs ls hq hz h9; exact absurd h9 (Nat.not_lt_zero _)
      | succ n9 ih27 =>
        intro q fz H locs ls hq hz hn27 hP hD hS hl
        refine lv_iload_n hx hb dX7_fewest_27 rfl (lv_at hl 0 rfl) ?_
        refine lv_aload_n hx hb dX7_fewest_28 rfl (lv_at hl 1 rfl) ?_
        refine va_get (D := g.1) (ci := 9) (v := .int (nI nA)) (C := RX7) (T := TX7) (N := 40) hx hb hts (by decide +kernel) hown hK hP 0 rfl rfl 1 (by decide) (hts (.fieldLink RX7 79 "LearnedIndexModel" "size" "I") (by decide +kernel)) (fun _ h9 => h9) rfl dX7_fewest_29 ?_
        refine lv_icmp_gt (tgt := 50) hx hb dX7_fewest_32 (by decide) (fun c_32 => ?_) (fun c_32 => ?_)
        · skip
          have hqn : nA < q := by rw [nI_ltI (by omega) (by omega)] at c_32; exact c_32
          refine lv_aload_n hx hb dX7_fewest_50 rfl (lv_at hl 1 rfl) ?_
          refine va_get (D := g.1) (ci := 9) (v := .ref ru) (C := RX7) (T := TX7) (N := 40) hx hb hts (by decide +kernel) hown hK hP 0 rfl rfl 20 (by decide) (hts (.fieldLink RX7 43 "LearnedIndexModel" "runs" "[I") (by decide +kernel)) (fun _ h9 => h9) rfl dX7_fewest_51 ?_
          refine lv_iconst (v := 0) hx hb dX7_fewest_54 (by decide) ?_
          refine lv_iconst (v := 0) hx hb dX7_fewest_55 (by decide) ?_
          refine va_iast hx hb hK hP hD hS 11 0 rfl rfl (show vp_in 0 152 from vp_in_nI (n := 0) (by omega) (by omega)) dX7_fewest_56 (fun H locs hP hD hS => ?_)
          rw [show (0 : Int32).toNatClampNeg = 0 from nI_clamp (n := 0) (by omega)] at hP hD
          have hP : va_P g.1 vwCl [(h, .inr (9, [.int 0, .int (nI nA), .int (nI nB), .ref ak, .ref av, .ref bk, .ref bv, .ref br, .ref a_s, .ref a_t, .int (nI mS), .ref g1, .ref g2, .ref g3, .long zl1, .long zl2, .long zl3, .long zl4, .int zpb, .ref pa, .ref ru, .ref tx, .int zln, .int zat, .int zrk, .int zrv, .int zre, .int zwr, .int zrm, .int zrs, .int zis, .int zss, .int zsc, .ref dk, .ref dv, .ref ek, .ref ev, .ref er, .ref es, .ref et])), (ak, .inl (g.2.1.1, 152, .inl fk)), (av, .inl (g.2.1.1, 152, .inl fv)), (bk, .inl (g.2.1.1, 24, .inl ck)), (bv, .inl (g.2.1.1, 24, .inl cv)), (br, .inl (g.2.1.1, 24, .inl cr)), (a_s, .inl (g.2.1.1, 4, .inl fS)), (a_t, .inl (g.2.1.1, 5, .inl fT)), (g1, .inl (g.2.1.1, 152, .inl y1)), (g2, .inl (g.2.1.1, 152, .inl y2)), (g3, .inl (g.2.1.1, 152, .inl y3)), (ru, .inl (g.2.1.1, 152, .inl (upd fz 0 0)))] H := hP
          have hD : va_D A [(h, .inr (9, [.int 0, .int (nI nA), .int (nI nB), .ref ak, .ref av, .ref bk, .ref bv, .ref br, .ref a_s, .ref a_t, .int (nI mS), .ref g1, .ref g2, .ref g3, .long zl1, .long zl2, .long zl3, .long zl4, .int zpb, .ref pa, .ref ru, .ref tx, .int zln, .int zat, .int zrk, .int zrv, .int zre, .int zwr, .int zrm, .int zrs, .int zis, .int zss, .int zsc, .ref dk, .ref dv, .ref ek, .ref ev, .ref er, .ref es, .ref et])), (ak, .inl (g.2.1.1, 152, .inl fk)), (av, .inl (g.2.1.1, 152, .inl fv)), (bk, .inl (g.2.1.1, 24, .inl ck)), (bv, .inl (g.2.1.1, 24, .inl cv)), (br, .inl (g.2.1.1, 24, .inl cr)), (a_s, .inl (g.2.1.1, 4, .inl fS)), (a_t, .inl (g.2.1.1, 5, .inl fT)), (g1, .inl (g.2.1.1, 152, .inl y1)), (g2, .inl (g.2.1.1, 152, .inl y2)), (g3, .inl (g.2.1.1, 152, .inl y3)), (ru, .inl (g.2.1.1, 152, .inl (upd fz 0 0)))] := hD
          obtain ⟨fy, hfy⟩ : ∃ f : Nat → Int32, f = upd fz 0 0 := ⟨_, rfl⟩
          have hf0 : ∀ e, e ≤ nA → fy e = nI (fseq lst fst0 0 e) := by intro e he; rw [hfy]; simp only [upd, fseq, fst0]; split; rfl; exact hz e (by omega) (by omega)
          rw [← hfy] at hP hD
          have hP : va_P g.1 vwCl [(h, .inr (9, [.int 0, .int (nI nA), .int (nI nB), .ref ak, .ref av, .ref bk, .ref bv, .ref br, .ref a_s, .ref a_t, .int (nI mS), .ref g1, .ref g2, .ref g3, .long zl1, .long zl2, .long zl3, .long zl4, .int zpb, .ref pa, .ref ru, .ref tx, .int zln, .int zat, .int zrk, .int zrv, .int zre, .int zwr, .int zrm, .int zrs, .int zis, .int zss, .int zsc, .ref dk, .ref dv, .ref ek, .ref ev, .ref er, .ref es, .ref et])), (ak, .inl (g.2.1.1, 152, .inl fk)), (av, .inl (g.2.1.1, 152, .inl fv)), (bk, .inl (g.2.1.1, 24, .inl ck)), (bv, .inl (g.2.1.1, 24, .inl cv)), (br, .inl (g.2.1.1, 24, .inl cr)), (a_s, .inl (g.2.1.1, 4, .inl fS)), (a_t, .inl (g.2.1.1, 5, .inl fT)), (g1, .inl (g.2.1.1, 152, .inl y1)), (g2, .inl (g.2.1.1, 152, .inl y2)), (g3, .inl (g.2.1.1, 152, .inl y3)), (ru, .inl (g.2.1.1, 152, .inl fy))] H := hP
          have hD : va_D A [(h, .inr (9, [.int 0, .int (nI nA), .int (nI nB), .ref ak, .ref av, .ref bk, .ref bv, .ref br, .ref a_s, .ref a_t, .int (nI mS), .ref g1, .ref g2, .ref g3, .long zl1, .long zl2, .long zl3, .long zl4, .int zpb, .ref pa, .ref ru, .ref tx, .int zln, .int zat, .int zrk, .int zrv, .int zre, .int zwr, .int zrm, .int zrs, .int zis, .int zss, .int zsc, .ref dk, .ref dv, .ref ek, .ref ev, .ref er, .ref es, .ref et])), (ak, .inl (g.2.1.1, 152, .inl fk)), (av, .inl (g.2.1.1, 152, .inl fv)), (bk, .inl (g.2.1.1, 24, .inl ck)), (bv, .inl (g.2.1.1, 24, .inl cv)), (br, .inl (g.2.1.1, 24, .inl cr)), (a_s, .inl (g.2.1.1, 4, .inl fS)), (a_t, .inl (g.2.1.1, 5, .inl fT)), (g1, .inl (g.2.1.1, 152, .inl y1)), (g2, .inl (g.2.1.1, 152, .inl y2)), (g3, .inl (g.2.1.1, 152, .inl y3)), (ru, .inl (g.2.1.1, 152, .inl fy))] := hD
          refine lv_iconst (v := 0) hx hb dX7_fewest_57 (by decide) ?_
          refine lv_istore_n (lv' := [(2, .int 0), (0, .ref h), (1, .int b)]) hx hb dX7_fewest_58 rfl hl (by decide) rfl (fun ls hl => ?_)
          have L59 : ∀ (n9 : Nat) (f9 : Nat) (fz : Nat → Int32) (d1x : Int64) (d2x : Int64) (d3x : Int64) (d4x : Int64) (H : Heap) (locs : List Loc) (ls : Array Slot), (f9 ≤ nA) → (∀ e, e ≤ nA → fz e = nI (fseq lst fst0 f9 e)) → nA - f9 < n9 → va_P g.1 vwCl [(h, .inr (9, [.int 0, .int (nI nA), .int (nI nB), .ref ak, .ref av, .ref bk, .ref bv, .ref br, .ref a_s, .ref a_t, .int (nI mS), .ref g1, .ref g2, .ref g3, .long d1x, .long d2x, .long d3x, .long d4x, .int zpb, .ref pa, .ref ru, .ref tx, .int zln, .int zat, .int zrk, .int zrv, .int zre, .int zwr, .int zrm, .int zrs, .int zis, .int zss, .int zsc, .ref dk, .ref dv, .ref ek, .ref ev, .ref er, .ref es, .ref et])), (ak, .inl (g.2.1.1, 152, .inl fk)), (av, .inl (g.2.1.1, 152, .inl fv)), (bk, .inl (g.2.1.1, 24, .inl ck)), (bv, .inl (g.2.1.1, 24, .inl cv)), (br, .inl (g.2.1.1, 24, .inl cr)), (a_s, .inl (g.2.1.1, 4, .inl fS)), (a_t, .inl (g.2.1.1, 5, .inl fT)), (g1, .inl (g.2.1.1, 152, .inl y1)), (g2, .inl (g.2.1.1, 152, .inl y2)), (g3, .inl (g.2.1.1, 152, .inl y3)), (ru, .inl (g.2.1.1, 152, .inl fz))] H → va_D A [(h, .inr (9, [.int 0, .int (nI nA), .int (nI nB), .ref ak, .ref av, .ref bk, .ref bv, .ref br, .ref a_s, .ref a_t, .int (nI mS), .ref g1, .ref g2, .ref g3, .long d1x, .long d2x, .long d3x, .long d4x, .int zpb, .ref pa, .ref ru, .ref tx, .int zln, .int zat, .int zrk, .int zrv, .int zre, .int zwr, .int zrm, .int zrs, .int zis, .int zss, .int zsc, .ref dk, .ref dv, .ref ek, .ref ev, .ref er, .ref es, .ref et])), (ak, .inl (g.2.1.1, 152, .inl fk)), (av, .inl (g.2.1.1, 152, .inl fv)), (bk, .inl (g.2.1.1, 24, .inl ck)), (bv, .inl (g.2.1.1, 24, .inl cv)), (br, .inl (g.2.1.1, 24, .inl cr)), (a_s, .inl (g.2.1.1, 4, .inl fS)), (a_t, .inl (g.2.1.1, 5, .inl fT)), (g1, .inl (g.2.1.1, 152, .inl y1)), (g2, .inl (g.2.1.1, 152, .inl y2)), (g3, .inl (g.2.1.1, 152, .inl y3)), (ru, .inl (g.2.1.1, 152, .inl fz))] → va_S A s.heap H locs → lv_has ls 5 [(2, .int (nI f9)), (0, .ref h), (1, .int b)] → W p l e rm_X7_fewest s m ([.ref h, .int b] : List Value).toArray below meth cd H locs 0 0 (kQi g 12 A (p_X7_fewest g h zth zl1 zl2 zl3 zl4 zpb zln zat zrk zrv zre zwr zrm zrs zis zss zsc ak av bk bv br a_s a_t g1 g2 g3 pa ru tx dk dv ek ev er es et nA fk fv nB ck cv cr fS fT mS y1 y2 y3 M C S T ff b) below ([.ref h, .int b] : List Value).toArray s) (F0 m 59 ls []) := by
            intro n9
            induction n9 with
            | zero => intro f9 fz d1x d2x d3x d4x H locs ls hf0 hff h9; exact absurd h9 (Nat.not_lt_zero _)
            | succ n9 ih59 =>
              intro f9 fz d1x d2x d3x d4x H locs ls hf0 hff hn59 hP hD hS hl
              refine lv_iload_n hx hb dX7_fewest_59 rfl (lv_at hl 0 rfl) ?_
              refine lv_aload_n hx hb dX7_fewest_60 rfl (lv_at hl 1 rfl) ?_
              refine va_get (D := g.1) (ci := 9) (v := .int (nI nA)) (C := RX7) (T := TX7) (N := 40) hx hb hts (by decide +kernel) hown hK hP 0 rfl rfl 1 (by decide) (hts (.fieldLink RX7 79 "LearnedIndexModel" "size" "I") (by decide +kernel)) (fun _ h9 => h9) rfl dX7_fewest_61 ?_
              refine lv_icmp_ge (tgt := 144) hx hb dX7_fewest_64 (by decide) (fun c_64 => ?_) (fun c_64 => ?_)
              · skip
                have hin : nA ≤ f9 := kg (by omega) (by omega) c_64
                have hf9 : f9 = nA := by omega
                refine lv_aload_n hx hb dX7_fewest_144 rfl (lv_at hl 1 rfl) ?_
                refine va_get (D := g.1) (ci := 9) (v := .ref ru) (C := RX7) (T := TX7) (N := 40) hx hb hts (by decide +kernel) hown hK hP 0 rfl rfl 20 (by decide) (hts (.fieldLink RX7 43 "LearnedIndexModel" "runs" "[I") (by decide +kernel)) (fun _ h9 => h9) rfl dX7_fewest_145 ?_
                refine lv_aload_n hx hb dX7_fewest_148 rfl (lv_at hl 1 rfl) ?_
                refine va_get (D := g.1) (ci := 9) (v := .int (nI nA)) (C := RX7) (T := TX7) (N := 40) hx hb hts (by decide +kernel) hown hK hP 0 rfl rfl 1 (by decide) (hts (.fieldLink RX7 79 "LearnedIndexModel" "size" "I") (by decide +kernel)) (fun _ h9 => h9) rfl dX7_fewest_149 ?_
                refine va_iald hx hb hK hP 11 0 rfl rfl (vp_in_nI (show nA < 152 by omega) (by omega)) dX7_fewest_152 ?_
                rw [show (nI nA : Int32).toNatClampNeg = nA from nI_clamp (n := nA) (by omega)]
                exact kreti hx hb hRt hlk hK hP hD hS rfl dX7_fewest_153 (⟨_, _, _, _, _, by rw [hk9, if_pos rfl, hff nA (Nat.le_refl _), hf9, hlst, fewS_0 hasc hnM ⟨by omega, by omega⟩, hnl], by rw [hk9]⟩)
              · skip
                have hin : f9 < nA := kl (by omega) (by omega) c_64
                have hg1 : f9 ≤ lst f9 ∧ lst f9 < nA := by rw [hlst]; exact (gw0_bd hasc (by omega) (β := b.toInt) ⟨by omega, by omega⟩ hin).1
                have hsl := fseq_le0 lst f9
                refine lv_aload_n hx hb dX7_fewest_67 rfl (lv_at hl 1 rfl) ?_
                refine lv_iload_n hx hb dX7_fewest_68 rfl (lv_at hl 0 rfl) ?_
                refine lv_iload_n hx hb dX7_fewest_69 rfl (lv_at hl 2 rfl) ?_
                refine lv_topi (fun v69 e_v69 => ?_)
                rw [show (v69 : Int32) = kI b.toInt from e_v69.trans hbI]
                refine kcalli (wc := [(h, .inr (9, [.int 0, .int (nI nA), .int (nI nB), .ref ak, .ref av, .ref bk, .ref bv, .ref br, .ref a_s, .ref a_t, .int (nI mS), .ref g1, .ref g2, .ref g3, .long d1x, .long d2x, .long d3x, .long d4x, .int zpb, .ref pa, .ref ru, .ref tx, .int zln, .int zat, .int zrk, .int zrv, .int zre, .int zwr, .int zrm, .int zrs, .int zis, .int zss, .int zsc, .ref dk, .ref dv, .ref ek, .ref ev, .ref er, .ref es, .ref et])), (ak, .inl (g.2.1.1, 152, .inl fk))]) [0, 1] (va_runV (C := RX7) (As := [.int (nI f9), .int (kI b.toInt)]) (rest := []) ⟨hx, hb, hml, hown, hts⟩ ((c_X7_longestRun l g h 0 (nI nB) (nI mS) d1x d2x d3x d4x zpb zln zat zrk zrv zre zwr zrm zrs zis zss zsc ak av bk bv br a_s a_t g1 g2 g3 pa ru tx dk dv ek ev er es et nA fk b.toInt f9 (kap M) (fun j hj => EL_kap hM hj) hasc hnM (⟨by omega, by omega⟩) hin) _) (cwV 2 hts gX7_fewest_X7_longestRun rfl rfl rfl (by decide +kernel) ⟨Nat.le_of_ble_eq_true rfl, Nat.le_of_ble_eq_true rfl⟩) (kpreV (wc := [(h, .inr (9, [.int 0, .int (nI nA), .int (nI nB), .ref ak, .ref av, .ref bk, .ref bv, .ref br, .ref a_s, .ref a_t, .int (nI mS), .ref g1, .ref g2, .ref g3, .long d1x, .long d2x, .long d3x, .long d4x, .int zpb, .ref pa, .ref ru, .ref tx, .int zln, .int zat, .int zrk, .int zrv, .int zre, .int zwr, .int zrm, .int zrs, .int zis, .int zss, .int zsc, .ref dk, .ref dv, .ref ek, .ref ev, .ref er, .ref es, .ref et])), (ak, .inl (g.2.1.1, 152, .inl fk))]) (ci := 9) hK hP hD hS hA hE [0, 1] rfl rfl rfl rfl) rfl rfl hl.1 rfl (lv_room (Nat.le_of_ble_eq_true rfl)) dX7_fewest_70 ⟨Nat.zero_le _, Nat.zero_le _⟩) hP hD hS hA rfl (fun r_3 w_3 H locs hp hP hD hS => ?_)
                obtain ⟨l1x_3, l2x_3, l3x_3, l4x_3, rfl, rfl⟩ := hp
                have hP : va_P g.1 vwCl [(h, .inr (9, [.int 0, .int (nI nA), .int (nI nB), .ref ak, .ref av, .ref bk, .ref bv, .ref br, .ref a_s, .ref a_t, .int (nI mS), .ref g1, .ref g2, .ref g3, .long l1x_3, .long l2x_3, .long l3x_3, .long l4x_3, .int zpb, .ref pa, .ref ru, .ref tx, .int zln, .int zat, .int zrk, .int zrv, .int zre, .int zwr, .int zrm, .int zrs, .int zis, .int zss, .int zsc, .ref dk, .ref dv, .ref ek, .ref ev, .ref er, .ref es, .ref et])), (ak, .inl (g.2.1.1, 152, .inl fk)), (av, .inl (g.2.1.1, 152, .inl fv)), (bk, .inl (g.2.1.1, 24, .inl ck)), (bv, .inl (g.2.1.1, 24, .inl cv)), (br, .inl (g.2.1.1, 24, .inl cr)), (a_s, .inl (g.2.1.1, 4, .inl fS)), (a_t, .inl (g.2.1.1, 5, .inl fT)), (g1, .inl (g.2.1.1, 152, .inl y1)), (g2, .inl (g.2.1.1, 152, .inl y2)), (g3, .inl (g.2.1.1, 152, .inl y3)), (ru, .inl (g.2.1.1, 152, .inl fz))] H := hP
                have hD : va_D A [(h, .inr (9, [.int 0, .int (nI nA), .int (nI nB), .ref ak, .ref av, .ref bk, .ref bv, .ref br, .ref a_s, .ref a_t, .int (nI mS), .ref g1, .ref g2, .ref g3, .long l1x_3, .long l2x_3, .long l3x_3, .long l4x_3, .int zpb, .ref pa, .ref ru, .ref tx, .int zln, .int zat, .int zrk, .int zrv, .int zre, .int zwr, .int zrm, .int zrs, .int zis, .int zss, .int zsc, .ref dk, .ref dv, .ref ek, .ref ev, .ref er, .ref es, .ref et])), (ak, .inl (g.2.1.1, 152, .inl fk)), (av, .inl (g.2.1.1, 152, .inl fv)), (bk, .inl (g.2.1.1, 24, .inl ck)), (bv, .inl (g.2.1.1, 24, .inl cv)), (br, .inl (g.2.1.1, 24, .inl cr)), (a_s, .inl (g.2.1.1, 4, .inl fS)), (a_t, .inl (g.2.1.1, 5, .inl fT)), (g1, .inl (g.2.1.1, 152, .inl y1)), (g2, .inl (g.2.1.1, 152, .inl y2)), (g3, .inl (g.2.1.1, 152, .inl y3)), (ru, .inl (g.2.1.1, 152, .inl fz))] := hD
                rw [show (nI (gw0 (kap M) nA f9 b.toInt).1 : Int32) = nI (lst f9) from by rw [hlst]]
                refine lv_istore_n (lv' := [(3, .int (nI (lst f9))), (2, .int (nI f9)), (0, .ref h), (1, .int b)]) hx hb dX7_fewest_73 rfl hl (by decide) rfl (fun ls hl => ?_)
                refine lv_iload_n hx hb dX7_fewest_74 rfl (lv_at hl 1 rfl) ?_
                refine lv_istore (lv' := [(4, .int (nI f9)), (3, .int (nI (lst f9))), (2, .int (nI f9)), (0, .ref h), (1, .int b)]) hx hb dX7_fewest_75 hl (by decide) rfl (fun ls hl => ?_)
                have L77 : ∀ (n9 : Nat) (j : Nat) (fz : Nat → Int32) (H : Heap) (locs : List Loc) (ls : Array Slot), (f9 ≤ j ∧ j ≤ lst f9 + 1) → (∀ e, e ≤ nA → fz e = nI (fpart (fseq lst fst0 f9) f9 (j + 1) e)) → lst f9 + 1 - j < n9 → va_P g.1 vwCl [(h, .inr (9, [.int 0, .int (nI nA), .int (nI nB), .ref ak, .ref av, .ref bk, .ref bv, .ref br, .ref a_s, .ref a_t, .int (nI mS), .ref g1, .ref g2, .ref g3, .long l1x_3, .long l2x_3, .long l3x_3, .long l4x_3, .int zpb, .ref pa, .ref ru, .ref tx, .int zln, .int zat, .int zrk, .int zrv, .int zre, .int zwr, .int zrm, .int zrs, .int zis, .int zss, .int zsc, .ref dk, .ref dv, .ref ek, .ref ev, .ref er, .ref es, .ref et])), (ak, .inl (g.2.1.1, 152, .inl fk)), (av, .inl (g.2.1.1, 152, .inl fv)), (bk, .inl (g.2.1.1, 24, .inl ck)), (bv, .inl (g.2.1.1, 24, .inl cv)), (br, .inl (g.2.1.1, 24, .inl cr)), (a_s, .inl (g.2.1.1, 4, .inl fS)), (a_t, .inl (g.2.1.1, 5, .inl fT)), (g1, .inl (g.2.1.1, 152, .inl y1)), (g2, .inl (g.2.1.1, 152, .inl y2)), (g3, .inl (g.2.1.1, 152, .inl y3)), (ru, .inl (g.2.1.1, 152, .inl fz))] H → va_D A [(h, .inr (9, [.int 0, .int (nI nA), .int (nI nB), .ref ak, .ref av, .ref bk, .ref bv, .ref br, .ref a_s, .ref a_t, .int (nI mS), .ref g1, .ref g2, .ref g3, .long l1x_3, .long l2x_3, .long l3x_3, .long l4x_3, .int zpb, .ref pa, .ref ru, .ref tx, .int zln, .int zat, .int zrk, .int zrv, .int zre, .int zwr, .int zrm, .int zrs, .int zis, .int zss, .int zsc, .ref dk, .ref dv, .ref ek, .ref ev, .ref er, .ref es, .ref et])), (ak, .inl (g.2.1.1, 152, .inl fk)), (av, .inl (g.2.1.1, 152, .inl fv)), (bk, .inl (g.2.1.1, 24, .inl ck)), (bv, .inl (g.2.1.1, 24, .inl cv)), (br, .inl (g.2.1.1, 24, .inl cr)), (a_s, .inl (g.2.1.1, 4, .inl fS)), (a_t, .inl (g.2.1.1, 5, .inl fT)), (g1, .inl (g.2.1.1, 152, .inl y1)), (g2, .inl (g.2.1.1, 152, .inl y2)), (g3, .inl (g.2.1.1, 152, .inl y3)), (ru, .inl (g.2.1.1, 152, .inl fz))] → va_S A s.heap H locs → lv_has ls 5 [(4, .int (nI j)), (3, .int (nI (lst f9))), (2, .int (nI f9)), (0, .ref h), (1, .int b)] → W p l e rm_X7_fewest s m ([.ref h, .int b] : List Value).toArray below meth cd H locs 0 0 (kQi g 12 A (p_X7_fewest g h zth zl1 zl2 zl3 zl4 zpb zln zat zrk zrv zre zwr zrm zrs zis zss zsc ak av bk bv br a_s a_t g1 g2 g3 pa ru tx dk dv ek ev er es et nA fk fv nB ck cv cr fS fT mS y1 y2 y3 M C S T ff b) below ([.ref h, .int b] : List Value).toArray s) (F0 m 77 ls []) := by
                  intro n9
                  induction n9 with
                  | zero => intro j fz H locs ls hj hfp h9; exact absurd h9 (Nat.not_lt_zero _)
                  | succ n9 ih77 =>
                    intro j fz H locs ls hj hfp hn77 hP hD hS hl
                    refine lv_iload hx hb dX7_fewest_77 (lv_at hl 0 rfl) ?_
                    refine lv_iload_n hx hb dX7_fewest_79 rfl (lv_at hl 1 rfl) ?_
                    refine lv_icmp_gt (tgt := 138) hx hb dX7_fewest_80 (by decide) (fun c_80 => ?_) (fun c_80 => ?_)
                    · skip
                      have hte : lst f9 < j := by rw [nI_ltI (by omega) (by omega)] at c_80; exact c_80
                      have hff2 : ∀ e, e ≤ nA → fz e = nI (fseq lst fst0 (f9 + 1) e) := fun e he => by rw [hfp e he, show j + 1 = lst f9 + 2 by omega, fpart_end lst]; rfl
                      refine lv_iinc (v := nI (f9 + 1)) (lv' := [(2, .int (nI (f9 + 1))), (4, .int (nI j)), (3, .int (nI (lst f9))), (0, .ref h), (1, .int b)]) hx hb dX7_fewest_138 hl (k := 2) rfl (nI_1 f9) (by decide) rfl (fun ls hl => ?_)
                      refine lv_goto (tgt := 59) hx hb dX7_fewest_141 (by decide) ?_
                      exact ih59 (f9 + 1) fz l1x_3 l2x_3 l3x_3 l4x_3 _ _ ls hin hff2 (by omega) hP hD hS (lv_sub hl [0, 3, 4] rfl)
                    · skip
                      have hte : j ≤ lst f9 := by rw [nI_ltI (by omega) (by omega)] at c_80; omega
                      have hb1 := hsl f9
                      have hb2 := hsl (j + 1)
                      refine lv_aload_n hx hb dX7_fewest_83 rfl (lv_at hl 3 rfl) ?_
                      refine va_get (D := g.1) (ci := 9) (v := .ref ru) (C := RX7) (T := TX7) (N := 40) hx hb hts (by decide +kernel) hown hK hP 0 rfl rfl 20 (by decide) (hts (.fieldLink RX7 43 "LearnedIndexModel" "runs" "[I") (by decide +kernel)) (fun _ h9 => h9) rfl dX7_fewest_84 ?_
                      refine lv_iload hx hb dX7_fewest_87 (lv_at hl 0 rfl) ?_
                      refine lv_iconst (v := 1) hx hb dX7_fewest_89 (by decide) ?_
                      refine lv_iadd hx hb dX7_fewest_90 ?_
                      rw [show (nI j) + 1 = nI (j + 1) from nI_1 j]
                      refine lv_aload_n hx hb dX7_fewest_91 rfl (lv_at hl 3 rfl) ?_
                      refine va_get (D := g.1) (ci := 9) (v := .ref ru) (C := RX7) (T := TX7) (N := 40) hx hb hts (by decide +kernel) hown hK hP 0 rfl rfl 20 (by decide) (hts (.fieldLink RX7 43 "LearnedIndexModel" "runs" "[I") (by decide +kernel)) (fun _ h9 => h9) rfl dX7_fewest_92 ?_
                      refine lv_iload_n hx hb dX7_fewest_95 rfl (lv_at hl 2 rfl) ?_
                      refine va_iald hx hb hK hP 11 0 rfl rfl (vp_in_nI (show f9 < 152 by omega) (by omega)) dX7_fewest_96 ?_
                      rw [show (nI f9 : Int32).toNatClampNeg = f9 from nI_clamp (n := f9) (by omega)]
                      rw [show (fz f9 : Int32) = nI (fseq lst fst0 f9 f9) from by rw [hfp f9 (by omega), fpart_f]]
                      refine lv_iconst (v := 1) hx hb dX7_fewest_97 (by decide) ?_
                      refine lv_iadd hx hb dX7_fewest_98 ?_
                      rw [show (nI (fseq lst fst0 f9 f9)) + 1 = nI (fseq lst fst0 f9 f9 + 1) from nI_1 (fseq lst fst0 f9 f9)]
                      refine lv_aload_n hx hb dX7_fewest_99 rfl (lv_at hl 3 rfl) ?_
                      refine va_get (D := g.1) (ci := 9) (v := .ref ru) (C := RX7) (T := TX7) (N := 40) hx hb hts (by decide +kernel) hown hK hP 0 rfl rfl 20 (by decide) (hts (.fieldLink RX7 43 "LearnedIndexModel" "runs" "[I") (by decide +kernel)) (fun _ h9 => h9) rfl dX7_fewest_100 ?_
                      refine lv_iload hx hb dX7_fewest_103 (lv_at hl 0 rfl) ?_
                      refine lv_iconst (v := 1) hx hb dX7_fewest_105 (by decide) ?_
                      refine lv_iadd hx hb dX7_fewest_106 ?_
                      rw [show (nI j) + 1 = nI (j + 1) from nI_1 j]
                      refine va_iald hx hb hK hP 11 0 rfl rfl (vp_in_nI (show j + 1 < 152 by omega) (by omega)) dX7_fewest_107 ?_
                      rw [show (nI (j + 1) : Int32).toNatClampNeg = j + 1 from nI_clamp (n := j + 1) (by omega)]
                      rw [show (fz (j + 1) : Int32) = nI (fseq lst fst0 f9 (j + 1)) from by rw [hfp (j + 1) (by omega), fpart_t]]
                      refine lv_icmp_ge (tgt := 122) hx hb dX7_fewest_108 (by decide) (fun c_108 => ?_) (fun c_108 => ?_)
                      · skip
                        rw [nI_leI (by omega) (by omega)] at c_108
                        refine lv_aload_n hx hb dX7_fewest_122 rfl (lv_at hl 3 rfl) ?_
                        refine va_get (D := g.1) (ci := 9) (v := .ref ru) (C := RX7) (T := TX7) (N := 40) hx hb hts (by decide +kernel) hown hK hP 0 rfl rfl 20 (by decide) (hts (.fieldLink RX7 43 "LearnedIndexModel" "runs" "[I") (by decide +kernel)) (fun _ h9 => h9) rfl dX7_fewest_123 ?_
                        refine lv_iload hx hb dX7_fewest_126 (lv_at hl 0 rfl) ?_
                        refine lv_iconst (v := 1) hx hb dX7_fewest_128 (by decide) ?_
                        refine lv_iadd hx hb dX7_fewest_129 ?_
                        rw [show (nI j) + 1 = nI (j + 1) from nI_1 j]
                        refine va_iald hx hb hK hP 11 0 rfl rfl (vp_in_nI (show j + 1 < 152 by omega) (by omega)) dX7_fewest_130 ?_
                        rw [show (nI (j + 1) : Int32).toNatClampNeg = j + 1 from nI_clamp (n := j + 1) (by omega)]
                        rw [show (fz (j + 1) : Int32) = nI (min (fseq lst fst0 f9 f9 + 1) (fseq lst fst0 f9 (j + 1))) from by rw [hfp (j + 1) (by omega), fpart_t]; congr 1; omega]
                        refine va_iast hx hb hK hP hD hS 11 0 rfl rfl (vp_in_nI (show j + 1 < 152 by omega) (by omega)) dX7_fewest_131 (fun H locs hP hD hS => ?_)
                        rw [show (nI (j + 1) : Int32).toNatClampNeg = j + 1 from nI_clamp (n := j + 1) (by omega)] at hP hD
                        have hP : va_P g.1 vwCl [(h, .inr (9, [.int 0, .int (nI nA), .int (nI nB), .ref ak, .ref av, .ref bk, .ref bv, .ref br, .ref a_s, .ref a_t, .int (nI mS), .ref g1, .ref g2, .ref g3, .long l1x_3, .long l2x_3, .long l3x_3, .long l4x_3, .int zpb, .ref pa, .ref ru, .ref tx, .int zln, .int zat, .int zrk, .int zrv, .int zre, .int zwr, .int zrm, .int zrs, .int zis, .int zss, .int zsc, .ref dk, .ref dv, .ref ek, .ref ev, .ref er, .ref es, .ref et])), (ak, .inl (g.2.1.1, 152, .inl fk)), (av, .inl (g.2.1.1, 152, .inl fv)), (bk, .inl (g.2.1.1, 24, .inl ck)), (bv, .inl (g.2.1.1, 24, .inl cv)), (br, .inl (g.2.1.1, 24, .inl cr)), (a_s, .inl (g.2.1.1, 4, .inl fS)), (a_t, .inl (g.2.1.1, 5, .inl fT)), (g1, .inl (g.2.1.1, 152, .inl y1)), (g2, .inl (g.2.1.1, 152, .inl y2)), (g3, .inl (g.2.1.1, 152, .inl y3)), (ru, .inl (g.2.1.1, 152, .inl (upd fz (j + 1) (nI (min (fseq lst fst0 f9 f9 + 1) (fseq lst fst0 f9 (j + 1)))))))] H := hP
                        have hD : va_D A [(h, .inr (9, [.int 0, .int (nI nA), .int (nI nB), .ref ak, .ref av, .ref bk, .ref bv, .ref br, .ref a_s, .ref a_t, .int (nI mS), .ref g1, .ref g2, .ref g3, .long l1x_3, .long l2x_3, .long l3x_3, .long l4x_3, .int zpb, .ref pa, .ref ru, .ref tx, .int zln, .int zat, .int zrk, .int zrv, .int zre, .int zwr, .int zrm, .int zrs, .int zis, .int zss, .int zsc, .ref dk, .ref dv, .ref ek, .ref ev, .ref er, .ref es, .ref et])), (ak, .inl (g.2.1.1, 152, .inl fk)), (av, .inl (g.2.1.1, 152, .inl fv)), (bk, .inl (g.2.1.1, 24, .inl ck)), (bv, .inl (g.2.1.1, 24, .inl cv)), (br, .inl (g.2.1.1, 24, .inl cr)), (a_s, .inl (g.2.1.1, 4, .inl fS)), (a_t, .inl (g.2.1.1, 5, .inl fT)), (g1, .inl (g.2.1.1, 152, .inl y1)), (g2, .inl (g.2.1.1, 152, .inl y2)), (g3, .inl (g.2.1.1, 152, .inl y3)), (ru, .inl (g.2.1.1, 152, .inl (upd fz (j + 1) (nI (min (fseq lst fst0 f9 f9 + 1) (fseq lst fst0 f9 (j + 1)))))))] := hD
                        refine lv_iinc (v := nI (j + 1)) (lv' := [(4, .int (nI (j + 1))), (3, .int (nI (lst f9))), (2, .int (nI f9)), (0, .ref h), (1, .int b)]) hx hb dX7_fewest_132 hl (k := 0) rfl (nI_1 j) (by decide) rfl (fun ls hl => ?_)
                        refine lv_goto (tgt := 77) hx hb dX7_fewest_135 (by decide) ?_
                        exact ih77 (j + 1) (upd fz (j + 1) (nI (min (fseq lst fst0 f9 f9 + 1) (fseq lst fst0 f9 (j + 1))))) _ _ ls (⟨by omega, by omega⟩) (by intro e he; rw [fpart_s _ hj.1]; simp only [upd]; split; rfl; exact hfp e he) (by omega) hP hD hS (lv_sub hl [0, 1, 2, 3, 4] rfl)
                      · skip
                        rw [nI_leI (by omega) (by omega)] at c_108
                        refine lv_aload_n hx hb dX7_fewest_111 rfl (lv_at hl 3 rfl) ?_
                        refine va_get (D := g.1) (ci := 9) (v := .ref ru) (C := RX7) (T := TX7) (N := 40) hx hb hts (by decide +kernel) hown hK hP 0 rfl rfl 20 (by decide) (hts (.fieldLink RX7 43 "LearnedIndexModel" "runs" "[I") (by decide +kernel)) (fun _ h9 => h9) rfl dX7_fewest_112 ?_
                        refine lv_iload_n hx hb dX7_fewest_115 rfl (lv_at hl 2 rfl) ?_
                        refine va_iald hx hb hK hP 11 0 rfl rfl (vp_in_nI (show f9 < 152 by omega) (by omega)) dX7_fewest_116 ?_
                        rw [show (nI f9 : Int32).toNatClampNeg = f9 from nI_clamp (n := f9) (by omega)]
                        rw [show (fz f9 : Int32) = nI (fseq lst fst0 f9 f9) from by rw [hfp f9 (by omega), fpart_f]]
                        refine lv_iconst (v := 1) hx hb dX7_fewest_117 (by decide) ?_
                        refine lv_iadd hx hb dX7_fewest_118 ?_
                        rw [show (nI (fseq lst fst0 f9 f9)) + 1 = nI (fseq lst fst0 f9 f9 + 1) from nI_1 (fseq lst fst0 f9 f9)]
                        rw [show (nI (fseq lst fst0 f9 f9 + 1) : Int32) = nI (min (fseq lst fst0 f9 f9 + 1) (fseq lst fst0 f9 (j + 1))) from by congr 1; omega]
                        refine lv_goto (tgt := 131) hx hb dX7_fewest_119 (by decide) ?_
                        refine va_iast hx hb hK hP hD hS 11 0 rfl rfl (vp_in_nI (show j + 1 < 152 by omega) (by omega)) dX7_fewest_131 (fun H locs hP hD hS => ?_)
                        rw [show (nI (j + 1) : Int32).toNatClampNeg = j + 1 from nI_clamp (n := j + 1) (by omega)] at hP hD
                        have hP : va_P g.1 vwCl [(h, .inr (9, [.int 0, .int (nI nA), .int (nI nB), .ref ak, .ref av, .ref bk, .ref bv, .ref br, .ref a_s, .ref a_t, .int (nI mS), .ref g1, .ref g2, .ref g3, .long l1x_3, .long l2x_3, .long l3x_3, .long l4x_3, .int zpb, .ref pa, .ref ru, .ref tx, .int zln, .int zat, .int zrk, .int zrv, .int zre, .int zwr, .int zrm, .int zrs, .int zis, .int zss, .int zsc, .ref dk, .ref dv, .ref ek, .ref ev, .ref er, .ref es, .ref et])), (ak, .inl (g.2.1.1, 152, .inl fk)), (av, .inl (g.2.1.1, 152, .inl fv)), (bk, .inl (g.2.1.1, 24, .inl ck)), (bv, .inl (g.2.1.1, 24, .inl cv)), (br, .inl (g.2.1.1, 24, .inl cr)), (a_s, .inl (g.2.1.1, 4, .inl fS)), (a_t, .inl (g.2.1.1, 5, .inl fT)), (g1, .inl (g.2.1.1, 152, .inl y1)), (g2, .inl (g.2.1.1, 152, .inl y2)), (g3, .inl (g.2.1.1, 152, .inl y3)), (ru, .inl (g.2.1.1, 152, .inl (upd fz (j + 1) (nI (min (fseq lst fst0 f9 f9 + 1) (fseq lst fst0 f9 (j + 1)))))))] H := hP
                        have hD : va_D A [(h, .inr (9, [.int 0, .int (nI nA), .int (nI nB), .ref ak, .ref av, .ref bk, .ref bv, .ref br, .ref a_s, .ref a_t, .int (nI mS), .ref g1, .ref g2, .ref g3, .long l1x_3, .long l2x_3, .long l3x_3, .long l4x_3, .int zpb, .ref pa, .ref ru, .ref tx, .int zln, .int zat, .int zrk, .int zrv, .int zre, .int zwr, .int zrm, .int zrs, .int zis, .int zss, .int zsc, .ref dk, .ref dv, .ref ek, .ref ev, .ref er, .ref es, .ref et])), (ak, .inl (g.2.1.1, 152, .inl fk)), (av, .inl (g.2.1.1, 152, .inl fv)), (bk, .inl (g.2.1.1, 24, .inl ck)), (bv, .inl (g.2.1.1, 24, .inl cv)), (br, .inl (g.2.1.1, 24, .inl cr)), (a_s, .inl (g.2.1.1, 4, .inl fS)), (a_t, .inl (g.2.1.1, 5, .inl fT)), (g1, .inl (g.2.1.1, 152, .inl y1)), (g2, .inl (g.2.1.1, 152, .inl y2)), (g3, .inl (g.2.1.1, 152, .inl y3)), (ru, .inl (g.2.1.1, 152, .inl (upd fz (j + 1) (nI (min (fseq lst fst0 f9 f9 + 1) (fseq lst fst0 f9 (j + 1)))))))] := hD
                        refine lv_iinc (v := nI (j + 1)) (lv' := [(4, .int (nI (j + 1))), (3, .int (nI (lst f9))), (2, .int (nI f9)), (0, .ref h), (1, .int b)]) hx hb dX7_fewest_132 hl (k := 0) rfl (nI_1 j) (by decide) rfl (fun ls hl => ?_)
                        refine lv_goto (tgt := 77) hx hb dX7_fewest_135 (by decide) ?_
                        exact ih77 (j + 1) (upd fz (j + 1) (nI (min (fseq lst fst0 f9 f9 + 1) (fseq lst fst0 f9 (j + 1))))) _ _ ls (⟨by omega, by omega⟩) (by intro e he; rw [fpart_s _ hj.1]; simp only [upd]; split; rfl; exact hfp e he) (by omega) hP hD hS (lv_sub hl [0, 1, 2, 3, 4] rfl)
                exact L77 _ f9 fz _ _ ls (⟨Nat.le_refl _, by omega⟩) (fun e he => by rw [fpart_0]; exact hff e he) (Nat.lt_succ_self _) hP hD hS (lv_sub hl [0, 1, 2, 3, 4] rfl)
          exact L59 _ 0 fy zl1 zl2 zl3 zl4 _ _ ls (Nat.zero_le _) hf0 (Nat.lt_succ_self _) hP hD hS (lv_sub hl [0, 1, 2] rfl)
        · skip
          have hqn : q ≤ nA := by rw [nI_ltI (by omega) (by omega)] at c_32; omega
          refine lv_aload_n hx hb dX7_fewest_35 rfl (lv_at hl 1 rfl) ?_
          refine va_get (D := g.1) (ci := 9) (v := .ref ru) (C := RX7) (T := TX7) (N := 40) hx hb hts (by decide +kernel) hown hK hP 0 rfl rfl 20 (by decide) (hts (.fieldLink RX7 43 "LearnedIndexModel" "runs" "[I") (by decide +kernel)) (fun _ h9 => h9) rfl dX7_fewest_36 ?_
          refine lv_iload_n hx hb dX7_fewest_39 rfl (lv_at hl 0 rfl) ?_
          refine lv_sipush (v := 152) hx hb dX7_fewest_40 (by decide) ?_
          refine va_iast hx hb hK hP hD hS 11 0 rfl rfl (vp_in_nI (show q < 152 by omega) (by omega)) dX7_fewest_43 (fun H locs hP hD hS => ?_)
          rw [show (nI q : Int32).toNatClampNeg = q from nI_clamp (n := q) (by omega)] at hP hD
          have hP : va_P g.1 vwCl [(h, .inr (9, [.int 0, .int (nI nA), .int (nI nB), .ref ak, .ref av, .ref bk, .ref bv, .ref br, .ref a_s, .ref a_t, .int (nI mS), .ref g1, .ref g2, .ref g3, .long zl1, .long zl2, .long zl3, .long zl4, .int zpb, .ref pa, .ref ru, .ref tx, .int zln, .int zat, .int zrk, .int zrv, .int zre, .int zwr, .int zrm, .int zrs, .int zis, .int zss, .int zsc, .ref dk, .ref dv, .ref ek, .ref ev, .ref er, .ref es, .ref et])), (ak, .inl (g.2.1.1, 152, .inl fk)), (av, .inl (g.2.1.1, 152, .inl fv)), (bk, .inl (g.2.1.1, 24, .inl ck)), (bv, .inl (g.2.1.1, 24, .inl cv)), (br, .inl (g.2.1.1, 24, .inl cr)), (a_s, .inl (g.2.1.1, 4, .inl fS)), (a_t, .inl (g.2.1.1, 5, .inl fT)), (g1, .inl (g.2.1.1, 152, .inl y1)), (g2, .inl (g.2.1.1, 152, .inl y2)), (g3, .inl (g.2.1.1, 152, .inl y3)), (ru, .inl (g.2.1.1, 152, .inl (upd fz q 152)))] H := hP
          have hD : va_D A [(h, .inr (9, [.int 0, .int (nI nA), .int (nI nB), .ref ak, .ref av, .ref bk, .ref bv, .ref br, .ref a_s, .ref a_t, .int (nI mS), .ref g1, .ref g2, .ref g3, .long zl1, .long zl2, .long zl3, .long zl4, .int zpb, .ref pa, .ref ru, .ref tx, .int zln, .int zat, .int zrk, .int zrv, .int zre, .int zwr, .int zrm, .int zrs, .int zis, .int zss, .int zsc, .ref dk, .ref dv, .ref ek, .ref ev, .ref er, .ref es, .ref et])), (ak, .inl (g.2.1.1, 152, .inl fk)), (av, .inl (g.2.1.1, 152, .inl fv)), (bk, .inl (g.2.1.1, 24, .inl ck)), (bv, .inl (g.2.1.1, 24, .inl cv)), (br, .inl (g.2.1.1, 24, .inl cr)), (a_s, .inl (g.2.1.1, 4, .inl fS)), (a_t, .inl (g.2.1.1, 5, .inl fT)), (g1, .inl (g.2.1.1, 152, .inl y1)), (g2, .inl (g.2.1.1, 152, .inl y2)), (g3, .inl (g.2.1.1, 152, .inl y3)), (ru, .inl (g.2.1.1, 152, .inl (upd fz q 152)))] := hD
          refine lv_iinc (v := nI (q + 1)) (lv' := [(2, .int (nI (q + 1))), (0, .ref h), (1, .int b)]) hx hb dX7_fewest_44 hl (k := 0) rfl (nI_1 q) (by decide) rfl (fun ls hl => ?_)
          refine lv_goto (tgt := 27) hx hb dX7_fewest_47 (by decide) ?_
          exact ih27 (q + 1) (upd fz q 152) _ _ ls (⟨by omega, by omega⟩) (by intro e h1 h2; simp only [upd]; split; rfl; exact hz e h1 (by omega)) (by omega) hP hD hS (lv_sub hl [0, 1, 2] rfl)
    exact L27 _ 1 ff _ _ ls (⟨Nat.le_refl 1, by omega⟩) (fun e h1 h2 => absurd h2 (by omega)) (Nat.lt_succ_self _) hP hD hS (lv_sub hl [0, 1, 2] rfl)
  · skip
    have hst : stV 0 b = false := (kbool_eq _).mp ((stV_isB b).symm.trans c_9)
    have hk9 : fewK b = 1 := by rw [fewK, if_neg (by rw [hst]; decide)]
    refine lv_iconst (v := 1) hx hb dX7_fewest_12 (by decide) ?_
    refine lv_goto (tgt := 17) hx hb dX7_fewest_13 (by decide) ?_
    refine kcalli (wc := [(h, .inr (9, [.int zth, .int (nI nA), .int (nI nB), .ref ak, .ref av, .ref bk, .ref bv, .ref br, .ref a_s, .ref a_t, .int (nI mS), .ref g1, .ref g2, .ref g3, .long zl1, .long zl2, .long zl3, .long zl4, .int zpb, .ref pa, .ref ru, .ref tx, .int zln, .int zat, .int zrk, .int zrv, .int zre, .int zwr, .int zrm, .int zrs, .int zis, .int zss, .int zsc, .ref dk, .ref dv, .ref ek, .ref ev, .ref er, .ref es, .ref et]))]) [0] (va_runV (C := RX7) (As := [.int 1, .int 1]) (rest := []) ⟨hx, hb, hml, hown, hts⟩ ((c_X7_fails1 l g h zth (nI nA) (nI nB) (nI mS) zl1 zl2 zl3 zl4 zpb zln zat zrk zrv zre zwr zrm zrs zis zss zsc ak av bk bv br a_s a_t g1 g2 g3 pa ru tx dk dv ek ev er es et 1) _) (cwV 2 hts gX7_fewest_X7_fails rfl rfl rfl (by decide +kernel) ⟨Nat.le_of_ble_eq_true rfl, Nat.le_of_ble_eq_true rfl⟩) (kpreV (wc := [(h, .inr (9, [.int zth, .int (nI nA), .int (nI nB), .ref ak, .ref av, .ref bk, .ref bv, .ref br, .ref a_s, .ref a_t, .int (nI mS), .ref g1, .ref g2, .ref g3, .long zl1, .long zl2, .long zl3, .long zl4, .int zpb, .ref pa, .ref ru, .ref tx, .int zln, .int zat, .int zrk, .int zrv, .int zre, .int zwr, .int zrm, .int zrs, .int zis, .int zss, .int zsc, .ref dk, .ref dv, .ref ek, .ref ev, .ref er, .ref es, .ref et]))]) (ci := 9) hK hP hD hS hA hE [0] rfl rfl rfl rfl) rfl rfl hl.1 rfl (lv_room (Nat.le_of_ble_eq_true rfl)) dX7_fewest_17 ⟨Nat.zero_le _, Nat.zero_le _⟩) hP hD hS hA rfl (fun r_4 w_4 H locs hp hP hD hS => ?_)
    obtain ⟨rfl, rfl⟩ := hp
    have hP : va_P g.1 vwCl [(h, .inr (9, [.int 1, .int (nI nA), .int (nI nB), .ref ak, .ref av, .ref bk, .ref bv, .ref br, .ref a_s, .ref a_t, .int (nI mS), .ref g1, .ref g2, .ref g3, .long zl1, .long zl2, .long zl3, .long zl4, .int zpb, .ref pa, .ref ru, .ref tx, .int zln, .int zat, .int zrk, .int zrv, .int zre, .int zwr, .int zrm, .int zrs, .int zis, .int zss, .int zsc, .ref dk, .ref dv, .ref ek, .ref ev, .ref er, .ref es, .ref et])), (ak, .inl (g.2.1.1, 152, .inl fk)), (av, .inl (g.2.1.1, 152, .inl fv)), (bk, .inl (g.2.1.1, 24, .inl ck)), (bv, .inl (g.2.1.1, 24, .inl cv)), (br, .inl (g.2.1.1, 24, .inl cr)), (a_s, .inl (g.2.1.1, 4, .inl fS)), (a_t, .inl (g.2.1.1, 5, .inl fT)), (g1, .inl (g.2.1.1, 152, .inl y1)), (g2, .inl (g.2.1.1, 152, .inl y2)), (g3, .inl (g.2.1.1, 152, .inl y3)), (ru, .inl (g.2.1.1, 152, .inl ff))] H := hP
    have hD : va_D A [(h, .inr (9, [.int 1, .int (nI nA), .int (nI nB), .ref ak, .ref av, .ref bk, .ref bv, .ref br, .ref a_s, .ref a_t, .int (nI mS), .ref g1, .ref g2, .ref g3, .long zl1, .long zl2, .long zl3, .long zl4, .int zpb, .ref pa, .ref ru, .ref tx, .int zln, .int zat, .int zrk, .int zrv, .int zre, .int zwr, .int zrm, .int zrs, .int zis, .int zss, .int zsc, .ref dk, .ref dv, .ref ek, .ref ev, .ref er, .ref es, .ref et])), (ak, .inl (g.2.1.1, 152, .inl fk)), (av, .inl (g.2.1.1, 152, .inl fv)), (bk, .inl (g.2.1.1, 24, .inl ck)), (bv, .inl (g.2.1.1, 24, .inl cv)), (br, .inl (g.2.1.1, 24, .inl cr)), (a_s, .inl (g.2.1.1, 4, .inl fS)), (a_t, .inl (g.2.1.1, 5, .inl fT)), (g1, .inl (g.2.1.1, 152, .inl y1)), (g2, .inl (g.2.1.1, 152, .inl y2)), (g3, .inl (g.2.1.1, 152, .inl y3)), (ru, .inl (g.2.1.1, 152, .inl ff))] := hD
    refine lv_if_eq (tgt := 25) hx hb dX7_fewest_20 (by decide) (fun c_20 => absurd c_20 (by decide)) (fun c_20 => ?_)
    refine lv_iconst (v := 0) hx hb dX7_fewest_23 (by decide) ?_
    exact kreti hx hb hRt hlk hK hP hD hS rfl dX7_fewest_24 (⟨ff, zl1, zl2, zl3, zl4, by rw [hk9]; rfl, by rw [hk9]⟩)
