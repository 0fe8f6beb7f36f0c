/-! ===== the model: readAll ===== -/
theorem ovf_d {G : List kE3} {L : List kE3} {ne : Nat} {e : kE3} (h : L.drop ne = e :: L.drop (ne + 1)) : ovf G (L.drop ne) = (decide (150 < (appG G e).length) || ovf (appG G e) (L.drop (ne + 1))) := by rw [h, ovf]
theorem fold_sn (P : List kE3) (G : List kE3) (e : kE3) : List.foldl appG G (P ++ [e]) = appG (List.foldl appG G P) e := by rw [List.foldl_append]; rfl
theorem ldS_sn (M C : List kE3) (S T : Nat → Int32) (P : List kE3) (e : kE3) : ldS M C S T (P ++ [e]) = ldF S (ldS M C S T P) e := by rw [ldS, List.foldl_append]; rfl
theorem drop_nil' {L P : List kE3} {e : kE3} {ne : Nat} (h : L = P ++ [e]) (hp : P.length = ne) : L.drop (ne + 1) = [] := by rw [h]; exact List.drop_of_length_le (by rw [List.length_append, hp]; simp)
theorem nI_pm {a : Nat} (h : 0 < a) : nI a + (-1) = nI (a - 1) := by
  rw [kI_nI, kI_nI, show (-1 : Int32) = kI (-1) from rfl, kI_add]; congr 1; omega
theorem lkp_pos {G : List kE3} {x : Int32} (h : (lkp G x).isSome = true) : 0 < G.length := by
  obtain ⟨e, he, -⟩ := lkp_isSome_iff.mp h
  exact List.length_pos_of_mem he

set_option maxRecDepth 20000 in
theorem ggX7_readAll_X7_countEntries : GoodIn wsX7_readAll wsX7_countEntries := goodIn_ca (goodIn_r _ [12, 13, 14, 15, 16, 17, 18, 19, 11, 20, 21, 119, 120, 121, 122, 123, 124, 125, 126, 127, 128, 129, 130, 131, 132, 133, 134, 135, 136, 137, 138, 139, 140, 141, 142, 143, 144, 145, 146, 147, 148, 149, 150, 151, 152, 153, 154, 155, 156, 157, 158] (by decide +kernel) (by decide +kernel)) (goodIn_sub (fun _ h => List.mem_cons_of_mem _ (List.mem_append_left _ (List.mem_append_right _ h))) (by decide +kernel))
set_option maxRecDepth 20000 in
theorem gX7_readAll_X7_countEntries : GoodIn wsX7_readAll (wsV RX7 127 RX7 yX7_countEntries wsX7_countEntries) := goodIn_app (goodIn_of _ (by decide +kernel)) ggX7_readAll_X7_countEntries
set_option maxRecDepth 20000 in
theorem ggX7_readAll_X7_readEntry : GoodIn wsX7_readAll wsX7_readEntry := goodIn_ca (goodIn_r _ [25, 5, 6, 2, 26, 27, 28, 29, 11, 30, 31, 1, 32, 33, 34, 35, 4, 36, 37, 38, 39, 119, 120, 121, 122, 123, 124, 125, 126, 127, 128, 129, 130, 131, 132, 133, 134, 135, 136, 137, 138, 139, 140, 141, 142, 143, 144, 145, 146, 147, 148, 149, 150, 151, 152, 153, 154, 155, 156, 157, 158] (by decide +kernel) (by decide +kernel)) (goodIn_sub (fun _ h => List.mem_cons_of_mem _ (List.mem_append_left _ (List.mem_append_right _ h))) (by decide +kernel))
set_option maxRecDepth 20000 in
theorem gX7_readAll_X7_readEntry : GoodIn wsX7_readAll (wsV RX7 246 RX7 yX7_readEntry wsX7_readEntry) := goodIn_app (goodIn_of _ (by decide +kernel)) ggX7_readAll_X7_readEntry
set_option maxRecDepth 20000 in
theorem ggX7_readAll_X7_wasThere : GoodIn wsX7_readAll wsX7_wasThere := goodIn_ca (goodIn_r _ [43, 1, 7, 6, 5, 44, 45, 46, 11, 47, 16, 48, 49, 50, 51, 14, 15, 17, 18, 19, 20, 13, 21, 22, 23, 24, 25, 2, 26, 27, 28, 29, 30, 31, 32, 33, 34, 35, 4, 36, 37, 38, 39, 119, 120, 121, 122, 123, 124, 125, 126, 127, 128, 129, 130, 131, 132, 133, 134, 135, 136, 137, 138, 139, 140, 141, 142, 143, 144, 145, 146, 147, 148, 149, 150, 151, 152, 153, 154, 155, 156, 157, 158] (by decide +kernel) (by decide +kernel)) (goodIn_sub (fun _ h => List.mem_cons_of_mem _ (List.mem_append_left _ (List.mem_append_right _ h))) (by decide +kernel))
set_option maxRecDepth 20000 in
theorem gX7_readAll_X7_wasThere : GoodIn wsX7_readAll (wsV RX7 249 RX7 yX7_wasThere wsX7_wasThere) := goodIn_app (goodIn_of _ (by decide +kernel)) ggX7_readAll_X7_wasThere
set_option maxRecDepth 20000 in
theorem ggX7_readAll_X7_apply : GoodIn wsX7_readAll wsX7_apply := goodIn_ca (goodIn_ca (goodIn_r _ [55, 6, 5, 26, 56, 57, 58, 11, 59, 60, 61, 62, 63, 14, 15, 16, 64, 48, 49, 50, 51, 65, 66, 67, 68, 69, 70, 71, 72, 73, 74, 75, 17, 18, 19, 20, 13, 21, 76, 77, 78, 79, 80, 81, 82, 83, 84, 85, 86, 87, 88, 89, 90, 91, 92, 93, 94, 95, 96, 97, 98, 99, 100, 101, 102, 103, 104, 105, 106, 107, 108, 109, 110, 44, 45, 46, 47, 111, 112, 113, 114, 115, 116, 117, 118, 119, 120, 121, 122, 123, 124, 125, 126, 127, 128, 129, 130, 131, 132, 133, 134, 135, 136, 137, 138, 139, 140, 141, 142, 143, 144, 145, 146, 147, 148, 149, 150, 151, 152, 153, 154, 155, 156, 157, 158] (by decide +kernel) (by decide +kernel)) (goodIn_sub (fun _ h => List.mem_cons_of_mem _ (List.mem_append_left _ (List.mem_append_right _ h))) (by decide +kernel))) (goodIn_sub (fun _ h => List.mem_cons_of_mem _ (List.mem_append_right _ h)) (by decide +kernel))
set_option maxRecDepth 20000 in
theorem gX7_readAll_X7_apply : GoodIn wsX7_readAll (wsV RX7 255 RX7 yX7_apply wsX7_apply) := goodIn_app (goodIn_of _ (by decide +kernel)) ggX7_readAll_X7_apply
set_option maxRecDepth 20000 in
theorem ggX7_readAll_X7_passes : GoodIn wsX7_readAll wsX7_passes := goodIn_ca (goodIn_r _ [39, 2, 1, 4, 31, 119, 120, 121, 122, 123, 124, 125, 126, 127, 128, 129, 130, 131, 132, 133, 134, 135, 136, 137, 138, 139, 140, 141, 142, 143, 144, 145, 146, 147, 148, 149, 150, 151, 152, 153, 154, 155, 156, 157, 158] (by decide +kernel) (by decide +kernel)) (goodIn_sub (fun _ h => List.mem_cons_of_mem _ (List.mem_append_left _ (List.mem_append_right _ h))) (by decide +kernel))
set_option maxRecDepth 20000 in
theorem gX7_readAll_X7_passes : GoodIn wsX7_readAll (wsV RX7 233 RX7 yX7_passes wsX7_passes) := goodIn_app (goodIn_of _ (by decide +kernel)) ggX7_readAll_X7_passes
theorem dX7_readAll_0 : decode cX7_readAll 0 = .ok (.aload_n 0, 1) := by decide +kernel
theorem dX7_readAll_1 : decode cX7_readAll 1 = .ok (.iconst 0, 1) := by decide +kernel
theorem dX7_readAll_2 : decode cX7_readAll 2 = .ok (.putfield 220, 3) := by decide +kernel
theorem dX7_readAll_5 : decode cX7_readAll 5 = .ok (.aload_n 0, 1) := by decide +kernel
theorem dX7_readAll_6 : decode cX7_readAll 6 = .ok (.iconst 0, 1) := by decide +kernel
theorem dX7_readAll_7 : decode cX7_readAll 7 = .ok (.putfield 216, 3) := by decide +kernel
theorem dX7_readAll_10 : decode cX7_readAll 10 = .ok (.aload_n 0, 1) := by decide +kernel
theorem dX7_readAll_11 : decode cX7_readAll 11 = .ok (.iconst 0, 1) := by decide +kernel
theorem dX7_readAll_12 : decode cX7_readAll 12 = .ok (.putfield 243, 3) := by decide +kernel
theorem dX7_readAll_15 : decode cX7_readAll 15 = .ok (.aload_n 0, 1) := by decide +kernel
theorem dX7_readAll_16 : decode cX7_readAll 16 = .ok (.invokevirtual 127, 3) := by decide +kernel
theorem dX7_readAll_19 : decode cX7_readAll 19 = .ok (.istore_n 2, 1) := by decide +kernel
theorem dX7_readAll_20 : decode cX7_readAll 20 = .ok (.aload_n 0, 1) := by decide +kernel
theorem dX7_readAll_21 : decode cX7_readAll 21 = .ok (.getfield 213, 3) := by decide +kernel
theorem dX7_readAll_24 : decode cX7_readAll 24 = .ok (.ifCond .le 7, 3) := by decide +kernel
theorem dX7_readAll_27 : decode cX7_readAll 27 = .ok (.iconst 1, 1) := by decide +kernel
theorem dX7_readAll_28 : decode cX7_readAll 28 = .ok (.goto 4, 3) := by decide +kernel
theorem dX7_readAll_31 : decode cX7_readAll 31 = .ok (.iconst 0, 1) := by decide +kernel
theorem dX7_readAll_32 : decode cX7_readAll 32 = .ok (.istore_n 3, 1) := by decide +kernel
theorem dX7_readAll_33 : decode cX7_readAll 33 = .ok (.iload_n 3, 1) := by decide +kernel
theorem dX7_readAll_34 : decode cX7_readAll 34 = .ok (.ifCond .eq 168, 3) := by decide +kernel
theorem dX7_readAll_37 : decode cX7_readAll 37 = .ok (.aload_n 0, 1) := by decide +kernel
theorem dX7_readAll_38 : decode cX7_readAll 38 = .ok (.getfield 220, 3) := by decide +kernel
theorem dX7_readAll_41 : decode cX7_readAll 41 = .ok (.istore 4, 2) := by decide +kernel
theorem dX7_readAll_43 : decode cX7_readAll 43 = .ok (.aload_n 0, 1) := by decide +kernel
theorem dX7_readAll_44 : decode cX7_readAll 44 = .ok (.invokevirtual 246, 3) := by decide +kernel
theorem dX7_readAll_47 : decode cX7_readAll 47 = .ok (.aload_n 0, 1) := by decide +kernel
theorem dX7_readAll_48 : decode cX7_readAll 48 = .ok (.dup, 1) := by decide +kernel
theorem dX7_readAll_49 : decode cX7_readAll 49 = .ok (.getfield 243, 3) := by decide +kernel
theorem dX7_readAll_52 : decode cX7_readAll 52 = .ok (.iconst 1, 1) := by decide +kernel
theorem dX7_readAll_53 : decode cX7_readAll 53 = .ok (.iadd, 1) := by decide +kernel
theorem dX7_readAll_54 : decode cX7_readAll 54 = .ok (.putfield 243, 3) := by decide +kernel
theorem dX7_readAll_57 : decode cX7_readAll 57 = .ok (.iload_n 1, 1) := by decide +kernel
theorem dX7_readAll_58 : decode cX7_readAll 58 = .ok (.iconst 1, 1) := by decide +kernel
theorem dX7_readAll_59 : decode cX7_readAll 59 = .ok (.if_icmp .ne 65, 3) := by decide +kernel
theorem dX7_readAll_62 : decode cX7_readAll 62 = .ok (.aload_n 0, 1) := by decide +kernel
theorem dX7_readAll_63 : decode cX7_readAll 63 = .ok (.aload_n 0, 1) := by decide +kernel
theorem dX7_readAll_64 : decode cX7_readAll 64 = .ok (.getfield 230, 3) := by decide +kernel
theorem dX7_readAll_67 : decode cX7_readAll 67 = .ok (.iload 4, 2) := by decide +kernel
theorem dX7_readAll_69 : decode cX7_readAll 69 = .ok (.invokevirtual 249, 3) := by decide +kernel
theorem dX7_readAll_72 : decode cX7_readAll 72 = .ok (.istore 5, 2) := by decide +kernel
theorem dX7_readAll_74 : decode cX7_readAll 74 = .ok (.iload_n 2, 1) := by decide +kernel
theorem dX7_readAll_75 : decode cX7_readAll 75 = .ok (.aload_n 0, 1) := by decide +kernel
theorem dX7_readAll_76 : decode cX7_readAll 76 = .ok (.getfield 237, 3) := by decide +kernel
theorem dX7_readAll_79 : decode cX7_readAll 79 = .ok (.ifCond .eq 16, 3) := by decide +kernel
theorem dX7_readAll_82 : decode cX7_readAll 82 = .ok (.iload 5, 2) := by decide +kernel
theorem dX7_readAll_84 : decode cX7_readAll 84 = .ok (.ifCond .eq 7, 3) := by decide +kernel
theorem dX7_readAll_87 : decode cX7_readAll 87 = .ok (.iconst (-1), 1) := by decide +kernel
theorem dX7_readAll_88 : decode cX7_readAll 88 = .ok (.goto 17, 3) := by decide +kernel
theorem dX7_readAll_91 : decode cX7_readAll 91 = .ok (.iconst 0, 1) := by decide +kernel
theorem dX7_readAll_92 : decode cX7_readAll 92 = .ok (.goto 13, 3) := by decide +kernel
theorem dX7_readAll_95 : decode cX7_readAll 95 = .ok (.iload 5, 2) := by decide +kernel
theorem dX7_readAll_97 : decode cX7_readAll 97 = .ok (.ifCond .eq 7, 3) := by decide +kernel
theorem dX7_readAll_100 : decode cX7_readAll 100 = .ok (.iconst 0, 1) := by decide +kernel
theorem dX7_readAll_101 : decode cX7_readAll 101 = .ok (.goto 4, 3) := by decide +kernel
theorem dX7_readAll_104 : decode cX7_readAll 104 = .ok (.iconst 1, 1) := by decide +kernel
theorem dX7_readAll_105 : decode cX7_readAll 105 = .ok (.iadd, 1) := by decide +kernel
theorem dX7_readAll_106 : decode cX7_readAll 106 = .ok (.istore_n 2, 1) := by decide +kernel
theorem dX7_readAll_107 : decode cX7_readAll 107 = .ok (.aload_n 0, 1) := by decide +kernel
theorem dX7_readAll_108 : decode cX7_readAll 108 = .ok (.aload_n 0, 1) := by decide +kernel
theorem dX7_readAll_109 : decode cX7_readAll 109 = .ok (.getfield 252, 3) := by decide +kernel
theorem dX7_readAll_112 : decode cX7_readAll 112 = .ok (.putfield 220, 3) := by decide +kernel
theorem dX7_readAll_115 : decode cX7_readAll 115 = .ok (.iload_n 2, 1) := by decide +kernel
theorem dX7_readAll_116 : decode cX7_readAll 116 = .ok (.sipush 150, 3) := by decide +kernel
theorem dX7_readAll_119 : decode cX7_readAll 119 = .ok (.if_icmp .le 5, 3) := by decide +kernel
theorem dX7_readAll_122 : decode cX7_readAll 122 = .ok (.iconst 0, 1) := by decide +kernel
theorem dX7_readAll_123 : decode cX7_readAll 123 = .ok (.ireturn, 1) := by decide +kernel
theorem dX7_readAll_124 : decode cX7_readAll 124 = .ok (.iload_n 1, 1) := by decide +kernel
theorem dX7_readAll_125 : decode cX7_readAll 125 = .ok (.iconst 2, 1) := by decide +kernel
theorem dX7_readAll_126 : decode cX7_readAll 126 = .ok (.if_icmp .ne 7, 3) := by decide +kernel
theorem dX7_readAll_129 : decode cX7_readAll 129 = .ok (.aload_n 0, 1) := by decide +kernel
theorem dX7_readAll_130 : decode cX7_readAll 130 = .ok (.invokevirtual 255, 3) := by decide +kernel
theorem dX7_readAll_133 : decode cX7_readAll 133 = .ok (.aload_n 0, 1) := by decide +kernel
theorem dX7_readAll_134 : decode cX7_readAll 134 = .ok (.getfield 216, 3) := by decide +kernel
theorem dX7_readAll_137 : decode cX7_readAll 137 = .ok (.ifCond .ne 18, 3) := by decide +kernel
theorem dX7_readAll_140 : decode cX7_readAll 140 = .ok (.aload_n 0, 1) := by decide +kernel
theorem dX7_readAll_141 : decode cX7_readAll 141 = .ok (.getfield 220, 3) := by decide +kernel
theorem dX7_readAll_144 : decode cX7_readAll 144 = .ok (.aload_n 0, 1) := by decide +kernel
theorem dX7_readAll_145 : decode cX7_readAll 145 = .ok (.getfield 213, 3) := by decide +kernel
theorem dX7_readAll_148 : decode cX7_readAll 148 = .ok (.if_icmp .ge 7, 3) := by decide +kernel
theorem dX7_readAll_151 : decode cX7_readAll 151 = .ok (.iconst 1, 1) := by decide +kernel
theorem dX7_readAll_152 : decode cX7_readAll 152 = .ok (.goto 4, 3) := by decide +kernel
theorem dX7_readAll_155 : decode cX7_readAll 155 = .ok (.iconst 0, 1) := by decide +kernel
theorem dX7_readAll_156 : decode cX7_readAll 156 = .ok (.istore_n 3, 1) := by decide +kernel
theorem dX7_readAll_157 : decode cX7_readAll 157 = .ok (.aload_n 0, 1) := by decide +kernel
theorem dX7_readAll_158 : decode cX7_readAll 158 = .ok (.dup, 1) := by decide +kernel
theorem dX7_readAll_159 : decode cX7_readAll 159 = .ok (.getfield 216, 3) := by decide +kernel
theorem dX7_readAll_162 : decode cX7_readAll 162 = .ok (.iload_n 3, 1) := by decide +kernel
theorem dX7_readAll_163 : decode cX7_readAll 163 = .ok (.ifCond .eq 16, 3) := by decide +kernel
theorem dX7_readAll_166 : decode cX7_readAll 166 = .ok (.aload_n 0, 1) := by decide +kernel
theorem dX7_readAll_167 : decode cX7_readAll 167 = .ok (.bipush 59, 2) := by decide +kernel
theorem dX7_readAll_169 : decode cX7_readAll 169 = .ok (.invokevirtual 233, 3) := by decide +kernel
theorem dX7_readAll_172 : decode cX7_readAll 172 = .ok (.ifCond .ne 7, 3) := by decide +kernel
theorem dX7_readAll_175 : decode cX7_readAll 175 = .ok (.iconst 1, 1) := by decide +kernel
theorem dX7_readAll_176 : decode cX7_readAll 176 = .ok (.goto 4, 3) := by decide +kernel
theorem dX7_readAll_179 : decode cX7_readAll 179 = .ok (.iconst 0, 1) := by decide +kernel
theorem dX7_readAll_180 : decode cX7_readAll 180 = .ok (.ior, 1) := by decide +kernel
theorem dX7_readAll_181 : decode cX7_readAll 181 = .ok (.putfield 216, 3) := by decide +kernel
theorem dX7_readAll_184 : decode cX7_readAll 184 = .ok (.iload_n 3, 1) := by decide +kernel
theorem dX7_readAll_185 : decode cX7_readAll 185 = .ok (.aload_n 0, 1) := by decide +kernel
theorem dX7_readAll_186 : decode cX7_readAll 186 = .ok (.getfield 216, 3) := by decide +kernel
theorem dX7_readAll_189 : decode cX7_readAll 189 = .ok (.ifCond .ne 7, 3) := by decide +kernel
theorem dX7_readAll_192 : decode cX7_readAll 192 = .ok (.iconst 1, 1) := by decide +kernel
theorem dX7_readAll_193 : decode cX7_readAll 193 = .ok (.goto 4, 3) := by decide +kernel
theorem dX7_readAll_196 : decode cX7_readAll 196 = .ok (.iconst 0, 1) := by decide +kernel
theorem dX7_readAll_197 : decode cX7_readAll 197 = .ok (.iand, 1) := by decide +kernel
theorem dX7_readAll_198 : decode cX7_readAll 198 = .ok (.istore_n 3, 1) := by decide +kernel
theorem dX7_readAll_199 : decode cX7_readAll 199 = .ok (.goto (-166), 3) := by decide +kernel
theorem dX7_readAll_202 : decode cX7_readAll 202 = .ok (.iconst 1, 1) := by decide +kernel
theorem dX7_readAll_203 : decode cX7_readAll 203 = .ok (.ireturn, 1) := by decide +kernel
def rm_X7_readAll0 : Room := { frames := 3, cells := 0, slots := 0, locals := 64 }
abbrev p_X7_readAll0 (g : kG) (h : Nat) (zth : Int32) (zsg : Int32) (zl1 : Int64) (zl2 : Int64) (zl3 : Int64) (zl4 : Int64) (zpb : Int32) (zat : Int32) (zrk : Int32) (zrv : Int32) (zre : Int32) (zwr : Int32) (zrm : Int32) (zrs : Int32) (zis : Int32) (zss : Int32) (zsc : Int32) (ak : Nat) (av : Nat) (bk : Nat) (bv : Nat) (br : Nat) (a_s : Nat) (a_t : Nat) (g1 : Nat) (g2 : Nat) (g3 : Nat) (pa : Nat) (ru : Nat) (tx : Nat) (dk : Nat) (dv : Nat) (ek : Nat) (ev : Nat) (er : Nat) (es : Nat) (et : Nat) (nA : Nat) (fk : Nat → Int32) (fv : Nat → Int32) (nB : Nat) (ck : Nat → Int32) (cv : Nat → Int32) (cr : Nat → Int32) (nT : Nat) (tT : Nat → Int32) (M : List kE3) (C : List kE3) : Int32 → va_W → Prop := fun r w1 => ∃ (j : Nat), ∃ (ne : Nat), ∃ (rk2 : Int32), ∃ (rv2 : Int32), ∃ (rm2 : Int32), ∃ (zw2 : Int32), r = 1 ∧ (((pT tT nT).1 = true ∧ zw2 = 0) ∨ ((pT tT nT).1 = false ∧ zw2 = 1 ∧ (pT tT nT).2.1 = j)) ∧ w1 = [(h, .inr (9, [.int zth, .int (nI nA), .int (nI nB), .ref ak, .ref av, .ref bk, .ref bv, .ref br, .ref a_s, .ref a_t, .int zsg, .ref g1, .ref g2, .ref g3, .long zl1, .long zl2, .long zl3, .long zl4, .int zpb, .ref pa, .ref ru, .ref tx, .int (nI nT), .int (nI j), .int rk2, .int rv2, .int (nI ne), .int zw2, .int rm2, .int zrs, .int zis, .int zss, .int zsc, .ref dk, .ref dv, .ref ek, .ref ev, .ref er, .ref es, .ref et])), (ak, .inl (g.2.1.1, 152, .inl fk)), (av, .inl (g.2.1.1, 152, .inl fv)), (bk, .inl (g.2.1.1, 24, .inl ck)), (bv, .inl (g.2.1.1, 24, .inl cv)), (br, .inl (g.2.1.1, 24, .inl cr)), (tx, .inl (g.2.1.2.1, 100, .inl tT))]
set_option maxHeartbeats 4000000 in
set_option maxRecDepth 100000 in
theorem c_X7_readAll0 (l : Launch) (g : kG) (h : Nat) (zth : Int32) (zsg : Int32) (zl1 : Int64) (zl2 : Int64) (zl3 : Int64) (zl4 : Int64) (zpb : Int32) (zat : Int32) (zrk : Int32) (zrv : Int32) (zre : Int32) (zwr : Int32) (zrm : Int32) (zrs : Int32) (zis : Int32) (zss : Int32) (zsc : Int32) (ak : Nat) (av : Nat) (bk : Nat) (bv : Nat) (br : Nat) (a_s : Nat) (a_t : Nat) (g1 : Nat) (g2 : Nat) (g3 : Nat) (pa : Nat) (ru : Nat) (tx : Nat) (dk : Nat) (dv : Nat) (ek : Nat) (ev : Nat) (er : Nat) (es : Nat) (et : Nat) (nA : Nat) (fk : Nat → Int32) (fv : Nat → Int32) (nB : Nat) (ck : Nat → Int32) (cv : Nat → Int32) (cr : Nat → Int32) (nT : Nat) (tT : Nat → Int32) (M : List kE3) (C : List kE3) (hMM : kMM nA fk fv nB ck cv cr M C) (hn : nT ≤ 100) : KI l yX7_readAll wsX7_readAll rm_X7_readAll0 g [.ref h, .int 0] [(h, .inr (9, [.int zth, .int (nI nA), .int (nI nB), .ref ak, .ref av, .ref bk, .ref bv, .ref br, .ref a_s, .ref a_t, .int zsg, .ref g1, .ref g2, .ref g3, .long zl1, .long zl2, .long zl3, .long zl4, .int zpb, .ref pa, .ref ru, .ref tx, .int (nI nT), .int zat, .int zrk, .int zrv, .int zre, .int zwr, .int zrm, .int zrs, .int zis, .int zss, .int zsc, .ref dk, .ref dv, .ref ek, .ref ev, .ref er, .ref es, .ref et])), (ak, .inl (g.2.1.1, 152, .inl fk)), (av, .inl (g.2.1.1, 152, .inl fv)), (bk, .inl (g.2.1.1, 24, .inl ck)), (bv, .inl (g.2.1.1, 24, .inl cv)), (br, .inl (g.2.1.1, 24, .inl cr)), (tx, .inl (g.2.1.2.1, 100, .inl tT))] (p_X7_readAll0 g h zth zsg zl1 zl2 zl3 zl4 zpb zat zrk zrv zre zwr zrm zrs zis zss zsc ak av bk bv br a_s a_t g1 g2 g3 pa ru tx dk dv ek ev er es et nA fk fv nB ck cv cr nT tT M C) := by
  refine kbodyI (cc := cX7_readAll) (n := 6) (k := 7) (own := RX7) (plainFor_of_name (by decide)) rfl rfl rfl rfl ?_
  intro p e s m below meth cd A ls hcx
  obtain ⟨hx, hb, hRt, hml, hts, hown, hlk, hA, hP, hK, hD, hE, hS, hl⟩ := hcx
  have hl : lv_has ls 6 [(0, .ref h), (1, .int 0)] := hl
  obtain ⟨⟨hM, hC⟩, ⟨hnM, hnC⟩, ⟨hIM, hIC⟩, hlen, hrem⟩ := id hMM
  have hsM : kSo (EL nA fk fv fz0) := by rw [hM]; exact hIM.1
  have hsC : kSo (EL nB ck cv cr) := by rw [hC]; exact hIC.1
  have hnl : nA = M.length := by rw [← hM, EL_len]
  have hcl : nB = C.length := by rw [← hC, EL_len]
  refine lv_aload_n hx hb dX7_readAll_0 rfl (lv_at hl 0 rfl) ?_
  refine lv_iconst (v := 0) hx hb dX7_readAll_1 (by decide) ?_
  refine va_put (D := g.1) (ci := 9) (v := .int 0) (ty := .int) (C := RX7) (T := TX7) (N := 40) hx hb hts (by decide +kernel) tyX7 tyX7_ok nmX7 hown hK hP hD hS 0 rfl rfl 23 (by decide) (hts (.fieldLink RX7 220 "LearnedIndexModel" "at" "I") (by decide +kernel)) (fun _ h9 => h9) rfl (by decide +kernel) rfl rfl (Nat.le_of_ble_eq_true rfl) dX7_readAll_2 (fun H locs hP hD hS => ?_)
  have hP : va_P g.1 vwCl [(h, .inr (9, [.int zth, .int (nI nA), .int (nI nB), .ref ak, .ref av, .ref bk, .ref bv, .ref br, .ref a_s, .ref a_t, .int zsg, .ref g1, .ref g2, .ref g3, .long zl1, .long zl2, .long zl3, .long zl4, .int zpb, .ref pa, .ref ru, .ref tx, .int (nI nT), .int 0, .int zrk, .int zrv, .int zre, .int zwr, .int zrm, .int zrs, .int zis, .int zss, .int zsc, .ref dk, .ref dv, .ref ek, .ref ev, .ref er, .ref es, .ref et])), (ak, .inl (g.2.1.1, 152, .inl fk)), (av, .inl (g.2.1.1, 152, .inl fv)), (bk, .inl (g.2.1.1, 24, .inl ck)), (bv, .inl (g.2.1.1, 24, .inl cv)), (br, .inl (g.2.1.1, 24, .inl cr)), (tx, .inl (g.2.1.2.1, 100, .inl tT))] H := hP
  have hD : va_D A [(h, .inr (9, [.int zth, .int (nI nA), .int (nI nB), .ref ak, .ref av, .ref bk, .ref bv, .ref br, .ref a_s, .ref a_t, .int zsg, .ref g1, .ref g2, .ref g3, .long zl1, .long zl2, .long zl3, .long zl4, .int zpb, .ref pa, .ref ru, .ref tx, .int (nI nT), .int 0, .int zrk, .int zrv, .int zre, .int zwr, .int zrm, .int zrs, .int zis, .int zss, .int zsc, .ref dk, .ref dv, .ref ek, .ref ev, .ref er, .ref es, .ref et])), (ak, .inl (g.2.1.1, 152, .inl fk)), (av, .inl (g.2.1.1, 152, .inl fv)), (bk, .inl (g.2.1.1, 24, .inl ck)), (bv, .inl (g.2.1.1, 24, .inl cv)), (br, .inl (g.2.1.1, 24, .inl cr)), (tx, .inl (g.2.1.2.1, 100, .inl tT))] := hD
  refine lv_aload_n hx hb dX7_readAll_5 rfl (lv_at hl 0 rfl) ?_
  refine lv_iconst (v := 0) hx hb dX7_readAll_6 (by decide) ?_
  refine va_put (D := g.1) (ci := 9) (v := .int 0) (ty := .boolean) (C := RX7) (T := TX7) (N := 40) hx hb hts (by decide +kernel) tyX7 tyX7_ok nmX7 hown hK hP hD hS 0 rfl rfl 27 (by decide) (hts (.fieldLink RX7 216 "LearnedIndexModel" "isWrong" "Z") (by decide +kernel)) (fun _ h9 => h9) rfl (by decide +kernel) rfl rfl (Nat.le_of_ble_eq_true rfl) dX7_readAll_7 (fun H locs hP hD hS => ?_)
  have hP : va_P g.1 vwCl [(h, .inr (9, [.int zth, .int (nI nA), .int (nI nB), .ref ak, .ref av, .ref bk, .ref bv, .ref br, .ref a_s, .ref a_t, .int zsg, .ref g1, .ref g2, .ref g3, .long zl1, .long zl2, .long zl3, .long zl4, .int zpb, .ref pa, .ref ru, .ref tx, .int (nI nT), .int 0, .int zrk, .int zrv, .int zre, .int 0, .int zrm, .int zrs, .int zis, .int zss, .int zsc, .ref dk, .ref dv, .ref ek, .ref ev, .ref er, .ref es, .ref et])), (ak, .inl (g.2.1.1, 152, .inl fk)), (av, .inl (g.2.1.1, 152, .inl fv)), (bk, .inl (g.2.1.1, 24, .inl ck)), (bv, .inl (g.2.1.1, 24, .inl cv)), (br, .inl (g.2.1.1, 24, .inl cr)), (tx, .inl (g.2.1.2.1, 100, .inl tT))] H := hP
  have hD : va_D A [(h, .inr (9, [.int zth, .int (nI nA), .int (nI nB), .ref ak, .ref av, .ref bk, .ref bv, .ref br, .ref a_s, .ref a_t, .int zsg, .ref g1, .ref g2, .ref g3, .long zl1, .long zl2, .long zl3, .long zl4, .int zpb, .ref pa, .ref ru, .ref tx, .int (nI nT), .int 0, .int zrk, .int zrv, .int zre, .int 0, .int zrm, .int zrs, .int zis, .int zss, .int zsc, .ref dk, .ref dv, .ref ek, .ref ev, .ref er, .ref es, .ref et])), (ak, .inl (g.2.1.1, 152, .inl fk)), (av, .inl (g.2.1.1, 152, .inl fv)), (bk, .inl (g.2.1.1, 24, .inl ck)), (bv, .inl (g.2.1.1, 24, .inl cv)), (br, .inl (g.2.1.1, 24, .inl cr)), (tx, .inl (g.2.1.2.1, 100, .inl tT))] := hD
  refine lv_aload_n hx hb dX7_readAll_10 rfl (lv_at hl 0 rfl) ?_
  refine lv_iconst (v := 0) hx hb dX7_readAll_11 (by decide) ?_
  refine va_put (D := g.1) (ci := 9) (v := .int 0) (ty := .int) (C := RX7) (T := TX7) (N := 40) hx hb hts (by decide +kernel) tyX7 tyX7_ok nmX7 hown hK hP hD hS 0 rfl rfl 26 (by decide) (hts (.fieldLink RX7 243 "LearnedIndexModel" "readEntries" "I") (by decide +kernel)) (fun _ h9 => h9) rfl (by decide +kernel) rfl rfl (Nat.le_of_ble_eq_true rfl) dX7_readAll_12 (fun H locs hP hD hS => ?_)
  have hP : va_P g.1 vwCl [(h, .inr (9, [.int zth, .int (nI nA), .int (nI nB), .ref ak, .ref av, .ref bk, .ref bv, .ref br, .ref a_s, .ref a_t, .int zsg, .ref g1, .ref g2, .ref g3, .long zl1, .long zl2, .long zl3, .long zl4, .int zpb, .ref pa, .ref ru, .ref tx, .int (nI nT), .int 0, .int zrk, .int zrv, .int 0, .int 0, .int zrm, .int zrs, .int zis, .int zss, .int zsc, .ref dk, .ref dv, .ref ek, .ref ev, .ref er, .ref es, .ref et])), (ak, .inl (g.2.1.1, 152, .inl fk)), (av, .inl (g.2.1.1, 152, .inl fv)), (bk, .inl (g.2.1.1, 24, .inl ck)), (bv, .inl (g.2.1.1, 24, .inl cv)), (br, .inl (g.2.1.1, 24, .inl cr)), (tx, .inl (g.2.1.2.1, 100, .inl tT))] H := hP
  have hD : va_D A [(h, .inr (9, [.int zth, .int (nI nA), .int (nI nB), .ref ak, .ref av, .ref bk, .ref bv, .ref br, .ref a_s, .ref a_t, .int zsg, .ref g1, .ref g2, .ref g3, .long zl1, .long zl2, .long zl3, .long zl4, .int zpb, .ref pa, .ref ru, .ref tx, .int (nI nT), .int 0, .int zrk, .int zrv, .int 0, .int 0, .int zrm, .int zrs, .int zis, .int zss, .int zsc, .ref dk, .ref dv, .ref ek, .ref ev, .ref er, .ref es, .ref et])), (ak, .inl (g.2.1.1, 152, .inl fk)), (av, .inl (g.2.1.1, 152, .inl fv)), (bk, .inl (g.2.1.1, 24, .inl ck)), (bv, .inl (g.2.1.1, 24, .inl cv)), (br, .inl (g.2.1.1, 24, .inl cr)), (tx, .inl (g.2.1.2.1, 100, .inl tT))] := hD
  refine lv_aload_n hx hb dX7_readAll_15 rfl (lv_at hl 0 rfl) ?_
  refine kcalli (wc := [(h, .inr (9, [.int zth, .int (nI nA), .int (nI nB), .ref ak, .ref av, .ref bk, .ref bv, .ref br, .ref a_s, .ref a_t, .int zsg, .ref g1, .ref g2, .ref g3, .long zl1, .long zl2, .long zl3, .long zl4, .int zpb, .ref pa, .ref ru, .ref tx, .int (nI nT), .int 0, .int zrk, .int zrv, .int 0, .int 0, .int zrm, .int zrs, .int zis, .int zss, .int zsc, .ref dk, .ref dv, .ref ek, .ref ev, .ref er, .ref es, .ref et])), (ak, .inl (g.2.1.1, 152, .inl fk)), (av, .inl (g.2.1.1, 152, .inl fv)), (bk, .inl (g.2.1.1, 24, .inl ck)), (bv, .inl (g.2.1.1, 24, .inl cv)), (br, .inl (g.2.1.1, 24, .inl cr))]) [0, 1, 2, 3, 4, 5] (va_runV (C := RX7) (As := []) (rest := []) ⟨hx, hb, hml, hown, hts⟩ ((c_X7_countEntries l g h zth zsg zl1 zl2 zl3 zl4 zpb (nI nT) 0 zrk zrv 0 0 zrm zrs zis zss zsc ak av bk bv br a_s a_t g1 g2 g3 pa ru tx dk dv ek ev er es et nA fk fv nB ck cv cr M C hMM) _) (cwV 0 hts gX7_readAll_X7_countEntries rfl rfl rfl (by decide +kernel) ⟨Nat.le_of_ble_eq_true rfl, Nat.le_of_ble_eq_true rfl⟩) (kpreV (wc := [(h, .inr (9, [.int zth, .int (nI nA), .int (nI nB), .ref ak, .ref av, .ref bk, .ref bv, .ref br, .ref a_s, .ref a_t, .int zsg, .ref g1, .ref g2, .ref g3, .long zl1, .long zl2, .long zl3, .long zl4, .int zpb, .ref pa, .ref ru, .ref tx, .int (nI nT), .int 0, .int zrk, .int zrv, .int 0, .int 0, .int zrm, .int zrs, .int zis, .int zss, .int zsc, .ref dk, .ref dv, .ref ek, .ref ev, .ref er, .ref es, .ref et])), (ak, .inl (g.2.1.1, 152, .inl fk)), (av, .inl (g.2.1.1, 152, .inl fv)), (bk, .inl (g.2.1.1, 24, .inl ck)), (bv, .inl (g.2.1.1, 24, .inl cv)), (br, .inl (g.2.1.1, 24, .inl cr))]) (ci := 9) hK hP hD hS hA hE [0, 1, 2, 3, 4, 5] rfl rfl rfl rfl) rfl rfl hl.1 rfl (lv_room (Nat.le_of_ble_eq_true rfl)) dX7_readAll_16 ⟨Nat.zero_le _, Nat.zero_le _⟩) hP hD hS hA rfl (fun r_1 w_1 H locs hp hP hD hS => ?_)
  obtain ⟨rfl, rfl⟩ := hp
  have hP : va_P g.1 vwCl [(h, .inr (9, [.int zth, .int (nI nA), .int (nI nB), .ref ak, .ref av, .ref bk, .ref bv, .ref br, .ref a_s, .ref a_t, .int zsg, .ref g1, .ref g2, .ref g3, .long zl1, .long zl2, .long zl3, .long zl4, .int zpb, .ref pa, .ref ru, .ref tx, .int (nI nT), .int 0, .int zrk, .int zrv, .int 0, .int 0, .int zrm, .int zrs, .int zis, .int zss, .int zsc, .ref dk, .ref dv, .ref ek, .ref ev, .ref er, .ref es, .ref et])), (ak, .inl (g.2.1.1, 152, .inl fk)), (av, .inl (g.2.1.1, 152, .inl fv)), (bk, .inl (g.2.1.1, 24, .inl ck)), (bv, .inl (g.2.1.1, 24, .inl cv)), (br, .inl (g.2.1.1, 24, .inl cr)), (tx, .inl (g.2.1.2.1, 100, .inl tT))] H := hP
  have hD : va_D A [(h, .inr (9, [.int zth, .int (nI nA), .int (nI nB), .ref ak, .ref av, .ref bk, .ref bv, .ref br, .ref a_s, .ref a_t, .int zsg, .ref g1, .ref g2, .ref g3, .long zl1, .long zl2, .long zl3, .long zl4, .int zpb, .ref pa, .ref ru, .ref tx, .int (nI nT), .int 0, .int zrk, .int zrv, .int 0, .int 0, .int zrm, .int zrs, .int zis, .int zss, .int zsc, .ref dk, .ref dv, .ref ek, .ref ev, .ref er, .ref es, .ref et])), (ak, .inl (g.2.1.1, 152, .inl fk)), (av, .inl (g.2.1.1, 152, .inl fv)), (bk, .inl (g.2.1.1, 24, .inl ck)), (bv, .inl (g.2.1.1, 24, .inl cv)), (br, .inl (g.2.1.1, 24, .inl cr)), (tx, .inl (g.2.1.2.1, 100, .inl tT))] := hD
  refine lv_istore_n (lv' := [(2, .int (nI (gat M C).length)), (0, .ref h), (1, .int 0)]) hx hb dX7_readAll_19 rfl hl (by decide) rfl (fun ls hl => ?_)
  refine lv_aload_n hx hb dX7_readAll_20 rfl (lv_at hl 1 rfl) ?_
  refine va_get (D := g.1) (ci := 9) (v := .int (nI nT)) (C := RX7) (T := TX7) (N := 40) hx hb hts (by decide +kernel) hown hK hP 0 rfl rfl 22 (by decide) (hts (.fieldLink RX7 213 "LearnedIndexModel" "length" "I") (by decide +kernel)) (fun _ h9 => h9) rfl dX7_readAll_21 ?_
  refine lv_if_le (tgt := 31) hx hb dX7_readAll_24 (by decide) (fun c_24 => ?_) (fun c_24 => ?_)
  · skip
    have hn0 : nT = 0 := by rw [show (0 : Int32) = nI 0 from rfl, nI_leI (by omega) (by decide)] at c_24; omega
    have hp0 : (pT tT nT).1 = true := by rw [hn0, pT, if_pos rfl]
    refine lv_iconst (v := 0) hx hb dX7_readAll_31 (by decide) ?_
    refine lv_istore_n (lv' := [(3, .int 0), (2, .int (nI (gat M C).length)), (0, .ref h), (1, .int 0)]) hx hb dX7_readAll_32 rfl hl (by decide) rfl (fun ls hl => ?_)
    have L33 : ∀ (n9 : Nat) (go : Nat) (j : Nat) (ne : Nat) (zw : Int32) (rk9 : Int32) (rv9 : Int32) (rm9 : Int32) (P : List kE3) (H : Heap) (locs : List Loc) (ls : Array Slot), ((go = 1 ∧ zw = 0 ∧ kAt tT nT ne j P) ∨ (go = 0 ∧ (((pT tT nT).1 = true ∧ zw = 0) ∨ ((pT tT nT).1 = false ∧ zw = 1 ∧ (pT tT nT).2.1 = j)))) → 2 * (nT - j) + go < n9 → va_P g.1 vwCl [(h, .inr (9, [.int zth, .int (nI nA), .int (nI nB), .ref ak, .ref av, .ref bk, .ref bv, .ref br, .ref a_s, .ref a_t, .int zsg, .ref g1, .ref g2, .ref g3, .long zl1, .long zl2, .long zl3, .long zl4, .int zpb, .ref pa, .ref ru, .ref tx, .int (nI nT), .int (nI j), .int rk9, .int rv9, .int (nI ne), .int zw, .int rm9, .int zrs, .int zis, .int zss, .int zsc, .ref dk, .ref dv, .ref ek, .ref ev, .ref er, .ref es, .ref et])), (ak, .inl (g.2.1.1, 152, .inl fk)), (av, .inl (g.2.1.1, 152, .inl fv)), (bk, .inl (g.2.1.1, 24, .inl ck)), (bv, .inl (g.2.1.1, 24, .inl cv)), (br, .inl (g.2.1.1, 24, .inl cr)), (tx, .inl (g.2.1.2.1, 100, .inl tT))] H → va_D A [(h, .inr (9, [.int zth, .int (nI nA), .int (nI nB), .ref ak, .ref av, .ref bk, .ref bv, .ref br, .ref a_s, .ref a_t, .int zsg, .ref g1, .ref g2, .ref g3, .long zl1, .long zl2, .long zl3, .long zl4, .int zpb, .ref pa, .ref ru, .ref tx, .int (nI nT), .int (nI j), .int rk9, .int rv9, .int (nI ne), .int zw, .int rm9, .int zrs, .int zis, .int zss, .int zsc, .ref dk, .ref dv, .ref ek, .ref ev, .ref er, .ref es, .ref et])), (ak, .inl (g.2.1.1, 152, .inl fk)), (av, .inl (g.2.1.1, 152, .inl fv)), (bk, .inl (g.2.1.1, 24, .inl ck)), (bv, .inl (g.2.1.1, 24, .inl cv)), (br, .inl (g.2.1.1, 24, .inl cr)), (tx, .inl (g.2.1.2.1, 100, .inl tT))] → va_S A s.heap H locs → lv_has ls 6 [(3, .int (nI go)), (2, .int (nI (gat M C).length)), (0, .ref h), (1, .int 0)] → W p l e rm_X7_readAll0 s m ([.ref h, .int 0] : List Value).toArray below meth cd H locs 0 0 (kQi g 7 A (p_X7_readAll0 g h zth zsg zl1 zl2 zl3 zl4 zpb zat zrk zrv zre zwr zrm zrs zis zss zsc ak av bk bv br a_s a_t g1 g2 g3 pa ru tx dk dv ek ev er es et nA fk fv nB ck cv cr nT tT M C) below ([.ref h, .int 0] : List Value).toArray s) (F0 m 33 ls []) := by
      intro n9
      induction n9 with
      | zero => intro go j ne zw rk9 rv9 rm9 P H locs ls hgo h9; exact absurd h9 (Nat.not_lt_zero _)
      | succ n9 ih33 =>
        intro go j ne zw rk9 rv9 rm9 P H locs ls hgo hn33 hP hD hS hl
        refine lv_iload_n hx hb dX7_readAll_33 rfl (lv_at hl 0 rfl) ?_
        refine lv_if_eq (tgt := 202) hx hb dX7_readAll_34 (by decide) (fun c_34 => ?_) (fun c_34 => ?_)
        · skip
          have hfin : ((pT tT nT).1 = true ∧ zw = 0) ∨ ((pT tT nT).1 = false ∧ zw = 1 ∧ (pT tT nT).2.1 = j) := hgo.elim (fun z => absurd c_34 (by rw [z.1]; decide)) (fun z => z.2)
          refine lv_iconst (v := 1) hx hb dX7_readAll_202 (by decide) ?_
          exact kretz hx hb hRt hlk hK hP hD hS rfl dX7_readAll_203 (by decide) (⟨_, _, _, _, _, _, rfl, hfin, rfl⟩)
        · skip
          obtain ⟨hg1, hz0, hka⟩ := (hgo.elim id (fun z => absurd (by rw [z.1]; rfl) c_34))
          rw [hz0] at hP hD
          have hP : va_P g.1 vwCl [(h, .inr (9, [.int zth, .int (nI nA), .int (nI nB), .ref ak, .ref av, .ref bk, .ref bv, .ref br, .ref a_s, .ref a_t, .int zsg, .ref g1, .ref g2, .ref g3, .long zl1, .long zl2, .long zl3, .long zl4, .int zpb, .ref pa, .ref ru, .ref tx, .int (nI nT), .int (nI j), .int rk9, .int rv9, .int (nI ne), .int 0, .int rm9, .int zrs, .int zis, .int zss, .int zsc, .ref dk, .ref dv, .ref ek, .ref ev, .ref er, .ref es, .ref et])), (ak, .inl (g.2.1.1, 152, .inl fk)), (av, .inl (g.2.1.1, 152, .inl fv)), (bk, .inl (g.2.1.1, 24, .inl ck)), (bv, .inl (g.2.1.1, 24, .inl cv)), (br, .inl (g.2.1.1, 24, .inl cr)), (tx, .inl (g.2.1.2.1, 100, .inl tT))] H := hP
          have hD : va_D A [(h, .inr (9, [.int zth, .int (nI nA), .int (nI nB), .ref ak, .ref av, .ref bk, .ref bv, .ref br, .ref a_s, .ref a_t, .int zsg, .ref g1, .ref g2, .ref g3, .long zl1, .long zl2, .long zl3, .long zl4, .int zpb, .ref pa, .ref ru, .ref tx, .int (nI nT), .int (nI j), .int rk9, .int rv9, .int (nI ne), .int 0, .int rm9, .int zrs, .int zis, .int zss, .int zsc, .ref dk, .ref dv, .ref ek, .ref ev, .ref er, .ref es, .ref et])), (ak, .inl (g.2.1.1, 152, .inl fk)), (av, .inl (g.2.1.1, 152, .inl fv)), (bk, .inl (g.2.1.1, 24, .inl ck)), (bv, .inl (g.2.1.1, 24, .inl cv)), (br, .inl (g.2.1.1, 24, .inl cr)), (tx, .inl (g.2.1.2.1, 100, .inl tT))] := hD
          refine lv_aload_n hx hb dX7_readAll_37 rfl (lv_at hl 2 rfl) ?_
          refine va_get (D := g.1) (ci := 9) (v := .int (nI j)) (C := RX7) (T := TX7) (N := 40) hx hb hts (by decide +kernel) hown hK hP 0 rfl rfl 23 (by decide) (hts (.fieldLink RX7 220 "LearnedIndexModel" "at" "I") (by decide +kernel)) (fun _ h9 => h9) rfl dX7_readAll_38 ?_
          refine lv_istore (lv' := [(4, .int (nI j)), (3, .int (nI go)), (2, .int (nI (gat M C).length)), (0, .ref h), (1, .int 0)]) hx hb dX7_readAll_41 hl (by decide) rfl (fun ls hl => ?_)
          refine lv_aload_n hx hb dX7_readAll_43 rfl (lv_at hl 3 rfl) ?_
          refine kcallv (wc := [(h, .inr (9, [.int zth, .int (nI nA), .int (nI nB), .ref ak, .ref av, .ref bk, .ref bv, .ref br, .ref a_s, .ref a_t, .int zsg, .ref g1, .ref g2, .ref g3, .long zl1, .long zl2, .long zl3, .long zl4, .int zpb, .ref pa, .ref ru, .ref tx, .int (nI nT), .int (nI j), .int rk9, .int rv9, .int (nI ne), .int 0, .int rm9, .int zrs, .int zis, .int zss, .int zsc, .ref dk, .ref dv, .ref ek, .ref ev, .ref er, .ref es, .ref et])), (tx, .inl (g.2.1.2.1, 100, .inl tT))]) [0, 6] (va_runV (C := RX7) (As := []) (rest := []) ⟨hx, hb, hml, hown, hts⟩ ((c_X7_readEntry l g h zth (nI nA) (nI nB) zsg zl1 zl2 zl3 zl4 zpb rk9 rv9 (nI ne) rm9 zrs zis zss zsc ak av bk bv br a_s a_t g1 g2 g3 pa ru tx dk dv ek ev er es et nT j tT hn hka.2.1.2) _) (cwV 0 hts gX7_readAll_X7_readEntry rfl rfl rfl (by decide +kernel) ⟨Nat.le_of_ble_eq_true rfl, Nat.le_of_ble_eq_true rfl⟩) (kpreV (wc := [(h, .inr (9, [.int zth, .int (nI nA), .int (nI nB), .ref ak, .ref av, .ref bk, .ref bv, .ref br, .ref a_s, .ref a_t, .int zsg, .ref g1, .ref g2, .ref g3, .long zl1, .long zl2, .long zl3, .long zl4, .int zpb, .ref pa, .ref ru, .ref tx, .int (nI nT), .int (nI j), .int rk9, .int rv9, .int (nI ne), .int 0, .int rm9, .int zrs, .int zis, .int zss, .int zsc, .ref dk, .ref dv, .ref ek, .ref ev, .ref er, .ref es, .ref et])), (tx, .inl (g.2.1.2.1, 100, .inl tT))]) (ci := 9) hK hP hD hS hA hE [0, 6] rfl rfl rfl rfl) rfl rfl hl.1 rfl (lv_room (Nat.le_of_ble_eq_true rfl)) dX7_readAll_44 ⟨Nat.zero_le _, Nat.zero_le _⟩) hP hD hS hA rfl (fun w_2 H locs hp hP hD hS => ?_)
          obtain ⟨j2, rk2, rv2, rm2, zw2, hEn, rfl⟩ := hp
          have hP : va_P g.1 vwCl [(h, .inr (9, [.int zth, .int (nI nA), .int (nI nB), .ref ak, .ref av, .ref bk, .ref bv, .ref br, .ref a_s, .ref a_t, .int zsg, .ref g1, .ref g2, .ref g3, .long zl1, .long zl2, .long zl3, .long zl4, .int zpb, .ref pa, .ref ru, .ref tx, .int (nI nT), .int (nI j2), .int rk2, .int rv2, .int (nI ne), .int zw2, .int rm2, .int zrs, .int zis, .int zss, .int zsc, .ref dk, .ref dv, .ref ek, .ref ev, .ref er, .ref es, .ref et])), (ak, .inl (g.2.1.1, 152, .inl fk)), (av, .inl (g.2.1.1, 152, .inl fv)), (bk, .inl (g.2.1.1, 24, .inl ck)), (bv, .inl (g.2.1.1, 24, .inl cv)), (br, .inl (g.2.1.1, 24, .inl cr)), (tx, .inl (g.2.1.2.1, 100, .inl tT))] H := hP
          have hD : va_D A [(h, .inr (9, [.int zth, .int (nI nA), .int (nI nB), .ref ak, .ref av, .ref bk, .ref bv, .ref br, .ref a_s, .ref a_t, .int zsg, .ref g1, .ref g2, .ref g3, .long zl1, .long zl2, .long zl3, .long zl4, .int zpb, .ref pa, .ref ru, .ref tx, .int (nI nT), .int (nI j2), .int rk2, .int rv2, .int (nI ne), .int zw2, .int rm2, .int zrs, .int zis, .int zss, .int zsc, .ref dk, .ref dv, .ref ek, .ref ev, .ref er, .ref es, .ref et])), (ak, .inl (g.2.1.1, 152, .inl fk)), (av, .inl (g.2.1.1, 152, .inl fv)), (bk, .inl (g.2.1.1, 24, .inl ck)), (bv, .inl (g.2.1.1, 24, .inl cv)), (br, .inl (g.2.1.1, 24, .inl cr)), (tx, .inl (g.2.1.2.1, 100, .inl tT))] := hD
          by_cases fe : (rE tT nT j).2.isSome = true
          · skip
            obtain ⟨e9, hr9, hz9, hk9, hm9, hv9⟩ : ∃ e : kE3, rE tT nT j = (j2, some e) ∧ zw2 = 0 ∧ rk2 = e.1 ∧ rm2 = e.2.2 ∧ (e.2.2 = 0 → rv2 = e.2.1) := hEn.elim (fun z => by exfalso; rw [z.1] at fe; exact Bool.false_ne_true fe) id
            have hjl := kAt_jl hka hr9
            rw [hz9, hk9, hm9] at hP hD
            have hP : va_P g.1 vwCl [(h, .inr (9, [.int zth, .int (nI nA), .int (nI nB), .ref ak, .ref av, .ref bk, .ref bv, .ref br, .ref a_s, .ref a_t, .int zsg, .ref g1, .ref g2, .ref g3, .long zl1, .long zl2, .long zl3, .long zl4, .int zpb, .ref pa, .ref ru, .ref tx, .int (nI nT), .int (nI j2), .int e9.1, .int rv2, .int (nI ne), .int 0, .int e9.2.2, .int zrs, .int zis, .int zss, .int zsc, .ref dk, .ref dv, .ref ek, .ref ev, .ref er, .ref es, .ref et])), (ak, .inl (g.2.1.1, 152, .inl fk)), (av, .inl (g.2.1.1, 152, .inl fv)), (bk, .inl (g.2.1.1, 24, .inl ck)), (bv, .inl (g.2.1.1, 24, .inl cv)), (br, .inl (g.2.1.1, 24, .inl cr)), (tx, .inl (g.2.1.2.1, 100, .inl tT))] H := hP
            have hD : va_D A [(h, .inr (9, [.int zth, .int (nI nA), .int (nI nB), .ref ak, .ref av, .ref bk, .ref bv, .ref br, .ref a_s, .ref a_t, .int zsg, .ref g1, .ref g2, .ref g3, .long zl1, .long zl2, .long zl3, .long zl4, .int zpb, .ref pa, .ref ru, .ref tx, .int (nI nT), .int (nI j2), .int e9.1, .int rv2, .int (nI ne), .int 0, .int e9.2.2, .int zrs, .int zis, .int zss, .int zsc, .ref dk, .ref dv, .ref ek, .ref ev, .ref er, .ref es, .ref et])), (ak, .inl (g.2.1.1, 152, .inl fk)), (av, .inl (g.2.1.1, 152, .inl fv)), (bk, .inl (g.2.1.1, 24, .inl ck)), (bv, .inl (g.2.1.1, 24, .inl cv)), (br, .inl (g.2.1.1, 24, .inl cr)), (tx, .inl (g.2.1.2.1, 100, .inl tT))] := hD
            refine lv_aload_n hx hb dX7_readAll_47 rfl (lv_at hl 3 rfl) ?_
            refine lv_dup hx hb dX7_readAll_48 rfl ?_
            refine va_get (D := g.1) (ci := 9) (v := .int (nI ne)) (C := RX7) (T := TX7) (N := 40) hx hb hts (by decide +kernel) hown hK hP 0 rfl rfl 26 (by decide) (hts (.fieldLink RX7 243 "LearnedIndexModel" "readEntries" "I") (by decide +kernel)) (fun _ h9 => h9) rfl dX7_readAll_49 ?_
            refine lv_iconst (v := 1) hx hb dX7_readAll_52 (by decide) ?_
            refine lv_iadd hx hb dX7_readAll_53 ?_
            rw [show (nI ne) + 1 = nI (ne + 1) from nI_1 ne]
            refine va_put (D := g.1) (ci := 9) (v := .int (nI (ne + 1))) (ty := .int) (C := RX7) (T := TX7) (N := 40) hx hb hts (by decide +kernel) tyX7 tyX7_ok nmX7 hown hK hP hD hS 0 rfl rfl 26 (by decide) (hts (.fieldLink RX7 243 "LearnedIndexModel" "readEntries" "I") (by decide +kernel)) (fun _ h9 => h9) rfl (by decide +kernel) rfl rfl (Nat.le_of_ble_eq_true rfl) dX7_readAll_54 (fun H locs hP hD hS => ?_)
            have hP : va_P g.1 vwCl [(h, .inr (9, [.int zth, .int (nI nA), .int (nI nB), .ref ak, .ref av, .ref bk, .ref bv, .ref br, .ref a_s, .ref a_t, .int zsg, .ref g1, .ref g2, .ref g3, .long zl1, .long zl2, .long zl3, .long zl4, .int zpb, .ref pa, .ref ru, .ref tx, .int (nI nT), .int (nI j2), .int e9.1, .int rv2, .int (nI (ne + 1)), .int 0, .int e9.2.2, .int zrs, .int zis, .int zss, .int zsc, .ref dk, .ref dv, .ref ek, .ref ev, .ref er, .ref es, .ref et])), (ak, .inl (g.2.1.1, 152, .inl fk)), (av, .inl (g.2.1.1, 152, .inl fv)), (bk, .inl (g.2.1.1, 24, .inl ck)), (bv, .inl (g.2.1.1, 24, .inl cv)), (br, .inl (g.2.1.1, 24, .inl cr)), (tx, .inl (g.2.1.2.1, 100, .inl tT))] H := hP
            have hD : va_D A [(h, .inr (9, [.int zth, .int (nI nA), .int (nI nB), .ref ak, .ref av, .ref bk, .ref bv, .ref br, .ref a_s, .ref a_t, .int zsg, .ref g1, .ref g2, .ref g3, .long zl1, .long zl2, .long zl3, .long zl4, .int zpb, .ref pa, .ref ru, .ref tx, .int (nI nT), .int (nI j2), .int e9.1, .int rv2, .int (nI (ne + 1)), .int 0, .int e9.2.2, .int zrs, .int zis, .int zss, .int zsc, .ref dk, .ref dv, .ref ek, .ref ev, .ref er, .ref es, .ref et])), (ak, .inl (g.2.1.1, 152, .inl fk)), (av, .inl (g.2.1.1, 152, .inl fv)), (bk, .inl (g.2.1.1, 24, .inl ck)), (bv, .inl (g.2.1.1, 24, .inl cv)), (br, .inl (g.2.1.1, 24, .inl cr)), (tx, .inl (g.2.1.2.1, 100, .inl tT))] := hD
            refine lv_iload_n hx hb dX7_readAll_57 rfl (lv_at hl 4 rfl) ?_
            refine lv_iconst (v := 1) hx hb dX7_readAll_58 (by decide) ?_
            refine lv_icmp_ne (tgt := 124) hx hb dX7_readAll_59 (by decide) (fun c_59 => ?_) (fun c_59 => absurd c_59 (by decide))
            refine lv_iload_n hx hb dX7_readAll_124 rfl (lv_at hl 4 rfl) ?_
            refine lv_iconst (v := 2) hx hb dX7_readAll_125 (by decide) ?_
            refine lv_icmp_ne (tgt := 133) hx hb dX7_readAll_126 (by decide) (fun c_126 => ?_) (fun c_126 => absurd c_126 (by decide))
            refine lv_aload_n hx hb dX7_readAll_133 rfl (lv_at hl 3 rfl) ?_
            refine va_get (D := g.1) (ci := 9) (v := .int 0) (C := RX7) (T := TX7) (N := 40) hx hb hts (by decide +kernel) hown hK hP 0 rfl rfl 27 (by decide) (hts (.fieldLink RX7 216 "LearnedIndexModel" "isWrong" "Z") (by decide +kernel)) (fun _ h9 => h9) rfl dX7_readAll_134 ?_
            refine lv_if_ne (tgt := 155) hx hb dX7_readAll_137 (by decide) (fun c_137 => absurd c_137 (fun z => z rfl)) (fun c_137 => ?_)
            refine lv_aload_n hx hb dX7_readAll_140 rfl (lv_at hl 3 rfl) ?_
            refine va_get (D := g.1) (ci := 9) (v := .int (nI j2)) (C := RX7) (T := TX7) (N := 40) hx hb hts (by decide +kernel) hown hK hP 0 rfl rfl 23 (by decide) (hts (.fieldLink RX7 220 "LearnedIndexModel" "at" "I") (by decide +kernel)) (fun _ h9 => h9) rfl dX7_readAll_141 ?_
            refine lv_aload_n hx hb dX7_readAll_144 rfl (lv_at hl 3 rfl) ?_
            refine va_get (D := g.1) (ci := 9) (v := .int (nI nT)) (C := RX7) (T := TX7) (N := 40) hx hb hts (by decide +kernel) hown hK hP 0 rfl rfl 22 (by decide) (hts (.fieldLink RX7 213 "LearnedIndexModel" "length" "I") (by decide +kernel)) (fun _ h9 => h9) rfl dX7_readAll_145 ?_
            refine lv_icmp_ge (tgt := 155) hx hb dX7_readAll_148 (by decide) (fun c_148 => ?_) (fun c_148 => ?_)
            · skip
              have hje : nT ≤ j2 := kg (by omega) (by omega) c_148
              refine lv_iconst (v := 0) hx hb dX7_readAll_155 (by decide) ?_
              refine lv_istore_n (lv' := [(3, .int 0), (4, .int (nI j)), (2, .int (nI (gat M C).length)), (0, .ref h), (1, .int 0)]) hx hb dX7_readAll_156 rfl hl (by decide) rfl (fun ls hl => ?_)
              refine lv_aload_n hx hb dX7_readAll_157 rfl (lv_at hl 3 rfl) ?_
              refine lv_dup hx hb dX7_readAll_158 rfl ?_
              refine va_get (D := g.1) (ci := 9) (v := .int 0) (C := RX7) (T := TX7) (N := 40) hx hb hts (by decide +kernel) hown hK hP 0 rfl rfl 27 (by decide) (hts (.fieldLink RX7 216 "LearnedIndexModel" "isWrong" "Z") (by decide +kernel)) (fun _ h9 => h9) rfl dX7_readAll_159 ?_
              refine lv_iload_n hx hb dX7_readAll_162 rfl (lv_at hl 0 rfl) ?_
              refine lv_if_eq (tgt := 179) hx hb dX7_readAll_163 (by decide) (fun c_163 => ?_) (fun c_163 => absurd (by decide) c_163)
              refine lv_iconst (v := 0) hx hb dX7_readAll_179 (by decide) ?_
              refine lv_ior hx hb dX7_readAll_180 ?_
              rw [show (0 ||| 0 : Int32) = 0 from by decide]
              refine va_put (D := g.1) (ci := 9) (v := .int 0) (ty := .boolean) (C := RX7) (T := TX7) (N := 40) hx hb hts (by decide +kernel) tyX7 tyX7_ok nmX7 hown hK hP hD hS 0 rfl rfl 27 (by decide) (hts (.fieldLink RX7 216 "LearnedIndexModel" "isWrong" "Z") (by decide +kernel)) (fun _ h9 => h9) rfl (by decide +kernel) rfl rfl (Nat.le_of_ble_eq_true rfl) dX7_readAll_181 (fun H locs hP hD hS => ?_)
              have hP : va_P g.1 vwCl [(h, .inr (9, [.int zth, .int (nI nA), .int (nI nB), .ref ak, .ref av, .ref bk, .ref bv, .ref br, .ref a_s, .ref a_t, .int zsg, .ref g1, .ref g2, .ref g3, .long zl1, .long zl2, .long zl3, .long zl4, .int zpb, .ref pa, .ref ru, .ref tx, .int (nI nT), .int (nI j2), .int e9.1, .int rv2, .int (nI (ne + 1)), .int 0, .int e9.2.2, .int zrs, .int zis, .int zss, .int zsc, .ref dk, .ref dv, .ref ek, .ref ev, .ref er, .ref es, .ref et])), (ak, .inl (g.2.1.1, 152, .inl fk)), (av, .inl (g.2.1.1, 152, .inl fv)), (bk, .inl (g.2.1.1, 24, .inl ck)), (bv, .inl (g.2.1.1, 24, .inl cv)), (br, .inl (g.2.1.1, 24, .inl cr)), (tx, .inl (g.2.1.2.1, 100, .inl tT))] H := hP
              have hD : va_D A [(h, .inr (9, [.int zth, .int (nI nA), .int (nI nB), .ref ak, .ref av, .ref bk, .ref bv, .ref br, .ref a_s, .ref a_t, .int zsg, .ref g1, .ref g2, .ref g3, .long zl1, .long zl2, .long zl3, .long zl4, .int zpb, .ref pa, .ref ru, .ref tx, .int (nI nT), .int (nI j2), .int e9.1, .int rv2, .int (nI (ne + 1)), .int 0, .int e9.2.2, .int zrs, .int zis, .int zss, .int zsc, .ref dk, .ref dv, .ref ek, .ref ev, .ref er, .ref es, .ref et])), (ak, .inl (g.2.1.1, 152, .inl fk)), (av, .inl (g.2.1.1, 152, .inl fv)), (bk, .inl (g.2.1.1, 24, .inl ck)), (bv, .inl (g.2.1.1, 24, .inl cv)), (br, .inl (g.2.1.1, 24, .inl cr)), (tx, .inl (g.2.1.2.1, 100, .inl tT))] := hD
              refine lv_iload_n hx hb dX7_readAll_184 rfl (lv_at hl 0 rfl) ?_
              refine lv_aload_n hx hb dX7_readAll_185 rfl (lv_at hl 3 rfl) ?_
              refine va_get (D := g.1) (ci := 9) (v := .int 0) (C := RX7) (T := TX7) (N := 40) hx hb hts (by decide +kernel) hown hK hP 0 rfl rfl 27 (by decide) (hts (.fieldLink RX7 216 "LearnedIndexModel" "isWrong" "Z") (by decide +kernel)) (fun _ h9 => h9) rfl dX7_readAll_186 ?_
              refine lv_if_ne (tgt := 196) hx hb dX7_readAll_189 (by decide) (fun c_189 => absurd c_189 (fun z => z rfl)) (fun c_189 => ?_)
              refine lv_iconst (v := 1) hx hb dX7_readAll_192 (by decide) ?_
              refine lv_goto (tgt := 197) hx hb dX7_readAll_193 (by decide) ?_
              refine lv_iand hx hb dX7_readAll_197 ?_
              rw [show (0 &&& 1 : Int32) = 0 from by decide]
              refine lv_istore_n (lv' := [(3, .int 0), (4, .int (nI j)), (2, .int (nI (gat M C).length)), (0, .ref h), (1, .int 0)]) hx hb dX7_readAll_198 rfl hl (by decide) rfl (fun ls hl => ?_)
              refine lv_goto (tgt := 33) hx hb dX7_readAll_199 (by decide) ?_
              exact ih33 0 j2 (ne + 1) 0 e9.1 rv2 e9.2.2 P _ _ ls (Or.inr ⟨rfl, Or.inl ⟨by rw [kAt_e hka hr9 hje], rfl⟩⟩) (by omega) hP hD hS (lv_sub hl [0, 2, 3, 4] rfl)
            · skip
              have hje : j2 < nT := kl (by omega) (by omega) c_148
              refine lv_iconst (v := 1) hx hb dX7_readAll_151 (by decide) ?_
              refine lv_goto (tgt := 156) hx hb dX7_readAll_152 (by decide) ?_
              refine lv_istore_n (lv' := [(3, .int 1), (4, .int (nI j)), (2, .int (nI (gat M C).length)), (0, .ref h), (1, .int 0)]) hx hb dX7_readAll_156 rfl hl (by decide) rfl (fun ls hl => ?_)
              refine lv_aload_n hx hb dX7_readAll_157 rfl (lv_at hl 3 rfl) ?_
              refine lv_dup hx hb dX7_readAll_158 rfl ?_
              refine va_get (D := g.1) (ci := 9) (v := .int 0) (C := RX7) (T := TX7) (N := 40) hx hb hts (by decide +kernel) hown hK hP 0 rfl rfl 27 (by decide) (hts (.fieldLink RX7 216 "LearnedIndexModel" "isWrong" "Z") (by decide +kernel)) (fun _ h9 => h9) rfl dX7_readAll_159 ?_
              refine lv_iload_n hx hb dX7_readAll_162 rfl (lv_at hl 0 rfl) ?_
              refine lv_if_eq (tgt := 179) hx hb dX7_readAll_163 (by decide) (fun c_163 => absurd c_163 (by decide)) (fun c_163 => ?_)
              refine lv_aload_n hx hb dX7_readAll_166 rfl (lv_at hl 3 rfl) ?_
              refine lv_bipush (v := 59) hx hb dX7_readAll_167 (by decide) ?_
              refine kcalli (wc := [(h, .inr (9, [.int zth, .int (nI nA), .int (nI nB), .ref ak, .ref av, .ref bk, .ref bv, .ref br, .ref a_s, .ref a_t, .int zsg, .ref g1, .ref g2, .ref g3, .long zl1, .long zl2, .long zl3, .long zl4, .int zpb, .ref pa, .ref ru, .ref tx, .int (nI nT), .int (nI j2), .int e9.1, .int rv2, .int (nI (ne + 1)), .int 0, .int e9.2.2, .int zrs, .int zis, .int zss, .int zsc, .ref dk, .ref dv, .ref ek, .ref ev, .ref er, .ref es, .ref et])), (tx, .inl (g.2.1.2.1, 100, .inl tT))]) [0, 6] (va_runV (C := RX7) (As := [.int 59]) (rest := [.int 0, .ref h]) ⟨hx, hb, hml, hown, hts⟩ ((c_X7_passes0 l g h zth (nI nA) (nI nB) zsg zl1 zl2 zl3 zl4 zpb e9.1 rv2 (nI (ne + 1)) e9.2.2 zrs zis zss zsc ak av bk bv br a_s a_t g1 g2 g3 pa ru tx dk dv ek ev er es et nT j2 tT 59 hn hjl.2 (by decide)) _) (cwV 1 hts gX7_readAll_X7_passes rfl rfl rfl (by decide +kernel) ⟨Nat.le_of_ble_eq_true rfl, Nat.le_of_ble_eq_true rfl⟩) (kpreV (wc := [(h, .inr (9, [.int zth, .int (nI nA), .int (nI nB), .ref ak, .ref av, .ref bk, .ref bv, .ref br, .ref a_s, .ref a_t, .int zsg, .ref g1, .ref g2, .ref g3, .long zl1, .long zl2, .long zl3, .long zl4, .int zpb, .ref pa, .ref ru, .ref tx, .int (nI nT), .int (nI j2), .int e9.1, .int rv2, .int (nI (ne + 1)), .int 0, .int e9.2.2, .int zrs, .int zis, .int zss, .int zsc, .ref dk, .ref dv, .ref ek, .ref ev, .ref er, .ref es, .ref et])), (tx, .inl (g.2.1.2.1, 100, .inl tT))]) (ci := 9) hK hP hD hS hA hE [0, 6] rfl rfl rfl rfl) rfl rfl hl.1 rfl (lv_room (Nat.le_of_ble_eq_true rfl)) dX7_readAll_169 ⟨Nat.zero_le _, Nat.zero_le _⟩) hP hD hS hA rfl (fun r_3 w_3 H locs hp hP hD hS => ?_)
              obtain ⟨rfl, rfl⟩ := hp
              have hP : va_P g.1 vwCl [(h, .inr (9, [.int zth, .int (nI nA), .int (nI nB), .ref ak, .ref av, .ref bk, .ref bv, .ref br, .ref a_s, .ref a_t, .int zsg, .ref g1, .ref g2, .ref g3, .long zl1, .long zl2, .long zl3, .long zl4, .int zpb, .ref pa, .ref ru, .ref tx, .int (nI nT), .int (nI (if ch tT nT j2 = 59 then j2 + 1 else j2)), .int e9.1, .int rv2, .int (nI (ne + 1)), .int 0, .int e9.2.2, .int zrs, .int zis, .int zss, .int zsc, .ref dk, .ref dv, .ref ek, .ref ev, .ref er, .ref es, .ref et])), (ak, .inl (g.2.1.1, 152, .inl fk)), (av, .inl (g.2.1.1, 152, .inl fv)), (bk, .inl (g.2.1.1, 24, .inl ck)), (bv, .inl (g.2.1.1, 24, .inl cv)), (br, .inl (g.2.1.1, 24, .inl cr)), (tx, .inl (g.2.1.2.1, 100, .inl tT))] H := hP
              have hD : va_D A [(h, .inr (9, [.int zth, .int (nI nA), .int (nI nB), .ref ak, .ref av, .ref bk, .ref bv, .ref br, .ref a_s, .ref a_t, .int zsg, .ref g1, .ref g2, .ref g3, .long zl1, .long zl2, .long zl3, .long zl4, .int zpb, .ref pa, .ref ru, .ref tx, .int (nI nT), .int (nI (if ch tT nT j2 = 59 then j2 + 1 else j2)), .int e9.1, .int rv2, .int (nI (ne + 1)), .int 0, .int e9.2.2, .int zrs, .int zis, .int zss, .int zsc, .ref dk, .ref dv, .ref ek, .ref ev, .ref er, .ref es, .ref et])), (ak, .inl (g.2.1.1, 152, .inl fk)), (av, .inl (g.2.1.1, 152, .inl fv)), (bk, .inl (g.2.1.1, 24, .inl ck)), (bv, .inl (g.2.1.1, 24, .inl cv)), (br, .inl (g.2.1.1, 24, .inl cr)), (tx, .inl (g.2.1.2.1, 100, .inl tT))] := hD
              by_cases f9 : ch tT nT j2 = 59
              · skip
                rw [if_pos f9] at hP hD
                have hP : va_P g.1 vwCl [(h, .inr (9, [.int zth, .int (nI nA), .int (nI nB), .ref ak, .ref av, .ref bk, .ref bv, .ref br, .ref a_s, .ref a_t, .int zsg, .ref g1, .ref g2, .ref g3, .long zl1, .long zl2, .long zl3, .long zl4, .int zpb, .ref pa, .ref ru, .ref tx, .int (nI nT), .int (nI (j2 + 1)), .int e9.1, .int rv2, .int (nI (ne + 1)), .int 0, .int e9.2.2, .int zrs, .int zis, .int zss, .int zsc, .ref dk, .ref dv, .ref ek, .ref ev, .ref er, .ref es, .ref et])), (ak, .inl (g.2.1.1, 152, .inl fk)), (av, .inl (g.2.1.1, 152, .inl fv)), (bk, .inl (g.2.1.1, 24, .inl ck)), (bv, .inl (g.2.1.1, 24, .inl cv)), (br, .inl (g.2.1.1, 24, .inl cr)), (tx, .inl (g.2.1.2.1, 100, .inl tT))] H := hP
                have hD : va_D A [(h, .inr (9, [.int zth, .int (nI nA), .int (nI nB), .ref ak, .ref av, .ref bk, .ref bv, .ref br, .ref a_s, .ref a_t, .int zsg, .ref g1, .ref g2, .ref g3, .long zl1, .long zl2, .long zl3, .long zl4, .int zpb, .ref pa, .ref ru, .ref tx, .int (nI nT), .int (nI (j2 + 1)), .int e9.1, .int rv2, .int (nI (ne + 1)), .int 0, .int e9.2.2, .int zrs, .int zis, .int zss, .int zsc, .ref dk, .ref dv, .ref ek, .ref ev, .ref er, .ref es, .ref et])), (ak, .inl (g.2.1.1, 152, .inl fk)), (av, .inl (g.2.1.1, 152, .inl fv)), (bk, .inl (g.2.1.1, 24, .inl ck)), (bv, .inl (g.2.1.1, 24, .inl cv)), (br, .inl (g.2.1.1, 24, .inl cr)), (tx, .inl (g.2.1.2.1, 100, .inl tT))] := hD
                rw [show (kbool (decide (ch tT nT j2 = 59)) : Int32) = 1 from by rw [decide_eq_true f9]; rfl]
                refine lv_if_ne (tgt := 179) hx hb dX7_readAll_172 (by decide) (fun c_172 => ?_) (fun c_172 => absurd c_172 (by decide))
                refine lv_iconst (v := 0) hx hb dX7_readAll_179 (by decide) ?_
                refine lv_ior hx hb dX7_readAll_180 ?_
                rw [show (0 ||| 0 : Int32) = 0 from by decide]
                refine va_put (D := g.1) (ci := 9) (v := .int 0) (ty := .boolean) (C := RX7) (T := TX7) (N := 40) hx hb hts (by decide +kernel) tyX7 tyX7_ok nmX7 hown hK hP hD hS 0 rfl rfl 27 (by decide) (hts (.fieldLink RX7 216 "LearnedIndexModel" "isWrong" "Z") (by decide +kernel)) (fun _ h9 => h9) rfl (by decide +kernel) rfl rfl (Nat.le_of_ble_eq_true rfl) dX7_readAll_181 (fun H locs hP hD hS => ?_)
                have hP : va_P g.1 vwCl [(h, .inr (9, [.int zth, .int (nI nA), .int (nI nB), .ref ak, .ref av, .ref bk, .ref bv, .ref br, .ref a_s, .ref a_t, .int zsg, .ref g1, .ref g2, .ref g3, .long zl1, .long zl2, .long zl3, .long zl4, .int zpb, .ref pa, .ref ru, .ref tx, .int (nI nT), .int (nI (j2 + 1)), .int e9.1, .int rv2, .int (nI (ne + 1)), .int 0, .int e9.2.2, .int zrs, .int zis, .int zss, .int zsc, .ref dk, .ref dv, .ref ek, .ref ev, .ref er, .ref es, .ref et])), (ak, .inl (g.2.1.1, 152, .inl fk)), (av, .inl (g.2.1.1, 152, .inl fv)), (bk, .inl (g.2.1.1, 24, .inl ck)), (bv, .inl (g.2.1.1, 24, .inl cv)), (br, .inl (g.2.1.1, 24, .inl cr)), (tx, .inl (g.2.1.2.1, 100, .inl tT))] H := hP
                have hD : va_D A [(h, .inr (9, [.int zth, .int (nI nA), .int (nI nB), .ref ak, .ref av, .ref bk, .ref bv, .ref br, .ref a_s, .ref a_t, .int zsg, .ref g1, .ref g2, .ref g3, .long zl1, .long zl2, .long zl3, .long zl4, .int zpb, .ref pa, .ref ru, .ref tx, .int (nI nT), .int (nI (j2 + 1)), .int e9.1, .int rv2, .int (nI (ne + 1)), .int 0, .int e9.2.2, .int zrs, .int zis, .int zss, .int zsc, .ref dk, .ref dv, .ref ek, .ref ev, .ref er, .ref es, .ref et])), (ak, .inl (g.2.1.1, 152, .inl fk)), (av, .inl (g.2.1.1, 152, .inl fv)), (bk, .inl (g.2.1.1, 24, .inl ck)), (bv, .inl (g.2.1.1, 24, .inl cv)), (br, .inl (g.2.1.1, 24, .inl cr)), (tx, .inl (g.2.1.2.1, 100, .inl tT))] := hD
                refine lv_iload_n hx hb dX7_readAll_184 rfl (lv_at hl 0 rfl) ?_
                refine lv_aload_n hx hb dX7_readAll_185 rfl (lv_at hl 3 rfl) ?_
                refine va_get (D := g.1) (ci := 9) (v := .int 0) (C := RX7) (T := TX7) (N := 40) hx hb hts (by decide +kernel) hown hK hP 0 rfl rfl 27 (by decide) (hts (.fieldLink RX7 216 "LearnedIndexModel" "isWrong" "Z") (by decide +kernel)) (fun _ h9 => h9) rfl dX7_readAll_186 ?_
                refine lv_if_ne (tgt := 196) hx hb dX7_readAll_189 (by decide) (fun c_189 => absurd c_189 (fun z => z rfl)) (fun c_189 => ?_)
                refine lv_iconst (v := 1) hx hb dX7_readAll_192 (by decide) ?_
                refine lv_goto (tgt := 197) hx hb dX7_readAll_193 (by decide) ?_
                refine lv_iand hx hb dX7_readAll_197 ?_
                rw [show (1 &&& 1 : Int32) = 1 from by decide]
                refine lv_istore_n (lv' := [(3, .int 1), (4, .int (nI j)), (2, .int (nI (gat M C).length)), (0, .ref h), (1, .int 0)]) hx hb dX7_readAll_198 rfl hl (by decide) rfl (fun ls hl => ?_)
                refine lv_goto (tgt := 33) hx hb dX7_readAll_199 (by decide) ?_
                exact ih33 1 (j2 + 1) (ne + 1) 0 e9.1 rv2 e9.2.2 (P ++ [e9]) _ _ ls (Or.inl ⟨rfl, rfl, kAt_s hn hka hr9 hje f9⟩) (by omega) hP hD hS (lv_sub hl [0, 2, 3, 4] rfl)
              · skip
                rw [if_neg f9] at hP hD
                have hP : va_P g.1 vwCl [(h, .inr (9, [.int zth, .int (nI nA), .int (nI nB), .ref ak, .ref av, .ref bk, .ref bv, .ref br, .ref a_s, .ref a_t, .int zsg, .ref g1, .ref g2, .ref g3, .long zl1, .long zl2, .long zl3, .long zl4, .int zpb, .ref pa, .ref ru, .ref tx, .int (nI nT), .int (nI j2), .int e9.1, .int rv2, .int (nI (ne + 1)), .int 0, .int e9.2.2, .int zrs, .int zis, .int zss, .int zsc, .ref dk, .ref dv, .ref ek, .ref ev, .ref er, .ref es, .ref et])), (ak, .inl (g.2.1.1, 152, .inl fk)), (av, .inl (g.2.1.1, 152, .inl fv)), (bk, .inl (g.2.1.1, 24, .inl ck)), (bv, .inl (g.2.1.1, 24, .inl cv)), (br, .inl (g.2.1.1, 24, .inl cr)), (tx, .inl (g.2.1.2.1, 100, .inl tT))] H := hP
                have hD : va_D A [(h, .inr (9, [.int zth, .int (nI nA), .int (nI nB), .ref ak, .ref av, .ref bk, .ref bv, .ref br, .ref a_s, .ref a_t, .int zsg, .ref g1, .ref g2, .ref g3, .long zl1, .long zl2, .long zl3, .long zl4, .int zpb, .ref pa, .ref ru, .ref tx, .int (nI nT), .int (nI j2), .int e9.1, .int rv2, .int (nI (ne + 1)), .int 0, .int e9.2.2, .int zrs, .int zis, .int zss, .int zsc, .ref dk, .ref dv, .ref ek, .ref ev, .ref er, .ref es, .ref et])), (ak, .inl (g.2.1.1, 152, .inl fk)), (av, .inl (g.2.1.1, 152, .inl fv)), (bk, .inl (g.2.1.1, 24, .inl ck)), (bv, .inl (g.2.1.1, 24, .inl cv)), (br, .inl (g.2.1.1, 24, .inl cr)), (tx, .inl (g.2.1.2.1, 100, .inl tT))] := hD
                rw [show (kbool (decide (ch tT nT j2 = 59)) : Int32) = 0 from by rw [decide_eq_false f9]; rfl]
                refine lv_if_ne (tgt := 179) hx hb dX7_readAll_172 (by decide) (fun c_172 => absurd c_172 (fun z => z rfl)) (fun c_172 => ?_)
                refine lv_iconst (v := 1) hx hb dX7_readAll_175 (by decide) ?_
                refine lv_goto (tgt := 180) hx hb dX7_readAll_176 (by decide) ?_
                refine lv_ior hx hb dX7_readAll_180 ?_
                rw [show (0 ||| 1 : Int32) = 1 from by decide]
                refine va_put (D := g.1) (ci := 9) (v := .int 1) (ty := .boolean) (C := RX7) (T := TX7) (N := 40) hx hb hts (by decide +kernel) tyX7 tyX7_ok nmX7 hown hK hP hD hS 0 rfl rfl 27 (by decide) (hts (.fieldLink RX7 216 "LearnedIndexModel" "isWrong" "Z") (by decide +kernel)) (fun _ h9 => h9) rfl (by decide +kernel) rfl rfl (Nat.le_of_ble_eq_true rfl) dX7_readAll_181 (fun H locs hP hD hS => ?_)
                have hP : va_P g.1 vwCl [(h, .inr (9, [.int zth, .int (nI nA), .int (nI nB), .ref ak, .ref av, .ref bk, .ref bv, .ref br, .ref a_s, .ref a_t, .int zsg, .ref g1, .ref g2, .ref g3, .long zl1, .long zl2, .long zl3, .long zl4, .int zpb, .ref pa, .ref ru, .ref tx, .int (nI nT), .int (nI j2), .int e9.1, .int rv2, .int (nI (ne + 1)), .int 1, .int e9.2.2, .int zrs, .int zis, .int zss, .int zsc, .ref dk, .ref dv, .ref ek, .ref ev, .ref er, .ref es, .ref et])), (ak, .inl (g.2.1.1, 152, .inl fk)), (av, .inl (g.2.1.1, 152, .inl fv)), (bk, .inl (g.2.1.1, 24, .inl ck)), (bv, .inl (g.2.1.1, 24, .inl cv)), (br, .inl (g.2.1.1, 24, .inl cr)), (tx, .inl (g.2.1.2.1, 100, .inl tT))] H := hP
                have hD : va_D A [(h, .inr (9, [.int zth, .int (nI nA), .int (nI nB), .ref ak, .ref av, .ref bk, .ref bv, .ref br, .ref a_s, .ref a_t, .int zsg, .ref g1, .ref g2, .ref g3, .long zl1, .long zl2, .long zl3, .long zl4, .int zpb, .ref pa, .ref ru, .ref tx, .int (nI nT), .int (nI j2), .int e9.1, .int rv2, .int (nI (ne + 1)), .int 1, .int e9.2.2, .int zrs, .int zis, .int zss, .int zsc, .ref dk, .ref dv, .ref ek, .ref ev, .ref er, .ref es, .ref et])), (ak, .inl (g.2.1.1, 152, .inl fk)), (av, .inl (g.2.1.1, 152, .inl fv)), (bk, .inl (g.2.1.1, 24, .inl ck)), (bv, .inl (g.2.1.1, 24, .inl cv)), (br, .inl (g.2.1.1, 24, .inl cr)), (tx, .inl (g.2.1.2.1, 100, .inl tT))] := hD
                refine lv_iload_n hx hb dX7_readAll_184 rfl (lv_at hl 0 rfl) ?_
                refine lv_aload_n hx hb dX7_readAll_185 rfl (lv_at hl 3 rfl) ?_
                refine va_get (D := g.1) (ci := 9) (v := .int 1) (C := RX7) (T := TX7) (N := 40) hx hb hts (by decide +kernel) hown hK hP 0 rfl rfl 27 (by decide) (hts (.fieldLink RX7 216 "LearnedIndexModel" "isWrong" "Z") (by decide +kernel)) (fun _ h9 => h9) rfl dX7_readAll_186 ?_
                refine lv_if_ne (tgt := 196) hx hb dX7_readAll_189 (by decide) (fun c_189 => ?_) (fun c_189 => absurd c_189 (by decide))
                refine lv_iconst (v := 0) hx hb dX7_readAll_196 (by decide) ?_
                refine lv_iand hx hb dX7_readAll_197 ?_
                rw [show (1 &&& 0 : Int32) = 0 from by decide]
                refine lv_istore_n (lv' := [(3, .int 0), (4, .int (nI j)), (2, .int (nI (gat M C).length)), (0, .ref h), (1, .int 0)]) hx hb dX7_readAll_198 rfl hl (by decide) rfl (fun ls hl => ?_)
                refine lv_goto (tgt := 33) hx hb dX7_readAll_199 (by decide) ?_
                exact ih33 0 j2 (ne + 1) 1 e9.1 rv2 e9.2.2 P _ _ ls (Or.inr ⟨rfl, Or.inr ⟨(kAt_f hn hka hr9 hje f9).1, rfl, (kAt_f hn hka hr9 hje f9).2⟩⟩) (by omega) hP hD hS (lv_sub hl [0, 2, 3, 4] rfl)
          · skip
            obtain ⟨hr9, hz9⟩ : rE tT nT j = (j2, none) ∧ zw2 = 1 := hEn.elim id (fun ⟨e, z⟩ => by exfalso; exact fe (by rw [z.1]; rfl))
            have hjl : j ≤ j2 ∧ j2 ≤ nT := by have h7 := rE_le (T := tT) (n := nT) (i := j) hka.2.1.2; rw [hr9] at h7; exact ⟨h7.1, h7.2.1⟩
            rw [hz9] at hP hD
            have hP : va_P g.1 vwCl [(h, .inr (9, [.int zth, .int (nI nA), .int (nI nB), .ref ak, .ref av, .ref bk, .ref bv, .ref br, .ref a_s, .ref a_t, .int zsg, .ref g1, .ref g2, .ref g3, .long zl1, .long zl2, .long zl3, .long zl4, .int zpb, .ref pa, .ref ru, .ref tx, .int (nI nT), .int (nI j2), .int rk2, .int rv2, .int (nI ne), .int 1, .int rm2, .int zrs, .int zis, .int zss, .int zsc, .ref dk, .ref dv, .ref ek, .ref ev, .ref er, .ref es, .ref et])), (ak, .inl (g.2.1.1, 152, .inl fk)), (av, .inl (g.2.1.1, 152, .inl fv)), (bk, .inl (g.2.1.1, 24, .inl ck)), (bv, .inl (g.2.1.1, 24, .inl cv)), (br, .inl (g.2.1.1, 24, .inl cr)), (tx, .inl (g.2.1.2.1, 100, .inl tT))] H := hP
            have hD : va_D A [(h, .inr (9, [.int zth, .int (nI nA), .int (nI nB), .ref ak, .ref av, .ref bk, .ref bv, .ref br, .ref a_s, .ref a_t, .int zsg, .ref g1, .ref g2, .ref g3, .long zl1, .long zl2, .long zl3, .long zl4, .int zpb, .ref pa, .ref ru, .ref tx, .int (nI nT), .int (nI j2), .int rk2, .int rv2, .int (nI ne), .int 1, .int rm2, .int zrs, .int zis, .int zss, .int zsc, .ref dk, .ref dv, .ref ek, .ref ev, .ref er, .ref es, .ref et])), (ak, .inl (g.2.1.1, 152, .inl fk)), (av, .inl (g.2.1.1, 152, .inl fv)), (bk, .inl (g.2.1.1, 24, .inl ck)), (bv, .inl (g.2.1.1, 24, .inl cv)), (br, .inl (g.2.1.1, 24, .inl cr)), (tx, .inl (g.2.1.2.1, 100, .inl tT))] := hD
            refine lv_aload_n hx hb dX7_readAll_47 rfl (lv_at hl 3 rfl) ?_
            refine lv_dup hx hb dX7_readAll_48 rfl ?_
            refine va_get (D := g.1) (ci := 9) (v := .int (nI ne)) (C := RX7) (T := TX7) (N := 40) hx hb hts (by decide +kernel) hown hK hP 0 rfl rfl 26 (by decide) (hts (.fieldLink RX7 243 "LearnedIndexModel" "readEntries" "I") (by decide +kernel)) (fun _ h9 => h9) rfl dX7_readAll_49 ?_
            refine lv_iconst (v := 1) hx hb dX7_readAll_52 (by decide) ?_
            refine lv_iadd hx hb dX7_readAll_53 ?_
            rw [show (nI ne) + 1 = nI (ne + 1) from nI_1 ne]
            refine va_put (D := g.1) (ci := 9) (v := .int (nI (ne + 1))) (ty := .int) (C := RX7) (T := TX7) (N := 40) hx hb hts (by decide +kernel) tyX7 tyX7_ok nmX7 hown hK hP hD hS 0 rfl rfl 26 (by decide) (hts (.fieldLink RX7 243 "LearnedIndexModel" "readEntries" "I") (by decide +kernel)) (fun _ h9 => h9) rfl (by decide +kernel) rfl rfl (Nat.le_of_ble_eq_true rfl) dX7_readAll_54 (fun H locs hP hD hS => ?_)
            have hP : va_P g.1 vwCl [(h, .inr (9, [.int zth, .int (nI nA), .int (nI nB), .ref ak, .ref av, .ref bk, .ref bv, .ref br, .ref a_s, .ref a_t, .int zsg, .ref g1, .ref g2, .ref g3, .long zl1, .long zl2, .long zl3, .long zl4, .int zpb, .ref pa, .ref ru, .ref tx, .int (nI nT), .int (nI j2), .int rk2, .int rv2, .int (nI (ne + 1)), .int 1, .int rm2, .int zrs, .int zis, .int zss, .int zsc, .ref dk, .ref dv, .ref ek, .ref ev, .ref er, .ref es, .ref et])), (ak, .inl (g.2.1.1, 152, .inl fk)), (av, .inl (g.2.1.1, 152, .inl fv)), (bk, .inl (g.2.1.1, 24, .inl ck)), (bv, .inl (g.2.1.1, 24, .inl cv)), (br, .inl (g.2.1.1, 24, .inl cr)), (tx, .inl (g.2.1.2.1, 100, .inl tT))] H := hP
            have hD : va_D A [(h, .inr (9, [.int zth, .int (nI nA), .int (nI nB), .ref ak, .ref av, .ref bk, .ref bv, .ref br, .ref a_s, .ref a_t, .int zsg, .ref g1, .ref g2, .ref g3, .long zl1, .long zl2, .long zl3, .long zl4, .int zpb, .ref pa, .ref ru, .ref tx, .int (nI nT), .int (nI j2), .int rk2, .int rv2, .int (nI (ne + 1)), .int 1, .int rm2, .int zrs, .int zis, .int zss, .int zsc, .ref dk, .ref dv, .ref ek, .ref ev, .ref er, .ref es, .ref et])), (ak, .inl (g.2.1.1, 152, .inl fk)), (av, .inl (g.2.1.1, 152, .inl fv)), (bk, .inl (g.2.1.1, 24, .inl ck)), (bv, .inl (g.2.1.1, 24, .inl cv)), (br, .inl (g.2.1.1, 24, .inl cr)), (tx, .inl (g.2.1.2.1, 100, .inl tT))] := hD
            refine lv_iload_n hx hb dX7_readAll_57 rfl (lv_at hl 4 rfl) ?_
            refine lv_iconst (v := 1) hx hb dX7_readAll_58 (by decide) ?_
            refine lv_icmp_ne (tgt := 124) hx hb dX7_readAll_59 (by decide) (fun c_59 => ?_) (fun c_59 => absurd c_59 (by decide))
            refine lv_iload_n hx hb dX7_readAll_124 rfl (lv_at hl 4 rfl) ?_
            refine lv_iconst (v := 2) hx hb dX7_readAll_125 (by decide) ?_
            refine lv_icmp_ne (tgt := 133) hx hb dX7_readAll_126 (by decide) (fun c_126 => ?_) (fun c_126 => absurd c_126 (by decide))
            refine lv_aload_n hx hb dX7_readAll_133 rfl (lv_at hl 3 rfl) ?_
            refine va_get (D := g.1) (ci := 9) (v := .int 1) (C := RX7) (T := TX7) (N := 40) hx hb hts (by decide +kernel) hown hK hP 0 rfl rfl 27 (by decide) (hts (.fieldLink RX7 216 "LearnedIndexModel" "isWrong" "Z") (by decide +kernel)) (fun _ h9 => h9) rfl dX7_readAll_134 ?_
            refine lv_if_ne (tgt := 155) hx hb dX7_readAll_137 (by decide) (fun c_137 => ?_) (fun c_137 => absurd c_137 (by decide))
            refine lv_iconst (v := 0) hx hb dX7_readAll_155 (by decide) ?_
            refine lv_istore_n (lv' := [(3, .int 0), (4, .int (nI j)), (2, .int (nI (gat M C).length)), (0, .ref h), (1, .int 0)]) hx hb dX7_readAll_156 rfl hl (by decide) rfl (fun ls hl => ?_)
            refine lv_aload_n hx hb dX7_readAll_157 rfl (lv_at hl 3 rfl) ?_
            refine lv_dup hx hb dX7_readAll_158 rfl ?_
            refine va_get (D := g.1) (ci := 9) (v := .int 1) (C := RX7) (T := TX7) (N := 40) hx hb hts (by decide +kernel) hown hK hP 0 rfl rfl 27 (by decide) (hts (.fieldLink RX7 216 "LearnedIndexModel" "isWrong" "Z") (by decide +kernel)) (fun _ h9 => h9) rfl dX7_readAll_159 ?_
            refine lv_iload_n hx hb dX7_readAll_162 rfl (lv_at hl 0 rfl) ?_
            refine lv_if_eq (tgt := 179) hx hb dX7_readAll_163 (by decide) (fun c_163 => ?_) (fun c_163 => absurd (by decide) c_163)
            refine lv_iconst (v := 0) hx hb dX7_readAll_179 (by decide) ?_
            refine lv_ior hx hb dX7_readAll_180 ?_
            rw [show (1 ||| 0 : Int32) = 1 from by decide]
            refine va_put (D := g.1) (ci := 9) (v := .int 1) (ty := .boolean) (C := RX7) (T := TX7) (N := 40) hx hb hts (by decide +kernel) tyX7 tyX7_ok nmX7 hown hK hP hD hS 0 rfl rfl 27 (by decide) (hts (.fieldLink RX7 216 "LearnedIndexModel" "isWrong" "Z") (by decide +kernel)) (fun _ h9 => h9) rfl (by decide +kernel) rfl rfl (Nat.le_of_ble_eq_true rfl) dX7_readAll_181 (fun H locs hP hD hS => ?_)
            have hP : va_P g.1 vwCl [(h, .inr (9, [.int zth, .int (nI nA), .int (nI nB), .ref ak, .ref av, .ref bk, .ref bv, .ref br, .ref a_s, .ref a_t, .int zsg, .ref g1, .ref g2, .ref g3, .long zl1, .long zl2, .long zl3, .long zl4, .int zpb, .ref pa, .ref ru, .ref tx, .int (nI nT), .int (nI j2), .int rk2, .int rv2, .int (nI (ne + 1)), .int 1, .int rm2, .int zrs, .int zis, .int zss, .int zsc, .ref dk, .ref dv, .ref ek, .ref ev, .ref er, .ref es, .ref et])), (ak, .inl (g.2.1.1, 152, .inl fk)), (av, .inl (g.2.1.1, 152, .inl fv)), (bk, .inl (g.2.1.1, 24, .inl ck)), (bv, .inl (g.2.1.1, 24, .inl cv)), (br, .inl (g.2.1.1, 24, .inl cr)), (tx, .inl (g.2.1.2.1, 100, .inl tT))] H := hP
            have hD : va_D A [(h, .inr (9, [.int zth, .int (nI nA), .int (nI nB), .ref ak, .ref av, .ref bk, .ref bv, .ref br, .ref a_s, .ref a_t, .int zsg, .ref g1, .ref g2, .ref g3, .long zl1, .long zl2, .long zl3, .long zl4, .int zpb, .ref pa, .ref ru, .ref tx, .int (nI nT), .int (nI j2), .int rk2, .int rv2, .int (nI (ne + 1)), .int 1, .int rm2, .int zrs, .int zis, .int zss, .int zsc, .ref dk, .ref dv, .ref ek, .ref ev, .ref er, .ref es, .ref et])), (ak, .inl (g.2.1.1, 152, .inl fk)), (av, .inl (g.2.1.1, 152, .inl fv)), (bk, .inl (g.2.1.1, 24, .inl ck)), (bv, .inl (g.2.1.1, 24, .inl cv)), (br, .inl (g.2.1.1, 24, .inl cr)), (tx, .inl (g.2.1.2.1, 100, .inl tT))] := hD
            refine lv_iload_n hx hb dX7_readAll_184 rfl (lv_at hl 0 rfl) ?_
            refine lv_aload_n hx hb dX7_readAll_185 rfl (lv_at hl 3 rfl) ?_
            refine va_get (D := g.1) (ci := 9) (v := .int 1) (C := RX7) (T := TX7) (N := 40) hx hb hts (by decide +kernel) hown hK hP 0 rfl rfl 27 (by decide) (hts (.fieldLink RX7 216 "LearnedIndexModel" "isWrong" "Z") (by decide +kernel)) (fun _ h9 => h9) rfl dX7_readAll_186 ?_
            refine lv_if_ne (tgt := 196) hx hb dX7_readAll_189 (by decide) (fun c_189 => ?_) (fun c_189 => absurd c_189 (by decide))
            refine lv_iconst (v := 0) hx hb dX7_readAll_196 (by decide) ?_
            refine lv_iand hx hb dX7_readAll_197 ?_
            rw [show (0 &&& 0 : Int32) = 0 from by decide]
            refine lv_istore_n (lv' := [(3, .int 0), (4, .int (nI j)), (2, .int (nI (gat M C).length)), (0, .ref h), (1, .int 0)]) hx hb dX7_readAll_198 rfl hl (by decide) rfl (fun ls hl => ?_)
            refine lv_goto (tgt := 33) hx hb dX7_readAll_199 (by decide) ?_
            exact ih33 0 j2 (ne + 1) 1 rk2 rv2 rm2 P _ _ ls (Or.inr ⟨rfl, Or.inr ⟨(kAt_n hka hr9).1, rfl, (kAt_n hka hr9).2⟩⟩) (by omega) hP hD hS (lv_sub hl [0, 2, 3, 4] rfl)
    exact L33 _ 0 0 0 0 zrk zrv zrm ([] : List kE3) _ _ ls (by first | exact Or.inl ⟨rfl, rfl, kAt_0 hn0⟩ | exact Or.inr ⟨rfl, Or.inl ⟨hp0, rfl⟩⟩) (Nat.lt_succ_self _) hP hD hS (lv_sub hl [0, 1, 2, 3] rfl)
  · skip
    have hn0 : 0 < nT := Nat.pos_of_ne_zero (fun z => c_24 (by rw [z]; decide))
    refine lv_iconst (v := 1) hx hb dX7_readAll_27 (by decide) ?_
    refine lv_goto (tgt := 32) hx hb dX7_readAll_28 (by decide) ?_
    refine lv_istore_n (lv' := [(3, .int 1), (2, .int (nI (gat M C).length)), (0, .ref h), (1, .int 0)]) hx hb dX7_readAll_32 rfl hl (by decide) rfl (fun ls hl => ?_)
    have L33 : ∀ (n9 : Nat) (go : Nat) (j : Nat) (ne : Nat) (zw : Int32) (rk9 : Int32) (rv9 : Int32) (rm9 : Int32) (P : List kE3) (H : Heap) (locs : List Loc) (ls : Array Slot), ((go = 1 ∧ zw = 0 ∧ kAt tT nT ne j P) ∨ (go = 0 ∧ (((pT tT nT).1 = true ∧ zw = 0) ∨ ((pT tT nT).1 = false ∧ zw = 1 ∧ (pT tT nT).2.1 = j)))) → 2 * (nT - j) + go < n9 → va_P g.1 vwCl [(h, .inr (9, [.int zth, .int (nI nA), .int (nI nB), .ref ak, .ref av, .ref bk, .ref bv, .ref br, .ref a_s, .ref a_t, .int zsg, .ref g1, .ref g2, .ref g3, .long zl1, .long zl2, .long zl3, .long zl4, .int zpb, .ref pa, .ref ru, .ref tx, .int (nI nT), .int (nI j), .int rk9, .int rv9, .int (nI ne), .int zw, .int rm9, .int zrs, .int zis, .int zss, .int zsc, .ref dk, .ref dv, .ref ek, .ref ev, .ref er, .ref es, .ref et])), (ak, .inl (g.2.1.1, 152, .inl fk)), (av, .inl (g.2.1.1, 152, .inl fv)), (bk, .inl (g.2.1.1, 24, .inl ck)), (bv, .inl (g.2.1.1, 24, .inl cv)), (br, .inl (g.2.1.1, 24, .inl cr)), (tx, .inl (g.2.1.2.1, 100, .inl tT))] H → va_D A [(h, .inr (9, [.int zth, .int (nI nA), .int (nI nB), .ref ak, .ref av, .ref bk, .ref bv, .ref br, .ref a_s, .ref a_t, .int zsg, .ref g1, .ref g2, .ref g3, .long zl1, .long zl2, .long zl3, .long zl4, .int zpb, .ref pa, .ref ru, .ref tx, .int (nI nT), .int (nI j), .int rk9, .int rv9, .int (nI ne), .int zw, .int rm9, .int zrs, .int zis, .int zss, .int zsc, .ref dk, .ref dv, .ref ek, .ref ev, .ref er, .ref es, .ref et])), (ak, .inl (g.2.1.1, 152, .inl fk)), (av, .inl (g.2.1.1, 152, .inl fv)), (bk, .inl (g.2.1.1, 24, .inl ck)), (bv, .inl (g.2.1.1, 24, .inl cv)), (br, .inl (g.2.1.1, 24, .inl cr)), (tx, .inl (g.2.1.2.1, 100, .inl tT))] → va_S A s.heap H locs → lv_has ls 6 [(3, .int (nI go)), (2, .int (nI (gat M C).length)), (0, .ref h), (1, .int 0)] → W p l e rm_X7_readAll0 s m ([.ref h, .int 0] : List Value).toArray below meth cd H locs 0 0 (kQi g 7 A (p_X7_readAll0 g h zth zsg zl1 zl2 zl3 zl4 zpb zat zrk zrv zre zwr zrm zrs zis zss zsc ak av bk bv br a_s a_t g1 g2 g3 pa ru tx dk dv ek ev er es et nA fk fv nB ck cv cr nT tT M C) below ([.ref h, .int 0] : List Value).toArray s) (F0 m 33 ls []) := by
      intro n9
      induction n9 with
      | zero => intro go j ne zw rk9 rv9 rm9 P H locs ls hgo h9; exact absurd h9 (Nat.not_lt_zero _)
      | succ n9 ih33 =>
        intro go j ne zw rk9 rv9 rm9 P H locs ls hgo hn33 hP hD hS hl
        refine lv_iload_n hx hb dX7_readAll_33 rfl (lv_at hl 0 rfl) ?_
        refine lv_if_eq (tgt := 202) hx hb dX7_readAll_34 (by decide) (fun c_34 => ?_) (fun c_34 => ?_)
        · skip
          have hfin : ((pT tT nT).1 = true ∧ zw = 0) ∨ ((pT tT nT).1 = false ∧ zw = 1 ∧ (pT tT nT).2.1 = j) := hgo.elim (fun z => absurd c_34 (by rw [z.1]; decide)) (fun z => z.2)
          refine lv_iconst (v := 1) hx hb dX7_readAll_202 (by decide) ?_
          exact kretz hx hb hRt hlk hK hP hD hS rfl dX7_readAll_203 (by decide) (⟨_, _, _, _, _, _, rfl, hfin, rfl⟩)
        · skip
          obtain ⟨hg1, hz0, hka⟩ := (hgo.elim id (fun z => absurd (by rw [z.1]; rfl) c_34))
          rw [hz0] at hP hD
          have hP : va_P g.1 vwCl [(h, .inr (9, [.int zth, .int (nI nA), .int (nI nB), .ref ak, .ref av, .ref bk, .ref bv, .ref br, .ref a_s, .ref a_t, .int zsg, .ref g1, .ref g2, .ref g3, .long zl1, .long zl2, .long zl3, .long zl4, .int zpb, .ref pa, .ref ru, .ref tx, .int (nI nT), .int (nI j), .int rk9, .int rv9, .int (nI ne), .int 0, .int rm9, .int zrs, .int zis, .int zss, .int zsc, .ref dk, .ref dv, .ref ek, .ref ev, .ref er, .ref es, .ref et])), (ak, .inl (g.2.1.1, 152, .inl fk)), (av, .inl (g.2.1.1, 152, .inl fv)), (bk, .inl (g.2.1.1, 24, .inl ck)), (bv, .inl (g.2.1.1, 24, .inl cv)), (br, .inl (g.2.1.1, 24, .inl cr)), (tx, .inl (g.2.1.2.1, 100, .inl tT))] H := hP
          have hD : va_D A [(h, .inr (9, [.int zth, .int (nI nA), .int (nI nB), .ref ak, .ref av, .ref bk, .ref bv, .ref br, .ref a_s, .ref a_t, .int zsg, .ref g1, .ref g2, .ref g3, .long zl1, .long zl2, .long zl3, .long zl4, .int zpb, .ref pa, .ref ru, .ref tx, .int (nI nT), .int (nI j), .int rk9, .int rv9, .int (nI ne), .int 0, .int rm9, .int zrs, .int zis, .int zss, .int zsc, .ref dk, .ref dv, .ref ek, .ref ev, .ref er, .ref es, .ref et])), (ak, .inl (g.2.1.1, 152, .inl fk)), (av, .inl (g.2.1.1, 152, .inl fv)), (bk, .inl (g.2.1.1, 24, .inl ck)), (bv, .inl (g.2.1.1, 24, .inl cv)), (br, .inl (g.2.1.1, 24, .inl cr)), (tx, .inl (g.2.1.2.1, 100, .inl tT))] := hD
          refine lv_aload_n hx hb dX7_readAll_37 rfl (lv_at hl 2 rfl) ?_
          refine va_get (D := g.1) (ci := 9) (v := .int (nI j)) (C := RX7) (T := TX7) (N := 40) hx hb hts (by decide +kernel) hown hK hP 0 rfl rfl 23 (by decide) (hts (.fieldLink RX7 220 "LearnedIndexModel" "at" "I") (by decide +kernel)) (fun _ h9 => h9) rfl dX7_readAll_38 ?_
          refine lv_istore (lv' := [(4, .int (nI j)), (3, .int (nI go)), (2, .int (nI (gat M C).length)), (0, .ref h), (1, .int 0)]) hx hb dX7_readAll_41 hl (by decide) rfl (fun ls hl => ?_)
          refine lv_aload_n hx hb dX7_readAll_43 rfl (lv_at hl 3 rfl) ?_
          refine kcallv (wc := [(h, .inr (9, [.int zth, .int (nI nA), .int (nI nB), .ref ak, .ref av, .ref bk, .ref bv, .ref br, .ref a_s, .ref a_t, .int zsg, .ref g1, .ref g2, .ref g3, .long zl1, .long zl2, .long zl3, .long zl4, .int zpb, .ref pa, .ref ru, .ref tx, .int (nI nT), .int (nI j), .int rk9, .int rv9, .int (nI ne), .int 0, .int rm9, .int zrs, .int zis, .int zss, .int zsc, .ref dk, .ref dv, .ref ek, .ref ev, .ref er, .ref es, .ref et])), (tx, .inl (g.2.1.2.1, 100, .inl tT))]) [0, 6] (va_runV (C := RX7) (As := []) (rest := []) ⟨hx, hb, hml, hown, hts⟩ ((c_X7_readEntry l g h zth (nI nA) (nI nB) zsg zl1 zl2 zl3 zl4 zpb rk9 rv9 (nI ne) rm9 zrs zis zss zsc ak av bk bv br a_s a_t g1 g2 g3 pa ru tx dk dv ek ev er es et nT j tT hn hka.2.1.2) _) (cwV 0 hts gX7_readAll_X7_readEntry rfl rfl rfl (by decide +kernel) ⟨Nat.le_of_ble_eq_true rfl, Nat.le_of_ble_eq_true rfl⟩) (kpreV (wc := [(h, .inr (9, [.int zth, .int (nI nA), .int (nI nB), .ref ak, .ref av, .ref bk, .ref bv, .ref br, .ref a_s, .ref a_t, .int zsg, .ref g1, .ref g2, .ref g3, .long zl1, .long zl2, .long zl3, .long zl4, .int zpb, .ref pa, .ref ru, .ref tx, .int (nI nT), .int (nI j), .int rk9, .int rv9, .int (nI ne), .int 0, .int rm9, .int zrs, .int zis, .int zss, .int zsc, .ref dk, .ref dv, .ref ek, .ref ev, .ref er, .ref es, .ref et])), (tx, .inl (g.2.1.2.1, 100, .inl tT))]) (ci := 9) hK hP hD hS hA hE [0, 6] rfl rfl rfl rfl) rfl rfl hl.1 rfl (lv_room (Nat.le_of_ble_eq_true rfl)) dX7_readAll_44 ⟨Nat.zero_le _, Nat.zero_le _⟩) hP hD hS hA rfl (fun w_4 H locs hp hP hD hS => ?_)
          obtain ⟨j2, rk2, rv2, rm2, zw2, hEn, rfl⟩ := hp
          have hP : va_P g.1 vwCl [(h, .inr (9, [.int zth, .int (nI nA), .int (nI nB), .ref ak, .ref av, .ref bk, .ref bv, .ref br, .ref a_s, .ref a_t, .int zsg, .ref g1, .ref g2, .ref g3, .long zl1, .long zl2, .long zl3, .long zl4, .int zpb, .ref pa, .ref ru, .ref tx, .int (nI nT), .int (nI j2), .int rk2, .int rv2, .int (nI ne), .int zw2, .int rm2, .int zrs, .int zis, .int zss, .int zsc, .ref dk, .ref dv, .ref ek, .ref ev, .ref er, .ref es, .ref et])), (ak, .inl (g.2.1.1, 152, .inl fk)), (av, .inl (g.2.1.1, 152, .inl fv)), (bk, .inl (g.2.1.1, 24, .inl ck)), (bv, .inl (g.2.1.1, 24, .inl cv)), (br, .inl (g.2.1.1, 24, .inl cr)), (tx, .inl (g.2.1.2.1, 100, .inl tT))] H := hP
          have hD : va_D A [(h, .inr (9, [.int zth, .int (nI nA), .int (nI nB), .ref ak, .ref av, .ref bk, .ref bv, .ref br, .ref a_s, .ref a_t, .int zsg, .ref g1, .ref g2, .ref g3, .long zl1, .long zl2, .long zl3, .long zl4, .int zpb, .ref pa, .ref ru, .ref tx, .int (nI nT), .int (nI j2), .int rk2, .int rv2, .int (nI ne), .int zw2, .int rm2, .int zrs, .int zis, .int zss, .int zsc, .ref dk, .ref dv, .ref ek, .ref ev, .ref er, .ref es, .ref et])), (ak, .inl (g.2.1.1, 152, .inl fk)), (av, .inl (g.2.1.1, 152, .inl fv)), (bk, .inl (g.2.1.1, 24, .inl ck)), (bv, .inl (g.2.1.1, 24, .inl cv)), (br, .inl (g.2.1.1, 24, .inl cr)), (tx, .inl (g.2.1.2.1, 100, .inl tT))] := hD
          by_cases fe : (rE tT nT j).2.isSome = true
          · skip
            obtain ⟨e9, hr9, hz9, hk9, hm9, hv9⟩ : ∃ e : kE3, rE tT nT j = (j2, some e) ∧ zw2 = 0 ∧ rk2 = e.1 ∧ rm2 = e.2.2 ∧ (e.2.2 = 0 → rv2 = e.2.1) := hEn.elim (fun z => by exfalso; rw [z.1] at fe; exact Bool.false_ne_true fe) id
            have hjl := kAt_jl hka hr9
            rw [hz9, hk9, hm9] at hP hD
            have hP : va_P g.1 vwCl [(h, .inr (9, [.int zth, .int (nI nA), .int (nI nB), .ref ak, .ref av, .ref bk, .ref bv, .ref br, .ref a_s, .ref a_t, .int zsg, .ref g1, .ref g2, .ref g3, .long zl1, .long zl2, .long zl3, .long zl4, .int zpb, .ref pa, .ref ru, .ref tx, .int (nI nT), .int (nI j2), .int e9.1, .int rv2, .int (nI ne), .int 0, .int e9.2.2, .int zrs, .int zis, .int zss, .int zsc, .ref dk, .ref dv, .ref ek, .ref ev, .ref er, .ref es, .ref et])), (ak, .inl (g.2.1.1, 152, .inl fk)), (av, .inl (g.2.1.1, 152, .inl fv)), (bk, .inl (g.2.1.1, 24, .inl ck)), (bv, .inl (g.2.1.1, 24, .inl cv)), (br, .inl (g.2.1.1, 24, .inl cr)), (tx, .inl (g.2.1.2.1, 100, .inl tT))] H := hP
            have hD : va_D A [(h, .inr (9, [.int zth, .int (nI nA), .int (nI nB), .ref ak, .ref av, .ref bk, .ref bv, .ref br, .ref a_s, .ref a_t, .int zsg, .ref g1, .ref g2, .ref g3, .long zl1, .long zl2, .long zl3, .long zl4, .int zpb, .ref pa, .ref ru, .ref tx, .int (nI nT), .int (nI j2), .int e9.1, .int rv2, .int (nI ne), .int 0, .int e9.2.2, .int zrs, .int zis, .int zss, .int zsc, .ref dk, .ref dv, .ref ek, .ref ev, .ref er, .ref es, .ref et])), (ak, .inl (g.2.1.1, 152, .inl fk)), (av, .inl (g.2.1.1, 152, .inl fv)), (bk, .inl (g.2.1.1, 24, .inl ck)), (bv, .inl (g.2.1.1, 24, .inl cv)), (br, .inl (g.2.1.1, 24, .inl cr)), (tx, .inl (g.2.1.2.1, 100, .inl tT))] := hD
            refine lv_aload_n hx hb dX7_readAll_47 rfl (lv_at hl 3 rfl) ?_
            refine lv_dup hx hb dX7_readAll_48 rfl ?_
            refine va_get (D := g.1) (ci := 9) (v := .int (nI ne)) (C := RX7) (T := TX7) (N := 40) hx hb hts (by decide +kernel) hown hK hP 0 rfl rfl 26 (by decide) (hts (.fieldLink RX7 243 "LearnedIndexModel" "readEntries" "I") (by decide +kernel)) (fun _ h9 => h9) rfl dX7_readAll_49 ?_
            refine lv_iconst (v := 1) hx hb dX7_readAll_52 (by decide) ?_
            refine lv_iadd hx hb dX7_readAll_53 ?_
            rw [show (nI ne) + 1 = nI (ne + 1) from nI_1 ne]
            refine va_put (D := g.1) (ci := 9) (v := .int (nI (ne + 1))) (ty := .int) (C := RX7) (T := TX7) (N := 40) hx hb hts (by decide +kernel) tyX7 tyX7_ok nmX7 hown hK hP hD hS 0 rfl rfl 26 (by decide) (hts (.fieldLink RX7 243 "LearnedIndexModel" "readEntries" "I") (by decide +kernel)) (fun _ h9 => h9) rfl (by decide +kernel) rfl rfl (Nat.le_of_ble_eq_true rfl) dX7_readAll_54 (fun H locs hP hD hS => ?_)
            have hP : va_P g.1 vwCl [(h, .inr (9, [.int zth, .int (nI nA), .int (nI nB), .ref ak, .ref av, .ref bk, .ref bv, .ref br, .ref a_s, .ref a_t, .int zsg, .ref g1, .ref g2, .ref g3, .long zl1, .long zl2, .long zl3, .long zl4, .int zpb, .ref pa, .ref ru, .ref tx, .int (nI nT), .int (nI j2), .int e9.1, .int rv2, .int (nI (ne + 1)), .int 0, .int e9.2.2, .int zrs, .int zis, .int zss, .int zsc, .ref dk, .ref dv, .ref ek, .ref ev, .ref er, .ref es, .ref et])), (ak, .inl (g.2.1.1, 152, .inl fk)), (av, .inl (g.2.1.1, 152, .inl fv)), (bk, .inl (g.2.1.1, 24, .inl ck)), (bv, .inl (g.2.1.1, 24, .inl cv)), (br, .inl (g.2.1.1, 24, .inl cr)), (tx, .inl (g.2.1.2.1, 100, .inl tT))] H := hP
            have hD : va_D A [(h, .inr (9, [.int zth, .int (nI nA), .int (nI nB), .ref ak, .ref av, .ref bk, .ref bv, .ref br, .ref a_s, .ref a_t, .int zsg, .ref g1, .ref g2, .ref g3, .long zl1, .long zl2, .long zl3, .long zl4, .int zpb, .ref pa, .ref ru, .ref tx, .int (nI nT), .int (nI j2), .int e9.1, .int rv2, .int (nI (ne + 1)), .int 0, .int e9.2.2, .int zrs, .int zis, .int zss, .int zsc, .ref dk, .ref dv, .ref ek, .ref ev, .ref er, .ref es, .ref et])), (ak, .inl (g.2.1.1, 152, .inl fk)), (av, .inl (g.2.1.1, 152, .inl fv)), (bk, .inl (g.2.1.1, 24, .inl ck)), (bv, .inl (g.2.1.1, 24, .inl cv)), (br, .inl (g.2.1.1, 24, .inl cr)), (tx, .inl (g.2.1.2.1, 100, .inl tT))] := hD
            refine lv_iload_n hx hb dX7_readAll_57 rfl (lv_at hl 4 rfl) ?_
            refine lv_iconst (v := 1) hx hb dX7_readAll_58 (by decide) ?_
            refine lv_icmp_ne (tgt := 124) hx hb dX7_readAll_59 (by decide) (fun c_59 => ?_) (fun c_59 => absurd c_59 (by decide))
            refine lv_iload_n hx hb dX7_readAll_124 rfl (lv_at hl 4 rfl) ?_
            refine lv_iconst (v := 2) hx hb dX7_readAll_125 (by decide) ?_
            refine lv_icmp_ne (tgt := 133) hx hb dX7_readAll_126 (by decide) (fun c_126 => ?_) (fun c_126 => absurd c_126 (by decide))
            refine lv_aload_n hx hb dX7_readAll_133 rfl (lv_at hl 3 rfl) ?_
            refine va_get (D := g.1) (ci := 9) (v := .int 0) (C := RX7) (T := TX7) (N := 40) hx hb hts (by decide +kernel) hown hK hP 0 rfl rfl 27 (by decide) (hts (.fieldLink RX7 216 "LearnedIndexModel" "isWrong" "Z") (by decide +kernel)) (fun _ h9 => h9) rfl dX7_readAll_134 ?_
            refine lv_if_ne (tgt := 155) hx hb dX7_readAll_137 (by decide) (fun c_137 => absurd c_137 (fun z => z rfl)) (fun c_137 => ?_)
            refine lv_aload_n hx hb dX7_readAll_140 rfl (lv_at hl 3 rfl) ?_
            refine va_get (D := g.1) (ci := 9) (v := .int (nI j2)) (C := RX7) (T := TX7) (N := 40) hx hb hts (by decide +kernel) hown hK hP 0 rfl rfl 23 (by decide) (hts (.fieldLink RX7 220 "LearnedIndexModel" "at" "I") (by decide +kernel)) (fun _ h9 => h9) rfl dX7_readAll_141 ?_
            refine lv_aload_n hx hb dX7_readAll_144 rfl (lv_at hl 3 rfl) ?_
            refine va_get (D := g.1) (ci := 9) (v := .int (nI nT)) (C := RX7) (T := TX7) (N := 40) hx hb hts (by decide +kernel) hown hK hP 0 rfl rfl 22 (by decide) (hts (.fieldLink RX7 213 "LearnedIndexModel" "length" "I") (by decide +kernel)) (fun _ h9 => h9) rfl dX7_readAll_145 ?_
            refine lv_icmp_ge (tgt := 155) hx hb dX7_readAll_148 (by decide) (fun c_148 => ?_) (fun c_148 => ?_)
            · skip
              have hje : nT ≤ j2 := kg (by omega) (by omega) c_148
              refine lv_iconst (v := 0) hx hb dX7_readAll_155 (by decide) ?_
              refine lv_istore_n (lv' := [(3, .int 0), (4, .int (nI j)), (2, .int (nI (gat M C).length)), (0, .ref h), (1, .int 0)]) hx hb dX7_readAll_156 rfl hl (by decide) rfl (fun ls hl => ?_)
              refine lv_aload_n hx hb dX7_readAll_157 rfl (lv_at hl 3 rfl) ?_
              refine lv_dup hx hb dX7_readAll_158 rfl ?_
              refine va_get (D := g.1) (ci := 9) (v := .int 0) (C := RX7) (T := TX7) (N := 40) hx hb hts (by decide +kernel) hown hK hP 0 rfl rfl 27 (by decide) (hts (.fieldLink RX7 216 "LearnedIndexModel" "isWrong" "Z") (by decide +kernel)) (fun _ h9 => h9) rfl dX7_readAll_159 ?_
              refine lv_iload_n hx hb dX7_readAll_162 rfl (lv_at hl 0 rfl) ?_
              refine lv_if_eq (tgt := 179) hx hb dX7_readAll_163 (by decide) (fun c_163 => ?_) (fun c_163 => absurd (by decide) c_163)
              refine lv_iconst (v := 0) hx hb dX7_readAll_179 (by decide) ?_
              refine lv_ior hx hb dX7_readAll_180 ?_
              rw [show (0 ||| 0 : Int32) = 0 from by decide]
              refine va_put (D := g.1) (ci := 9) (v := .int 0) (ty := .boolean) (C := RX7) (T := TX7) (N := 40) hx hb hts (by decide +kernel) tyX7 tyX7_ok nmX7 hown hK hP hD hS 0 rfl rfl 27 (by decide) (hts (.fieldLink RX7 216 "LearnedIndexModel" "isWrong" "Z") (by decide +kernel)) (fun _ h9 => h9) rfl (by decide +kernel) rfl rfl (Nat.le_of_ble_eq_true rfl) dX7_readAll_181 (fun H locs hP hD hS => ?_)
              have hP : va_P g.1 vwCl [(h, .inr (9, [.int zth, .int (nI nA), .int (nI nB), .ref ak, .ref av, .ref bk, .ref bv, .ref br, .ref a_s, .ref a_t, .int zsg, .ref g1, .ref g2, .ref g3, .long zl1, .long zl2, .long zl3, .long zl4, .int zpb, .ref pa, .ref ru, .ref tx, .int (nI nT), .int (nI j2), .int e9.1, .int rv2, .int (nI (ne + 1)), .int 0, .int e9.2.2, .int zrs, .int zis, .int zss, .int zsc, .ref dk, .ref dv, .ref ek, .ref ev, .ref er, .ref es, .ref et])), (ak, .inl (g.2.1.1, 152, .inl fk)), (av, .inl (g.2.1.1, 152, .inl fv)), (bk, .inl (g.2.1.1, 24, .inl ck)), (bv, .inl (g.2.1.1, 24, .inl cv)), (br, .inl (g.2.1.1, 24, .inl cr)), (tx, .inl (g.2.1.2.1, 100, .inl tT))] H := hP
              have hD : va_D A [(h, .inr (9, [.int zth, .int (nI nA), .int (nI nB), .ref ak, .ref av, .ref bk, .ref bv, .ref br, .ref a_s, .ref a_t, .int zsg, .ref g1, .ref g2, .ref g3, .long zl1, .long zl2, .long zl3, .long zl4, .int zpb, .ref pa, .ref ru, .ref tx, .int (nI nT), .int (nI j2), .int e9.1, .int rv2, .int (nI (ne + 1)), .int 0, .int e9.2.2, .int zrs, .int zis, .int zss, .int zsc, .ref dk, .ref dv, .ref ek, .ref ev, .ref er, .ref es, .ref et])), (ak, .inl (g.2.1.1, 152, .inl fk)), (av, .inl (g.2.1.1, 152, .inl fv)), (bk, .inl (g.2.1.1, 24, .inl ck)), (bv, .inl (g.2.1.1, 24, .inl cv)), (br, .inl (g.2.1.1, 24, .inl cr)), (tx, .inl (g.2.1.2.1, 100, .inl tT))] := hD
              refine lv_iload_n hx hb dX7_readAll_184 rfl (lv_at hl 0 rfl) ?_
              refine lv_aload_n hx hb dX7_readAll_185 rfl (lv_at hl 3 rfl) ?_
              refine va_get (D := g.1) (ci := 9) (v := .int 0) (C := RX7) (T := TX7) (N := 40) hx hb hts (by decide +kernel) hown hK hP 0 rfl rfl 27 (by decide) (hts (.fieldLink RX7 216 "LearnedIndexModel" "isWrong" "Z") (by decide +kernel)) (fun _ h9 => h9) rfl dX7_readAll_186 ?_
              refine lv_if_ne (tgt := 196) hx hb dX7_readAll_189 (by decide) (fun c_189 => absurd c_189 (fun z => z rfl)) (fun c_189 => ?_)
              refine lv_iconst (v := 1) hx hb dX7_readAll_192 (by decide) ?_
              refine lv_goto (tgt := 197) hx hb dX7_readAll_193 (by decide) ?_
              refine lv_iand hx hb dX7_readAll_197 ?_
              rw [show (0 &&& 1 : Int32) = 0 from by decide]
              refine lv_istore_n (lv' := [(3, .int 0), (4, .int (nI j)), (2, .int (nI (gat M C).length)), (0, .ref h), (1, .int 0)]) hx hb dX7_readAll_198 rfl hl (by decide) rfl (fun ls hl => ?_)
              refine lv_goto (tgt := 33) hx hb dX7_readAll_199 (by decide) ?_
              exact ih33 0 j2 (ne + 1) 0 e9.1 rv2 e9.2.2 P _ _ ls (Or.inr ⟨rfl, Or.inl ⟨by rw [kAt_e hka hr9 hje], rfl⟩⟩) (by omega) hP hD hS (lv_sub hl [0, 2, 3, 4] rfl)
            · skip
              have hje : j2 < nT := kl (by omega) (by omega) c_148
              refine lv_iconst (v := 1) hx hb dX7_readAll_151 (by decide) ?_
              refine lv_goto (tgt := 156) hx hb dX7_readAll_152 (by decide) ?_
              refine lv_istore_n (lv' := [(3, .int 1), (4, .int (nI j)), (2, .int (nI (gat M C).length)), (0, .ref h), (1, .int 0)]) hx hb dX7_readAll_156 rfl hl (by decide) rfl (fun ls hl => ?_)
              refine lv_aload_n hx hb dX7_readAll_157 rfl (lv_at hl 3 rfl) ?_
              refine lv_dup hx hb dX7_readAll_158 rfl ?_
              refine va_get (D := g.1) (ci := 9) (v := .int 0) (C := RX7) (T := TX7) (N := 40) hx hb hts (by decide +kernel) hown hK hP 0 rfl rfl 27 (by decide) (hts (.fieldLink RX7 216 "LearnedIndexModel" "isWrong" "Z") (by decide +kernel)) (fun _ h9 => h9) rfl dX7_readAll_159 ?_
              refine lv_iload_n hx hb dX7_readAll_162 rfl (lv_at hl 0 rfl) ?_
              refine lv_if_eq (tgt := 179) hx hb dX7_readAll_163 (by decide) (fun c_163 => absurd c_163 (by decide)) (fun c_163 => ?_)
              refine lv_aload_n hx hb dX7_readAll_166 rfl (lv_at hl 3 rfl) ?_
              refine lv_bipush (v := 59) hx hb dX7_readAll_167 (by decide) ?_
              refine kcalli (wc := [(h, .inr (9, [.int zth, .int (nI nA), .int (nI nB), .ref ak, .ref av, .ref bk, .ref bv, .ref br, .ref a_s, .ref a_t, .int zsg, .ref g1, .ref g2, .ref g3, .long zl1, .long zl2, .long zl3, .long zl4, .int zpb, .ref pa, .ref ru, .ref tx, .int (nI nT), .int (nI j2), .int e9.1, .int rv2, .int (nI (ne + 1)), .int 0, .int e9.2.2, .int zrs, .int zis, .int zss, .int zsc, .ref dk, .ref dv, .ref ek, .ref ev, .ref er, .ref es, .ref et])), (tx, .inl (g.2.1.2.1, 100, .inl tT))]) [0, 6] (va_runV (C := RX7) (As := [.int 59]) (rest := [.int 0, .ref h]) ⟨hx, hb, hml, hown, hts⟩ ((c_X7_passes0 l g h zth (nI nA) (nI nB) zsg zl1 zl2 zl3 zl4 zpb e9.1 rv2 (nI (ne + 1)) e9.2.2 zrs zis zss zsc ak av bk bv br a_s a_t g1 g2 g3 pa ru tx dk dv ek ev er es et nT j2 tT 59 hn hjl.2 (by decide)) _) (cwV 1 hts gX7_readAll_X7_passes rfl rfl rfl (by decide +kernel) ⟨Nat.le_of_ble_eq_true rfl, Nat.le_of_ble_eq_true rfl⟩) (kpreV (wc := [(h, .inr (9, [.int zth, .int (nI nA), .int (nI nB), .ref ak, .ref av, .ref bk, .ref bv, .ref br, .ref a_s, .ref a_t, .int zsg, .ref g1, .ref g2, .ref g3, .long zl1, .long zl2, .long zl3, .long zl4, .int zpb, .ref pa, .ref ru, .ref tx, .int (nI nT), .int (nI j2), .int e9.1, .int rv2, .int (nI (ne + 1)), .int 0, .int e9.2.2, .int zrs, .int zis, .int zss, .int zsc, .ref dk, .ref dv, .ref ek, .ref ev, .ref er, .ref es, .ref et])), (tx, .inl (g.2.1.2.1, 100, .inl tT))]) (ci := 9) hK hP hD hS hA hE [0, 6] rfl rfl rfl rfl) rfl rfl hl.1 rfl (lv_room (Nat.le_of_ble_eq_true rfl)) dX7_readAll_169 ⟨Nat.zero_le _, Nat.zero_le _⟩) hP hD hS hA rfl (fun r_5 w_5 H locs hp hP hD hS => ?_)
              obtain ⟨rfl, rfl⟩ := hp
              have hP : va_P g.1 vwCl [(h, .inr (9, [.int zth, .int (nI nA), .int (nI nB), .ref ak, .ref av, .ref bk, .ref bv, .ref br, .ref a_s, .ref a_t, .int zsg, .ref g1, .ref g2, .ref g3, .long zl1, .long zl2, .long zl3, .long zl4, .int zpb, .ref pa, .ref ru, .ref tx, .int (nI nT), .int (nI (if ch tT nT j2 = 59 then j2 + 1 else j2)), .int e9.1, .int rv2, .int (nI (ne + 1)), .int 0, .int e9.2.2, .int zrs, .int zis, .int zss, .int zsc, .ref dk, .ref dv, .ref ek, .ref ev, .ref er, .ref es, .ref et])), (ak, .inl (g.2.1.1, 152, .inl fk)), (av, .inl (g.2.1.1, 152, .inl fv)), (bk, .inl (g.2.1.1, 24, .inl ck)), (bv, .inl (g.2.1.1, 24, .inl cv)), (br, .inl (g.2.1.1, 24, .inl cr)), (tx, .inl (g.2.1.2.1, 100, .inl tT))] H := hP
              have hD : va_D A [(h, .inr (9, [.int zth, .int (nI nA), .int (nI nB), .ref ak, .ref av, .ref bk, .ref bv, .ref br, .ref a_s, .ref a_t, .int zsg, .ref g1, .ref g2, .ref g3, .long zl1, .long zl2, .long zl3, .long zl4, .int zpb, .ref pa, .ref ru, .ref tx, .int (nI nT), .int (nI (if ch tT nT j2 = 59 then j2 + 1 else j2)), .int e9.1, .int rv2, .int (nI (ne + 1)), .int 0, .int e9.2.2, .int zrs, .int zis, .int zss, .int zsc, .ref dk, .ref dv, .ref ek, .ref ev, .ref er, .ref es, .ref et])), (ak, .inl (g.2.1.1, 152, .inl fk)), (av, .inl (g.2.1.1, 152, .inl fv)), (bk, .inl (g.2.1.1, 24, .inl ck)), (bv, .inl (g.2.1.1, 24, .inl cv)), (br, .inl (g.2.1.1, 24, .inl cr)), (tx, .inl (g.2.1.2.1, 100, .inl tT))] := hD
              by_cases f9 : ch tT nT j2 = 59
              · skip
                rw [if_pos f9] at hP hD
                have hP : va_P g.1 vwCl [(h, .inr (9, [.int zth, .int (nI nA), .int (nI nB), .ref ak, .ref av, .ref bk, .ref bv, .ref br, .ref a_s, .ref a_t, .int zsg, .ref g1, .ref g2, .ref g3, .long zl1, .long zl2, .long zl3, .long zl4, .int zpb, .ref pa, .ref ru, .ref tx, .int (nI nT), .int (nI (j2 + 1)), .int e9.1, .int rv2, .int (nI (ne + 1)), .int 0, .int e9.2.2, .int zrs, .int zis, .int zss, .int zsc, .ref dk, .ref dv, .ref ek, .ref ev, .ref er, .ref es, .ref et])), (ak, .inl (g.2.1.1, 152, .inl fk)), (av, .inl (g.2.1.1, 152, .inl fv)), (bk, .inl (g.2.1.1, 24, .inl ck)), (bv, .inl (g.2.1.1, 24, .inl cv)), (br, .inl (g.2.1.1, 24, .inl cr)), (tx, .inl (g.2.1.2.1, 100, .inl tT))] H := hP
                have hD : va_D A [(h, .inr (9, [.int zth, .int (nI nA), .int (nI nB), .ref ak, .ref av, .ref bk, .ref bv, .ref br, .ref a_s, .ref a_t, .int zsg, .ref g1, .ref g2, .ref g3, .long zl1, .long zl2, .long zl3, .long zl4, .int zpb, .ref pa, .ref ru, .ref tx, .int (nI nT), .int (nI (j2 + 1)), .int e9.1, .int rv2, .int (nI (ne + 1)), .int 0, .int e9.2.2, .int zrs, .int zis, .int zss, .int zsc, .ref dk, .ref dv, .ref ek, .ref ev, .ref er, .ref es, .ref et])), (ak, .inl (g.2.1.1, 152, .inl fk)), (av, .inl (g.2.1.1, 152, .inl fv)), (bk, .inl (g.2.1.1, 24, .inl ck)), (bv, .inl (g.2.1.1, 24, .inl cv)), (br, .inl (g.2.1.1, 24, .inl cr)), (tx, .inl (g.2.1.2.1, 100, .inl tT))] := hD
                rw [show (kbool (decide (ch tT nT j2 = 59)) : Int32) = 1 from by rw [decide_eq_true f9]; rfl]
                refine lv_if_ne (tgt := 179) hx hb dX7_readAll_172 (by decide) (fun c_172 => ?_) (fun c_172 => absurd c_172 (by decide))
                refine lv_iconst (v := 0) hx hb dX7_readAll_179 (by decide) ?_
                refine lv_ior hx hb dX7_readAll_180 ?_
                rw [show (0 ||| 0 : Int32) = 0 from by decide]
                refine va_put (D := g.1) (ci := 9) (v := .int 0) (ty := .boolean) (C := RX7) (T := TX7) (N := 40) hx hb hts (by decide +kernel) tyX7 tyX7_ok nmX7 hown hK hP hD hS 0 rfl rfl 27 (by decide) (hts (.fieldLink RX7 216 "LearnedIndexModel" "isWrong" "Z") (by decide +kernel)) (fun _ h9 => h9) rfl (by decide +kernel) rfl rfl (Nat.le_of_ble_eq_true rfl) dX7_readAll_181 (fun H locs hP hD hS => ?_)
                have hP : va_P g.1 vwCl [(h, .inr (9, [.int zth, .int (nI nA), .int (nI nB), .ref ak, .ref av, .ref bk, .ref bv, .ref br, .ref a_s, .ref a_t, .int zsg, .ref g1, .ref g2, .ref g3, .long zl1, .long zl2, .long zl3, .long zl4, .int zpb, .ref pa, .ref ru, .ref tx, .int (nI nT), .int (nI (j2 + 1)), .int e9.1, .int rv2, .int (nI (ne + 1)), .int 0, .int e9.2.2, .int zrs, .int zis, .int zss, .int zsc, .ref dk, .ref dv, .ref ek, .ref ev, .ref er, .ref es, .ref et])), (ak, .inl (g.2.1.1, 152, .inl fk)), (av, .inl (g.2.1.1, 152, .inl fv)), (bk, .inl (g.2.1.1, 24, .inl ck)), (bv, .inl (g.2.1.1, 24, .inl cv)), (br, .inl (g.2.1.1, 24, .inl cr)), (tx, .inl (g.2.1.2.1, 100, .inl tT))] H := hP
                have hD : va_D A [(h, .inr (9, [.int zth, .int (nI nA), .int (nI nB), .ref ak, .ref av, .ref bk, .ref bv, .ref br, .ref a_s, .ref a_t, .int zsg, .ref g1, .ref g2, .ref g3, .long zl1, .long zl2, .long zl3, .long zl4, .int zpb, .ref pa, .ref ru, .ref tx, .int (nI nT), .int (nI (j2 + 1)), .int e9.1, .int rv2, .int (nI (ne + 1)), .int 0, .int e9.2.2, .int zrs, .int zis, .int zss, .int zsc, .ref dk, .ref dv, .ref ek, .ref ev, .ref er, .ref es, .ref et])), (ak, .inl (g.2.1.1, 152, .inl fk)), (av, .inl (g.2.1.1, 152, .inl fv)), (bk, .inl (g.2.1.1, 24, .inl ck)), (bv, .inl (g.2.1.1, 24, .inl cv)), (br, .inl (g.2.1.1, 24, .inl cr)), (tx, .inl (g.2.1.2.1, 100, .inl tT))] := hD
                refine lv_iload_n hx hb dX7_readAll_184 rfl (lv_at hl 0 rfl) ?_
                refine lv_aload_n hx hb dX7_readAll_185 rfl (lv_at hl 3 rfl) ?_
                refine va_get (D := g.1) (ci := 9) (v := .int 0) (C := RX7) (T := TX7) (N := 40) hx hb hts (by decide +kernel) hown hK hP 0 rfl rfl 27 (by decide) (hts (.fieldLink RX7 216 "LearnedIndexModel" "isWrong" "Z") (by decide +kernel)) (fun _ h9 => h9) rfl dX7_readAll_186 ?_
                refine lv_if_ne (tgt := 196) hx hb dX7_readAll_189 (by decide) (fun c_189 => absurd c_189 (fun z => z rfl)) (fun c_189 => ?_)
                refine lv_iconst (v := 1) hx hb dX7_readAll_192 (by decide) ?_
                refine lv_goto (tgt := 197) hx hb dX7_readAll_193 (by decide) ?_
                refine lv_iand hx hb dX7_readAll_197 ?_
                rw [show (1 &&& 1 : Int32) = 1 from by decide]
                refine lv_istore_n (lv' := [(3, .int 1), (4, .int (nI j)), (2, .int (nI (gat M C).length)), (0, .ref h), (1, .int 0)]) hx hb dX7_readAll_198 rfl hl (by decide) rfl (fun ls hl => ?_)
                refine lv_goto (tgt := 33) hx hb dX7_readAll_199 (by decide) ?_
                exact ih33 1 (j2 + 1) (ne + 1) 0 e9.1 rv2 e9.2.2 (P ++ [e9]) _ _ ls (Or.inl ⟨rfl, rfl, kAt_s hn hka hr9 hje f9⟩) (by omega) hP hD hS (lv_sub hl [0, 2, 3, 4] rfl)
              · skip
                rw [if_neg f9] at hP hD
                have hP : va_P g.1 vwCl [(h, .inr (9, [.int zth, .int (nI nA), .int (nI nB), .ref ak, .ref av, .ref bk, .ref bv, .ref br, .ref a_s, .ref a_t, .int zsg, .ref g1, .ref g2, .ref g3, .long zl1, .long zl2, .long zl3, .long zl4, .int zpb, .ref pa, .ref ru, .ref tx, .int (nI nT), .int (nI j2), .int e9.1, .int rv2, .int (nI (ne + 1)), .int 0, .int e9.2.2, .int zrs, .int zis, .int zss, .int zsc, .ref dk, .ref dv, .ref ek, .ref ev, .ref er, .ref es, .ref et])), (ak, .inl (g.2.1.1, 152, .inl fk)), (av, .inl (g.2.1.1, 152, .inl fv)), (bk, .inl (g.2.1.1, 24, .inl ck)), (bv, .inl (g.2.1.1, 24, .inl cv)), (br, .inl (g.2.1.1, 24, .inl cr)), (tx, .inl (g.2.1.2.1, 100, .inl tT))] H := hP
                have hD : va_D A [(h, .inr (9, [.int zth, .int (nI nA), .int (nI nB), .ref ak, .ref av, .ref bk, .ref bv, .ref br, .ref a_s, .ref a_t, .int zsg, .ref g1, .ref g2, .ref g3, .long zl1, .long zl2, .long zl3, .long zl4, .int zpb, .ref pa, .ref ru, .ref tx, .int (nI nT), .int (nI j2), .int e9.1, .int rv2, .int (nI (ne + 1)), .int 0, .int e9.2.2, .int zrs, .int zis, .int zss, .int zsc, .ref dk, .ref dv, .ref ek, .ref ev, .ref er, .ref es, .ref et])), (ak, .inl (g.2.1.1, 152, .inl fk)), (av, .inl (g.2.1.1, 152, .inl fv)), (bk, .inl (g.2.1.1, 24, .inl ck)), (bv, .inl (g.2.1.1, 24, .inl cv)), (br, .inl (g.2.1.1, 24, .inl cr)), (tx, .inl (g.2.1.2.1, 100, .inl tT))] := hD
                rw [show (kbool (decide (ch tT nT j2 = 59)) : Int32) = 0 from by rw [decide_eq_false f9]; rfl]
                refine lv_if_ne (tgt := 179) hx hb dX7_readAll_172 (by decide) (fun c_172 => absurd c_172 (fun z => z rfl)) (fun c_172 => ?_)
                refine lv_iconst (v := 1) hx hb dX7_readAll_175 (by decide) ?_
                refine lv_goto (tgt := 180) hx hb dX7_readAll_176 (by decide) ?_
                refine lv_ior hx hb dX7_readAll_180 ?_
                rw [show (0 ||| 1 : Int32) = 1 from by decide]
                refine va_put (D := g.1) (ci := 9) (v := .int 1) (ty := .boolean) (C := RX7) (T := TX7) (N := 40) hx hb hts (by decide +kernel) tyX7 tyX7_ok nmX7 hown hK hP hD hS 0 rfl rfl 27 (by decide) (hts (.fieldLink RX7 216 "LearnedIndexModel" "isWrong" "Z") (by decide +kernel)) (fun _ h9 => h9) rfl (by decide +kernel) rfl rfl (Nat.le_of_ble_eq_true rfl) dX7_readAll_181 (fun H locs hP hD hS => ?_)
                have hP : va_P g.1 vwCl [(h, .inr (9, [.int zth, .int (nI nA), .int (nI nB), .ref ak, .ref av, .ref bk, .ref bv, .ref br, .ref a_s, .ref a_t, .int zsg, .ref g1, .ref g2, .ref g3, .long zl1, .long zl2, .long zl3, .long zl4, .int zpb, .ref pa, .ref ru, .ref tx, .int (nI nT), .int (nI j2), .int e9.1, .int rv2, .int (nI (ne + 1)), .int 1, .int e9.2.2, .int zrs, .int zis, .int zss, .int zsc, .ref dk, .ref dv, .ref ek, .ref ev, .ref er, .ref es, .ref et])), (ak, .inl (g.2.1.1, 152, .inl fk)), (av, .inl (g.2.1.1, 152, .inl fv)), (bk, .inl (g.2.1.1, 24, .inl ck)), (bv, .inl (g.2.1.1, 24, .inl cv)), (br, .inl (g.2.1.1, 24, .inl cr)), (tx, .inl (g.2.1.2.1, 100, .inl tT))] H := hP
                have hD : va_D A [(h, .inr (9, [.int zth, .int (nI nA), .int (nI nB), .ref ak, .ref av, .ref bk, .ref bv, .ref br, .ref a_s, .ref a_t, .int zsg, .ref g1, .ref g2, .ref g3, .long zl1, .long zl2, .long zl3, .long zl4, .int zpb, .ref pa, .ref ru, .ref tx, .int (nI nT), .int (nI j2), .int e9.1, .int rv2, .int (nI (ne + 1)), .int 1, .int e9.2.2, .int zrs, .int zis, .int zss, .int zsc, .ref dk, .ref dv, .ref ek, .ref ev, .ref er, .ref es, .ref et])), (ak, .inl (g.2.1.1, 152, .inl fk)), (av, .inl (g.2.1.1, 152, .inl fv)), (bk, .inl (g.2.1.1, 24, .inl ck)), (bv, .inl (g.2.1.1, 24, .inl cv)), (br, .inl (g.2.1.1, 24, .inl cr)), (tx, .inl (g.2.1.2.1, 100, .inl tT))] := hD
                refine lv_iload_n hx hb dX7_readAll_184 rfl (lv_at hl 0 rfl) ?_
                refine lv_aload_n hx hb dX7_readAll_185 rfl (lv_at hl 3 rfl) ?_
                refine va_get (D := g.1) (ci := 9) (v := .int 1) (C := RX7) (T := TX7) (N := 40) hx hb hts (by decide +kernel) hown hK hP 0 rfl rfl 27 (by decide) (hts (.fieldLink RX7 216 "LearnedIndexModel" "isWrong" "Z") (by decide +kernel)) (fun _ h9 => h9) rfl dX7_readAll_186 ?_
                refine lv_if_ne (tgt := 196) hx hb dX7_readAll_189 (by decide) (fun c_189 => ?_) (fun c_189 => absurd c_189 (by decide))
                refine lv_iconst (v := 0) hx hb dX7_readAll_196 (by decide) ?_
                refine lv_iand hx hb dX7_readAll_197 ?_
                rw [show (1 &&& 0 : Int32) = 0 from by decide]
                refine lv_istore_n (lv' := [(3, .int 0), (4, .int (nI j)), (2, .int (nI (gat M C).length)), (0, .ref h), (1, .int 0)]) hx hb dX7_readAll_198 rfl hl (by decide) rfl (fun ls hl => ?_)
                refine lv_goto (tgt := 33) hx hb dX7_readAll_199 (by decide) ?_
                exact ih33 0 j2 (ne + 1) 1 e9.1 rv2 e9.2.2 P _ _ ls (Or.inr ⟨rfl, Or.inr ⟨(kAt_f hn hka hr9 hje f9).1, rfl, (kAt_f hn hka hr9 hje f9).2⟩⟩) (by omega) hP hD hS (lv_sub hl [0, 2, 3, 4] rfl)
          · skip
            obtain ⟨hr9, hz9⟩ : rE tT nT j = (j2, none) ∧ zw2 = 1 := hEn.elim id (fun ⟨e, z⟩ => by exfalso; exact fe (by rw [z.1]; rfl))
            have hjl : j ≤ j2 ∧ j2 ≤ nT := by have h7 := rE_le (T := tT) (n := nT) (i := j) hka.2.1.2; rw [hr9] at h7; exact ⟨h7.1, h7.2.1⟩
            rw [hz9] at hP hD
            have hP : va_P g.1 vwCl [(h, .inr (9, [.int zth, .int (nI nA), .int (nI nB), .ref ak, .ref av, .ref bk, .ref bv, .ref br, .ref a_s, .ref a_t, .int zsg, .ref g1, .ref g2, .ref g3, .long zl1, .long zl2, .long zl3, .long zl4, .int zpb, .ref pa, .ref ru, .ref tx, .int (nI nT), .int (nI j2), .int rk2, .int rv2, .int (nI ne), .int 1, .int rm2, .int zrs, .int zis, .int zss, .int zsc, .ref dk, .ref dv, .ref ek, .ref ev, .ref er, .ref es, .ref et])), (ak, .inl (g.2.1.1, 152, .inl fk)), (av, .inl (g.2.1.1, 152, .inl fv)), (bk, .inl (g.2.1.1, 24, .inl ck)), (bv, .inl (g.2.1.1, 24, .inl cv)), (br, .inl (g.2.1.1, 24, .inl cr)), (tx, .inl (g.2.1.2.1, 100, .inl tT))] H := hP
            have hD : va_D A [(h, .inr (9, [.int zth, .int (nI nA), .int (nI nB), .ref ak, .ref av, .ref bk, .ref bv, .ref br, .ref a_s, .ref a_t, .int zsg, .ref g1, .ref g2, .ref g3, .long zl1, .long zl2, .long zl3, .long zl4, .int zpb, .ref pa, .ref ru, .ref tx, .int (nI nT), .int (nI j2), .int rk2, .int rv2, .int (nI ne), .int 1, .int rm2, .int zrs, .int zis, .int zss, .int zsc, .ref dk, .ref dv, .ref ek, .ref ev, .ref er, .ref es, .ref et])), (ak, .inl (g.2.1.1, 152, .inl fk)), (av, .inl (g.2.1.1, 152, .inl fv)), (bk, .inl (g.2.1.1, 24, .inl ck)), (bv, .inl (g.2.1.1, 24, .inl cv)), (br, .inl (g.2.1.1, 24, .inl cr)), (tx, .inl (g.2.1.2.1, 100, .inl tT))] := hD
            refine lv_aload_n hx hb dX7_readAll_47 rfl (lv_at hl 3 rfl) ?_
            refine lv_dup hx hb dX7_readAll_48 rfl ?_
            refine va_get (D := g.1) (ci := 9) (v := .int (nI ne)) (C := RX7) (T := TX7) (N := 40) hx hb hts (by decide +kernel) hown hK hP 0 rfl rfl 26 (by decide) (hts (.fieldLink RX7 243 "LearnedIndexModel" "readEntries" "I") (by decide +kernel)) (fun _ h9 => h9) rfl dX7_readAll_49 ?_
            refine lv_iconst (v := 1) hx hb dX7_readAll_52 (by decide) ?_
            refine lv_iadd hx hb dX7_readAll_53 ?_
            rw [show (nI ne) + 1 = nI (ne + 1) from nI_1 ne]
            refine va_put (D := g.1) (ci := 9) (v := .int (nI (ne + 1))) (ty := .int) (C := RX7) (T := TX7) (N := 40) hx hb hts (by decide +kernel) tyX7 tyX7_ok nmX7 hown hK hP hD hS 0 rfl rfl 26 (by decide) (hts (.fieldLink RX7 243 "LearnedIndexModel" "readEntries" "I") (by decide +kernel)) (fun _ h9 => h9) rfl (by decide +kernel) rfl rfl (Nat.le_of_ble_eq_true rfl) dX7_readAll_54 (fun H locs hP hD hS => ?_)
            have hP : va_P g.1 vwCl [(h, .inr (9, [.int zth, .int (nI nA), .int (nI nB), .ref ak, .ref av, .ref bk, .ref bv, .ref br, .ref a_s, .ref a_t, .int zsg, .ref g1, .ref g2, .ref g3, .long zl1, .long zl2, .long zl3, .long zl4, .int zpb, .ref pa, .ref ru, .ref tx, .int (nI nT), .int (nI j2), .int rk2, .int rv2, .int (nI (ne + 1)), .int 1, .int rm2, .int zrs, .int zis, .int zss, .int zsc, .ref dk, .ref dv, .ref ek, .ref ev, .ref er, .ref es, .ref et])), (ak, .inl (g.2.1.1, 152, .inl fk)), (av, .inl (g.2.1.1, 152, .inl fv)), (bk, .inl (g.2.1.1, 24, .inl ck)), (bv, .inl (g.2.1.1, 24, .inl cv)), (br, .inl (g.2.1.1, 24, .inl cr)), (tx, .inl (g.2.1.2.1, 100, .inl tT))] H := hP
            have hD : va_D A [(h, .inr (9, [.int zth, .int (nI nA), .int (nI nB), .ref ak, .ref av, .ref bk, .ref bv, .ref br, .ref a_s, .ref a_t, .int zsg, .ref g1, .ref g2, .ref g3, .long zl1, .long zl2, .long zl3, .long zl4, .int zpb, .ref pa, .ref ru, .ref tx, .int (nI nT), .int (nI j2), .int rk2, .int rv2, .int (nI (ne + 1)), .int 1, .int rm2, .int zrs, .int zis, .int zss, .int zsc, .ref dk, .ref dv, .ref ek, .ref ev, .ref er, .ref es, .ref et])), (ak, .inl (g.2.1.1, 152, .inl fk)), (av, .inl (g.2.1.1, 152, .inl fv)), (bk, .inl (g.2.1.1, 24, .inl ck)), (bv, .inl (g.2.1.1, 24, .inl cv)), (br, .inl (g.2.1.1, 24, .inl cr)), (tx, .inl (g.2.1.2.1, 100, .inl tT))] := hD
            refine lv_iload_n hx hb dX7_readAll_57 rfl (lv_at hl 4 rfl) ?_
            refine lv_iconst (v := 1) hx hb dX7_readAll_58 (by decide) ?_
            refine lv_icmp_ne (tgt := 124) hx hb dX7_readAll_59 (by decide) (fun c_59 => ?_) (fun c_59 => absurd c_59 (by decide))
            refine lv_iload_n hx hb dX7_readAll_124 rfl (lv_at hl 4 rfl) ?_
            refine lv_iconst (v := 2) hx hb dX7_readAll_125 (by decide) ?_
            refine lv_icmp_ne (tgt := 133) hx hb dX7_readAll_126 (by decide) (fun c_126 => ?_) (fun c_126 => absurd c_126 (by decide))
            refine lv_aload_n hx hb dX7_readAll_133 rfl (lv_at hl 3 rfl) ?_
            refine va_get (D := g.1) (ci := 9) (v := .int 1) (C := RX7) (T := TX7) (N := 40) hx hb hts (by decide +kernel) hown hK hP 0 rfl rfl 27 (by decide) (hts (.fieldLink RX7 216 "LearnedIndexModel" "isWrong" "Z") (by decide +kernel)) (fun _ h9 => h9) rfl dX7_readAll_134 ?_
            refine lv_if_ne (tgt := 155) hx hb dX7_readAll_137 (by decide) (fun c_137 => ?_) (fun c_137 => absurd c_137 (by decide))
            refine lv_iconst (v := 0) hx hb dX7_readAll_155 (by decide) ?_
            refine lv_istore_n (lv' := [(3, .int 0), (4, .int (nI j)), (2, .int (nI (gat M C).length)), (0, .ref h), (1, .int 0)]) hx hb dX7_readAll_156 rfl hl (by decide) rfl (fun ls hl => ?_)
            refine lv_aload_n hx hb dX7_readAll_157 rfl (lv_at hl 3 rfl) ?_
            refine lv_dup hx hb dX7_readAll_158 rfl ?_
            refine va_get (D := g.1) (ci := 9) (v := .int 1) (C := RX7) (T := TX7) (N := 40) hx hb hts (by decide +kernel) hown hK hP 0 rfl rfl 27 (by decide) (hts (.fieldLink RX7 216 "LearnedIndexModel" "isWrong" "Z") (by decide +kernel)) (fun _ h9 => h9) rfl dX7_readAll_159 ?_
            refine lv_iload_n hx hb dX7_readAll_162 rfl (lv_at hl 0 rfl) ?_
            refine lv_if_eq (tgt := 179) hx hb dX7_readAll_163 (by decide) (fun c_163 => ?_) (fun c_163 => absurd (by decide) c_163)
            refine lv_iconst (v := 0) hx hb dX7_readAll_179 (by decide) ?_
            refine lv_ior hx hb dX7_readAll_180 ?_
            rw [show (1 ||| 0 : Int32) = 1 from by decide]
            refine va_put (D := g.1) (ci := 9) (v := .int 1) (ty := .boolean) (C := RX7) (T := TX7) (N := 40) hx hb hts (by decide +kernel) tyX7 tyX7_ok nmX7 hown hK hP hD hS 0 rfl rfl 27 (by decide) (hts (.fieldLink RX7 216 "LearnedIndexModel" "isWrong" "Z") (by decide +kernel)) (fun _ h9 => h9) rfl (by decide +kernel) rfl rfl (Nat.le_of_ble_eq_true rfl) dX7_readAll_181 (fun H locs hP hD hS => ?_)
            have hP : va_P g.1 vwCl [(h, .inr (9, [.int zth, .int (nI nA), .int (nI nB), .ref ak, .ref av, .ref bk, .ref bv, .ref br, .ref a_s, .ref a_t, .int zsg, .ref g1, .ref g2, .ref g3, .long zl1, .long zl2, .long zl3, .long zl4, .int zpb, .ref pa, .ref ru, .ref tx, .int (nI nT), .int (nI j2), .int rk2, .int rv2, .int (nI (ne + 1)), .int 1, .int rm2, .int zrs, .int zis, .int zss, .int zsc, .ref dk, .ref dv, .ref ek, .ref ev, .ref er, .ref es, .ref et])), (ak, .inl (g.2.1.1, 152, .inl fk)), (av, .inl (g.2.1.1, 152, .inl fv)), (bk, .inl (g.2.1.1, 24, .inl ck)), (bv, .inl (g.2.1.1, 24, .inl cv)), (br, .inl (g.2.1.1, 24, .inl cr)), (tx, .inl (g.2.1.2.1, 100, .inl tT))] H := hP
            have hD : va_D A [(h, .inr (9, [.int zth, .int (nI nA), .int (nI nB), .ref ak, .ref av, .ref bk, .ref bv, .ref br, .ref a_s, .ref a_t, .int zsg, .ref g1, .ref g2, .ref g3, .long zl1, .long zl2, .long zl3, .long zl4, .int zpb, .ref pa, .ref ru, .ref tx, .int (nI nT), .int (nI j2), .int rk2, .int rv2, .int (nI (ne + 1)), .int 1, .int rm2, .int zrs, .int zis, .int zss, .int zsc, .ref dk, .ref dv, .ref ek, .ref ev, .ref er, .ref es, .ref et])), (ak, .inl (g.2.1.1, 152, .inl fk)), (av, .inl (g.2.1.1, 152, .inl fv)), (bk, .inl (g.2.1.1, 24, .inl ck)), (bv, .inl (g.2.1.1, 24, .inl cv)), (br, .inl (g.2.1.1, 24, .inl cr)), (tx, .inl (g.2.1.2.1, 100, .inl tT))] := hD
            refine lv_iload_n hx hb dX7_readAll_184 rfl (lv_at hl 0 rfl) ?_
            refine lv_aload_n hx hb dX7_readAll_185 rfl (lv_at hl 3 rfl) ?_
            refine va_get (D := g.1) (ci := 9) (v := .int 1) (C := RX7) (T := TX7) (N := 40) hx hb hts (by decide +kernel) hown hK hP 0 rfl rfl 27 (by decide) (hts (.fieldLink RX7 216 "LearnedIndexModel" "isWrong" "Z") (by decide +kernel)) (fun _ h9 => h9) rfl dX7_readAll_186 ?_
            refine lv_if_ne (tgt := 196) hx hb dX7_readAll_189 (by decide) (fun c_189 => ?_) (fun c_189 => absurd c_189 (by decide))
            refine lv_iconst (v := 0) hx hb dX7_readAll_196 (by decide) ?_
            refine lv_iand hx hb dX7_readAll_197 ?_
            rw [show (0 &&& 0 : Int32) = 0 from by decide]
            refine lv_istore_n (lv' := [(3, .int 0), (4, .int (nI j)), (2, .int (nI (gat M C).length)), (0, .ref h), (1, .int 0)]) hx hb dX7_readAll_198 rfl hl (by decide) rfl (fun ls hl => ?_)
            refine lv_goto (tgt := 33) hx hb dX7_readAll_199 (by decide) ?_
            exact ih33 0 j2 (ne + 1) 1 rk2 rv2 rm2 P _ _ ls (Or.inr ⟨rfl, Or.inr ⟨(kAt_n hka hr9).1, rfl, (kAt_n hka hr9).2⟩⟩) (by omega) hP hD hS (lv_sub hl [0, 2, 3, 4] rfl)
    exact L33 _ 1 0 0 0 zrk zrv zrm ([] : List kE3) _ _ ls (by first | exact Or.inl ⟨rfl, rfl, kAt_0 hn0⟩ | exact Or.inr ⟨rfl, Or.inl ⟨hp0, rfl⟩⟩) (Nat.lt_succ_self _) hP hD hS (lv_sub hl [0, 1, 2, 3] rfl)
