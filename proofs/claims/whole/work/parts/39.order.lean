/-! ===== the model: order statistics and sums ===== -/
theorem sum_put (f : kE3 → Int) : ∀ (L : List kE3) (e : kE3), kSo L → ((kput e L).map f).sum = f e + (L.map (fun d => if d.1 = e.1 then 0 else f d)).sum
  | [], e, _ => by simp [kput]
  | a :: L, e, h => by
    obtain ⟨h1, h2⟩ := kSo_c h
    rw [kput]
    by_cases c : a.1 < e.1
    · rw [if_pos c, List.map_cons, List.sum_cons, sum_put f L e h2, List.map_cons, List.sum_cons, if_neg (k_ne c)]; omega
    · rw [if_neg c]
      have hr : ∀ d ∈ L, ¬ d.1 = e.1 := by
        intro d hd z
        have h5 := h1 d hd
        rw [z] at h5
        exact c h5
      have hm : L.map (fun d => if d.1 = e.1 then 0 else f d) = L.map f := List.map_congr_left (fun d hd => if_neg (hr d hd))
      by_cases c2 : a.1 = e.1
      · rw [if_pos c2, List.map_cons, List.sum_cons, List.map_cons, List.sum_cons, if_pos c2, hm]; omega
      · rw [if_neg c2, List.map_cons, List.sum_cons, List.map_cons, List.sum_cons, List.map_cons, List.sum_cons, if_neg c2, hm]
theorem sum_flt (f : kE3 → Int) (x : Int32) : ∀ (L : List kE3), ((L.filter (fun d => decide (¬ d.1 = x))).map f).sum = (L.map (fun d => if d.1 = x then 0 else f d)).sum
  | [] => rfl
  | a :: L => by
    by_cases c : a.1 = x
    · rw [List.filter_cons_of_neg (by simp [c]), sum_flt f x L, List.map_cons, List.sum_cons, if_pos c]; omega
    · rw [List.filter_cons_of_pos (by simp [c]), List.map_cons, List.sum_cons, sum_flt f x L, List.map_cons, List.sum_cons, if_neg c]
def sgA (g : Int32 → Int32 → Int) (C : List kE3) (m : kE3) : Int := if (lkp C m.1).isSome then 0 else g m.1 m.2.1
def sgB (g : Int32 → Int32 → Int) (c : kE3) : Int := if c.2.2 = 1 then 0 else g c.1 c.2.1
theorem gat_sum (g : Int32 → Int32 → Int) : ∀ (C M : List kE3), kSo M → kSo C → (∀ m ∈ M, m.2.2 = 0) → ((gat M C).map (fun e => g e.1 e.2.1)).sum = (M.map (sgA g C)).sum + (C.map (sgB g)).sum
  | [], M, h1, h2, hz => by
    rw [gat_nilC M hz, List.map_nil, List.sum_nil, Int.add_zero]
    congr 1
  | c :: C, M, h1, h2, hz => by
    have hg : gat M (c :: C) = gat (appG M c) C := by
      rw [← fold_gat h1 h2 hz, ← fold_gat (appG_so c h1) (kSo_c h2).2 (appG_z hz)]; rfl
    have hn : lkp C c.1 = none := lkp_gt (kSo_c h2).1
    have hA : ∀ m : kE3, sgA g (c :: C) m = if m.1 = c.1 then 0 else sgA g C m := by
      intro m
      unfold sgA
      rw [lkp_cons]
      by_cases z : c.1 = m.1
      · rw [if_pos z, if_pos z.symm]; rfl
      · rw [if_neg z]; exact (if_neg (fun y => z y.symm)).symm
    rw [hg, gat_sum g C (appG M c) (appG_so c h1) (kSo_c h2).2 (appG_z hz), List.map_cons, List.sum_cons]
    have hm : M.map (sgA g (c :: C)) = M.map (fun d => if d.1 = c.1 then 0 else sgA g C d) := List.map_congr_left (fun d _ => hA d)
    rw [hm]
    unfold appG
    by_cases e : c.2.2 = 1
    · rw [if_pos e, sum_flt, show sgB g c = 0 from if_pos e]; omega
    · rw [if_neg e, sum_put _ _ _ h1, show sgB g c = g c.1 c.2.1 from if_neg e, show sgA g C (c.1, c.2.1, 0) = g c.1 c.2.1 by unfold sgA; simp only; rw [hn]; rfl]; dsimp only; omega
theorem kIa0 (X : Int) : kI X + 0 = kI (X + 0) := kI_add X 0
theorem kIa1 (X : Int) : kI X + 1 = kI (X + 1) := kI_add X 1
theorem kLa0 (X : Int) : kL X + 0 = kL (X + 0) := kL_add X 0
def gLt (x : Int32) : Int32 → Int32 → Int := fun k _ => if k < x then 1 else 0
def gRg (lo hi : Int32) : Int32 → Int32 → Int := fun k v => if lo ≤ k ∧ k ≤ hi then v.toInt else 0
theorem rnk_sum (x : Int32) : ∀ G : List kE3, ((rnkS G x : Nat) : Int) = (G.map (fun e => gLt x e.1 e.2.1)).sum
  | [] => rfl
  | a :: G => by
    rw [List.map_cons, List.sum_cons, ← rnk_sum x G, rnkS, rnkS]
    by_cases c : a.1 < x
    · rw [List.filter_cons_of_pos (by simpa using c), List.length_cons, gLt, if_pos c]; push_cast; omega
    · rw [List.filter_cons_of_neg (by simpa using c), gLt, if_neg c]; omega
theorem sum_fold (lo hi : Int32) : ∀ (G : List kE3) (a : Int), G.foldl (fun a e => if lo ≤ e.1 ∧ e.1 ≤ hi then a + e.2.1.toInt64 else a) (kL a) = kL (a + (G.map (fun e => gRg lo hi e.1 e.2.1)).sum)
  | [], a => by simp
  | d :: G, a => by
    rw [List.foldl_cons, List.map_cons, List.sum_cons]
    by_cases c : lo ≤ d.1 ∧ d.1 ≤ hi
    · rw [if_pos c, show d.2.1.toInt64 = kL d.2.1.toInt from by have h1 := Int32.toInt_lt d.2.1; have h2 := Int32.le_toInt d.2.1; conv => lhs; rw [kI_of d.2.1]; rw [kL_I (by omega) (by omega)], kL_add, sum_fold lo hi G, gRg, if_pos c, Int.add_assoc]
    · rw [if_neg c, sum_fold lo hi G, gRg, if_neg c]; congr 1; omega
theorem sumS_kL (lo hi : Int32) (G : List kE3) : sumS lo hi G = kL (G.map (fun e => gRg lo hi e.1 e.2.1)).sum := by
  have := sum_fold lo hi G 0
  rw [sumS, show (0 : Int64) = kL 0 from rfl, this, Int.zero_add]
theorem G_EL (G : List kE3) : EL G.length (gkey G) (gval G) (gflg G) = G := EL_eq rfl (fun j hj => by simp [gkey, gval, gflg, hj])
theorem rnk_gkey {G : List kE3} (h : kSo G) {r : Nat} (hr : r < G.length) : rnkS G (gkey G r) = r := by
  have h1 : kSo (EL G.length (gkey G) (gval G) (gflg G)) := by rw [G_EL]; exact h
  have h2 := kfst_rnk h1 (kfst_at h1 hr).1
  rw [G_EL] at h2
  exact h2.symm
theorem gkey_mem {G : List kE3} {r : Nat} (hr : r < G.length) : (lkp G (gkey G r)).isSome = true := lkp_isSome_iff.mpr ⟨G[r], List.getElem_mem hr, by simp [gkey, hr]⟩
theorem gkey_rnk {G : List kE3} (h : kSo G) {x : Int32} (hx : (lkp G x).isSome = true) : rnkS G x < G.length ∧ gkey G (rnkS G x) = x := by
  obtain ⟨e, he, hex⟩ := lkp_isSome_iff.mp hx
  obtain ⟨r, hr, hre⟩ := List.getElem_of_mem he
  have hk : gkey G r = x := by rw [gkey, List.getElem?_eq_getElem hr, hre]; exact hex
  have h2 := rnk_gkey h hr
  rw [hk] at h2
  rw [h2]
  exact ⟨hr, hk⟩
theorem has_ky {M C : List kE3} {x : Int32} (h1 : kIv M) (h2 : kIv C) (h : hasS M C x = true) : kyB x := by
  rw [hasS_rsl, ← gat_lkp M C h1.1 h2.1] at h
  obtain ⟨e, he, hex⟩ := lkp_isSome_iff.mp h
  have := ((gat_iv h1 h2).2 e he).1
  rw [hex] at this
  refine ⟨fun z => ?_, fun z => ?_⟩
  · rw [Int32.lt_iff_toInt_lt, show (0 : Int32).toInt = 0 from by decide] at z; omega
  · rw [Int32.lt_iff_toInt_lt, show (9999 : Int32).toInt = 9999 from by decide] at z; omega
theorem take_sum {f : kE3 → Int} {L : List kE3} {j : Nat} {e : kE3} (h : L[j]? = some e) : ((L.take (j + 1)).map f).sum = ((L.take j).map f).sum + f e := by
  rw [List.take_add_one, h, Option.toList_some, List.map_append, List.sum_append]; simp
theorem cand {M C : List kE3} (h1 : kSo M) (h2 : kSo C) {r : Nat} (hr : r < (gat M C).length) : (∃ p, p < M.length ∧ gkey M p = gkey (gat M C) r) ∨ (∃ p, p < C.length ∧ gkey C p = gkey (gat M C) r) := by
  have he : (gat M C)[r] ∈ gat M C := List.getElem_mem hr
  have hk : gkey (gat M C) r = ((gat M C)[r]).1 := by simp [gkey, hr]
  rcases gat_keys M C _ he with ⟨m, hm, e⟩ | ⟨c, hc, e⟩
  · obtain ⟨p, hp, hpe⟩ := List.getElem_of_mem hm
    exact Or.inl ⟨p, hp, by rw [hk, e]; simp [gkey, hp, hpe]⟩
  · obtain ⟨p, hp, hpe⟩ := List.getElem_of_mem hc
    exact Or.inr ⟨p, hp, by rw [hk, e]; simp [gkey, hp, hpe]⟩

set_option maxRecDepth 20000 in
theorem ggX7_countLess_X7_changeOf : GoodIn wsX7_countLess wsX7_changeOf := goodIn_ca (goodIn_r _ [10, 3, 4, 11, 12, 13, 14, 15, 16, 17, 18, 19, 20, 21, 22, 23, 24, 25, 26, 27, 28, 29, 30, 31, 32, 33, 34, 35, 36, 37, 38, 39, 40, 41, 42, 43, 44, 45, 46, 47, 48, 49, 50] (by decide +kernel) (by decide +kernel)) (goodIn_sub (fun _ h => List.mem_cons_of_mem _ (List.mem_append_right _ h)) (by decide +kernel))
set_option maxRecDepth 20000 in
theorem gX7_countLess_X7_changeOf : GoodIn wsX7_countLess (wsV RX7 85 RX7 yX7_changeOf wsX7_changeOf) := goodIn_app (goodIn_of _ (by decide +kernel)) ggX7_countLess_X7_changeOf
theorem dX7_countLess_0 : decode cX7_countLess 0 = .ok (.iconst 0, 1) := by decide +kernel
theorem dX7_countLess_1 : decode cX7_countLess 1 = .ok (.istore_n 2, 1) := by decide +kernel
theorem dX7_countLess_2 : decode cX7_countLess 2 = .ok (.iconst 0, 1) := by decide +kernel
theorem dX7_countLess_3 : decode cX7_countLess 3 = .ok (.istore_n 3, 1) := by decide +kernel
theorem dX7_countLess_4 : decode cX7_countLess 4 = .ok (.iload_n 3, 1) := by decide +kernel
theorem dX7_countLess_5 : decode cX7_countLess 5 = .ok (.aload_n 0, 1) := by decide +kernel
theorem dX7_countLess_6 : decode cX7_countLess 6 = .ok (.getfield 79, 3) := by decide +kernel
theorem dX7_countLess_9 : decode cX7_countLess 9 = .ok (.if_icmp .ge 40, 3) := by decide +kernel
theorem dX7_countLess_12 : decode cX7_countLess 12 = .ok (.iload_n 2, 1) := by decide +kernel
theorem dX7_countLess_13 : decode cX7_countLess 13 = .ok (.aload_n 0, 1) := by decide +kernel
theorem dX7_countLess_14 : decode cX7_countLess 14 = .ok (.getfield 9, 3) := by decide +kernel
theorem dX7_countLess_17 : decode cX7_countLess 17 = .ok (.iload_n 3, 1) := by decide +kernel
theorem dX7_countLess_18 : decode cX7_countLess 18 = .ok (.iaload, 1) := by decide +kernel
theorem dX7_countLess_19 : decode cX7_countLess 19 = .ok (.iload_n 1, 1) := by decide +kernel
theorem dX7_countLess_20 : decode cX7_countLess 20 = .ok (.if_icmp .ge 20, 3) := by decide +kernel
theorem dX7_countLess_23 : decode cX7_countLess 23 = .ok (.aload_n 0, 1) := by decide +kernel
theorem dX7_countLess_24 : decode cX7_countLess 24 = .ok (.aload_n 0, 1) := by decide +kernel
theorem dX7_countLess_25 : decode cX7_countLess 25 = .ok (.getfield 9, 3) := by decide +kernel
theorem dX7_countLess_28 : decode cX7_countLess 28 = .ok (.iload_n 3, 1) := by decide +kernel
theorem dX7_countLess_29 : decode cX7_countLess 29 = .ok (.iaload, 1) := by decide +kernel
theorem dX7_countLess_30 : decode cX7_countLess 30 = .ok (.invokevirtual 85, 3) := by decide +kernel
theorem dX7_countLess_33 : decode cX7_countLess 33 = .ok (.ifCond .ge 7, 3) := by decide +kernel
theorem dX7_countLess_36 : decode cX7_countLess 36 = .ok (.iconst 1, 1) := by decide +kernel
theorem dX7_countLess_37 : decode cX7_countLess 37 = .ok (.goto 4, 3) := by decide +kernel
theorem dX7_countLess_40 : decode cX7_countLess 40 = .ok (.iconst 0, 1) := by decide +kernel
theorem dX7_countLess_41 : decode cX7_countLess 41 = .ok (.iadd, 1) := by decide +kernel
theorem dX7_countLess_42 : decode cX7_countLess 42 = .ok (.istore_n 2, 1) := by decide +kernel
theorem dX7_countLess_43 : decode cX7_countLess 43 = .ok (.iinc 3 1, 3) := by decide +kernel
theorem dX7_countLess_46 : decode cX7_countLess 46 = .ok (.goto (-42), 3) := by decide +kernel
theorem dX7_countLess_49 : decode cX7_countLess 49 = .ok (.iconst 0, 1) := by decide +kernel
theorem dX7_countLess_50 : decode cX7_countLess 50 = .ok (.istore_n 3, 1) := by decide +kernel
theorem dX7_countLess_51 : decode cX7_countLess 51 = .ok (.iload_n 3, 1) := by decide +kernel
theorem dX7_countLess_52 : decode cX7_countLess 52 = .ok (.aload_n 0, 1) := by decide +kernel
theorem dX7_countLess_53 : decode cX7_countLess 53 = .ok (.getfield 82, 3) := by decide +kernel
theorem dX7_countLess_56 : decode cX7_countLess 56 = .ok (.if_icmp .ge 36, 3) := by decide +kernel
theorem dX7_countLess_59 : decode cX7_countLess 59 = .ok (.iload_n 2, 1) := by decide +kernel
theorem dX7_countLess_60 : decode cX7_countLess 60 = .ok (.aload_n 0, 1) := by decide +kernel
theorem dX7_countLess_61 : decode cX7_countLess 61 = .ok (.getfield 16, 3) := by decide +kernel
theorem dX7_countLess_64 : decode cX7_countLess 64 = .ok (.iload_n 3, 1) := by decide +kernel
theorem dX7_countLess_65 : decode cX7_countLess 65 = .ok (.iaload, 1) := by decide +kernel
theorem dX7_countLess_66 : decode cX7_countLess 66 = .ok (.iload_n 1, 1) := by decide +kernel
theorem dX7_countLess_67 : decode cX7_countLess 67 = .ok (.if_icmp .ge 16, 3) := by decide +kernel
theorem dX7_countLess_70 : decode cX7_countLess 70 = .ok (.aload_n 0, 1) := by decide +kernel
theorem dX7_countLess_71 : decode cX7_countLess 71 = .ok (.getfield 22, 3) := by decide +kernel
theorem dX7_countLess_74 : decode cX7_countLess 74 = .ok (.iload_n 3, 1) := by decide +kernel
theorem dX7_countLess_75 : decode cX7_countLess 75 = .ok (.iaload, 1) := by decide +kernel
theorem dX7_countLess_76 : decode cX7_countLess 76 = .ok (.ifCond .ne 7, 3) := by decide +kernel
theorem dX7_countLess_79 : decode cX7_countLess 79 = .ok (.iconst 1, 1) := by decide +kernel
theorem dX7_countLess_80 : decode cX7_countLess 80 = .ok (.goto 4, 3) := by decide +kernel
theorem dX7_countLess_83 : decode cX7_countLess 83 = .ok (.iconst 0, 1) := by decide +kernel
theorem dX7_countLess_84 : decode cX7_countLess 84 = .ok (.iadd, 1) := by decide +kernel
theorem dX7_countLess_85 : decode cX7_countLess 85 = .ok (.istore_n 2, 1) := by decide +kernel
theorem dX7_countLess_86 : decode cX7_countLess 86 = .ok (.iinc 3 1, 3) := by decide +kernel
theorem dX7_countLess_89 : decode cX7_countLess 89 = .ok (.goto (-38), 3) := by decide +kernel
theorem dX7_countLess_92 : decode cX7_countLess 92 = .ok (.iload_n 2, 1) := by decide +kernel
theorem dX7_countLess_93 : decode cX7_countLess 93 = .ok (.ireturn, 1) := by decide +kernel
def rm_X7_countLess : Room := { frames := 1, cells := 0, slots := 0, locals := 22 }
abbrev p_X7_countLess (g : kG) (h : Nat) (zth : Int32) (zsg : Int32) (zl1 : Int64) (zl2 : Int64) (zl3 : Int64) (zl4 : Int64) (zpb : Int32) (zln : Int32) (zat : Int32) (zrk : Int32) (zrv : Int32) (zre : Int32) (zwr : Int32) (zrm : Int32) (zrs : Int32) (zis : Int32) (zss : Int32) (zsc : Int32) (ak : Nat) (av : Nat) (bk : Nat) (bv : Nat) (br : Nat) (a_s : Nat) (a_t : Nat) (g1 : Nat) (g2 : Nat) (g3 : Nat) (pa : Nat) (ru : Nat) (tx : Nat) (dk : Nat) (dv : Nat) (ek : Nat) (ev : Nat) (er : Nat) (es : Nat) (et : Nat) (nA : Nat) (fk : Nat → Int32) (fv : Nat → Int32) (nB : Nat) (ck : Nat → Int32) (cv : Nat → Int32) (cr : Nat → Int32) (M : List kE3) (C : List kE3) (x : Int32) : Int32 → va_W → Prop := fun r w1 => r = nI (rnkS (gat M C) x) ∧ w1 = [(h, .inr (9, [.int zth, .int (nI nA), .int (nI nB), .ref ak, .ref av, .ref bk, .ref bv, .ref br, .ref a_s, .ref a_t, .int zsg, .ref g1, .ref g2, .ref g3, .long zl1, .long zl2, .long zl3, .long zl4, .int zpb, .ref pa, .ref ru, .ref tx, .int zln, .int zat, .int zrk, .int zrv, .int zre, .int zwr, .int zrm, .int zrs, .int zis, .int zss, .int zsc, .ref dk, .ref dv, .ref ek, .ref ev, .ref er, .ref es, .ref et])), (ak, .inl (g.2.1.1, 152, .inl fk)), (av, .inl (g.2.1.1, 152, .inl fv)), (bk, .inl (g.2.1.1, 24, .inl ck)), (bv, .inl (g.2.1.1, 24, .inl cv)), (br, .inl (g.2.1.1, 24, .inl cr))]
set_option maxHeartbeats 4000000 in
set_option maxRecDepth 100000 in
theorem c_X7_countLess (l : Launch) (g : kG) (h : Nat) (zth : Int32) (zsg : Int32) (zl1 : Int64) (zl2 : Int64) (zl3 : Int64) (zl4 : Int64) (zpb : Int32) (zln : Int32) (zat : Int32) (zrk : Int32) (zrv : Int32) (zre : Int32) (zwr : Int32) (zrm : Int32) (zrs : Int32) (zis : Int32) (zss : Int32) (zsc : Int32) (ak : Nat) (av : Nat) (bk : Nat) (bv : Nat) (br : Nat) (a_s : Nat) (a_t : Nat) (g1 : Nat) (g2 : Nat) (g3 : Nat) (pa : Nat) (ru : Nat) (tx : Nat) (dk : Nat) (dv : Nat) (ek : Nat) (ev : Nat) (er : Nat) (es : Nat) (et : Nat) (nA : Nat) (fk : Nat → Int32) (fv : Nat → Int32) (nB : Nat) (ck : Nat → Int32) (cv : Nat → Int32) (cr : Nat → Int32) (M : List kE3) (C : List kE3) (x : Int32) (hMM : kMM nA fk fv nB ck cv cr M C) : KI l yX7_countLess wsX7_countLess rm_X7_countLess g [.ref h, .int x] [(h, .inr (9, [.int zth, .int (nI nA), .int (nI nB), .ref ak, .ref av, .ref bk, .ref bv, .ref br, .ref a_s, .ref a_t, .int zsg, .ref g1, .ref g2, .ref g3, .long zl1, .long zl2, .long zl3, .long zl4, .int zpb, .ref pa, .ref ru, .ref tx, .int zln, .int zat, .int zrk, .int zrv, .int zre, .int zwr, .int zrm, .int zrs, .int zis, .int zss, .int zsc, .ref dk, .ref dv, .ref ek, .ref ev, .ref er, .ref es, .ref et])), (ak, .inl (g.2.1.1, 152, .inl fk)), (av, .inl (g.2.1.1, 152, .inl fv)), (bk, .inl (g.2.1.1, 24, .inl ck)), (bv, .inl (g.2.1.1, 24, .inl cv)), (br, .inl (g.2.1.1, 24, .inl cr))] (p_X7_countLess g h zth zsg zl1 zl2 zl3 zl4 zpb zln zat zrk zrv zre zwr zrm zrs zis zss zsc ak av bk bv br a_s a_t g1 g2 g3 pa ru tx dk dv ek ev er es et nA fk fv nB ck cv cr M C x) := by
  refine kbodyI (cc := cX7_countLess) (n := 4) (k := 6) (own := RX7) (plainFor_of_name (by decide)) rfl rfl rfl rfl ?_
  intro p e s m below meth cd A ls hcx
  obtain ⟨hx, hb, hRt, hml, hts, hown, hlk, hA, hP, hK, hD, hE, hS, hl⟩ := hcx
  have hl : lv_has ls 4 [(0, .ref h), (1, .int x)] := hl
  obtain ⟨⟨hM, hC⟩, ⟨hnM, hnC⟩, ⟨hIM, hIC⟩, hlen, hrem⟩ := id hMM
  have hsM : kSo (EL nA fk fv fz0) := by rw [hM]; exact hIM.1
  have hsC : kSo (EL nB ck cv cr) := by rw [hC]; exact hIC.1
  have hnl : nA = M.length := by rw [← hM, EL_len]
  have hcl : nB = C.length := by rw [← hC, EL_len]
  refine lv_iconst (v := 0) hx hb dX7_countLess_0 (by decide) ?_
  rw [show (0 : Int32) = kI (((M.take 0).map (sgA (gLt x) C)).sum) from rfl]
  refine lv_istore_n (lv' := [(2, .int (kI (((M.take 0).map (sgA (gLt x) C)).sum))), (0, .ref h), (1, .int x)]) hx hb dX7_countLess_1 rfl hl (by decide) rfl (fun ls hl => ?_)
  refine lv_iconst (v := 0) hx hb dX7_countLess_2 (by decide) ?_
  refine lv_istore_n (lv' := [(3, .int 0), (2, .int (kI (((M.take 0).map (sgA (gLt x) C)).sum))), (0, .ref h), (1, .int x)]) hx hb dX7_countLess_3 rfl hl (by decide) rfl (fun ls hl => ?_)
  have L4 : ∀ (n9 : Nat) (j : Nat) (H : Heap) (locs : List Loc) (ls : Array Slot), (j ≤ nA) → nA - j < n9 → va_P g.1 vwCl [(h, .inr (9, [.int zth, .int (nI nA), .int (nI nB), .ref ak, .ref av, .ref bk, .ref bv, .ref br, .ref a_s, .ref a_t, .int zsg, .ref g1, .ref g2, .ref g3, .long zl1, .long zl2, .long zl3, .long zl4, .int zpb, .ref pa, .ref ru, .ref tx, .int zln, .int zat, .int zrk, .int zrv, .int zre, .int zwr, .int zrm, .int zrs, .int zis, .int zss, .int zsc, .ref dk, .ref dv, .ref ek, .ref ev, .ref er, .ref es, .ref et])), (ak, .inl (g.2.1.1, 152, .inl fk)), (av, .inl (g.2.1.1, 152, .inl fv)), (bk, .inl (g.2.1.1, 24, .inl ck)), (bv, .inl (g.2.1.1, 24, .inl cv)), (br, .inl (g.2.1.1, 24, .inl cr))] H → va_D A [(h, .inr (9, [.int zth, .int (nI nA), .int (nI nB), .ref ak, .ref av, .ref bk, .ref bv, .ref br, .ref a_s, .ref a_t, .int zsg, .ref g1, .ref g2, .ref g3, .long zl1, .long zl2, .long zl3, .long zl4, .int zpb, .ref pa, .ref ru, .ref tx, .int zln, .int zat, .int zrk, .int zrv, .int zre, .int zwr, .int zrm, .int zrs, .int zis, .int zss, .int zsc, .ref dk, .ref dv, .ref ek, .ref ev, .ref er, .ref es, .ref et])), (ak, .inl (g.2.1.1, 152, .inl fk)), (av, .inl (g.2.1.1, 152, .inl fv)), (bk, .inl (g.2.1.1, 24, .inl ck)), (bv, .inl (g.2.1.1, 24, .inl cv)), (br, .inl (g.2.1.1, 24, .inl cr))] → va_S A s.heap H locs → lv_has ls 4 [(3, .int (nI j)), (2, .int (kI (((M.take j).map (sgA (gLt x) C)).sum))), (0, .ref h), (1, .int x)] → W p l e rm_X7_countLess s m ([.ref h, .int x] : List Value).toArray below meth cd H locs 0 0 (kQi g 6 A (p_X7_countLess g h zth zsg zl1 zl2 zl3 zl4 zpb zln zat zrk zrv zre zwr zrm zrs zis zss zsc ak av bk bv br a_s a_t g1 g2 g3 pa ru tx dk dv ek ev er es et nA fk fv nB ck cv cr M C x) below ([.ref h, .int x] : List Value).toArray s) (F0 m 4 ls []) := by
    intro n9
    induction n9 with
    | zero => intro j H locs ls hj h9; exact absurd h9 (Nat.not_lt_zero _)
    | succ n9 ih4 =>
      intro j H locs ls hj hn4 hP hD hS hl
      refine lv_iload_n hx hb dX7_countLess_4 rfl (lv_at hl 0 rfl) ?_
      refine lv_aload_n hx hb dX7_countLess_5 rfl (lv_at hl 2 rfl) ?_
      refine va_get (D := g.1) (ci := 9) (v := .int (nI nA)) (C := RX7) (T := TX7) (N := 40) hx hb hts (by decide +kernel) hown hK hP 0 rfl rfl 1 (by decide) (hts (.fieldLink RX7 79 "LearnedIndexModel" "size" "I") (by decide +kernel)) (fun _ h9 => h9) rfl dX7_countLess_6 ?_
      refine lv_icmp_ge (tgt := 49) hx hb dX7_countLess_9 (by decide) (fun c_9 => ?_) (fun c_9 => ?_)
      · skip
        have hjn : nA ≤ j := kg (by omega) (by omega) c_9
        have hsw : (((M.take j).map (sgA (gLt x) C)).sum) = ((M.map (sgA (gLt x) C)).sum + ((C.take 0).map (sgB (gLt x))).sum) := by rw [List.take_of_length_le (by omega)]; simp
        rw [show (kI (((M.take j).map (sgA (gLt x) C)).sum) : Int32) = kI ((M.map (sgA (gLt x) C)).sum + ((C.take 0).map (sgB (gLt x))).sum) from by rw [hsw]] at hl
        have hl : lv_has ls 4 [(3, .int (nI j)), (2, .int (kI ((M.map (sgA (gLt x) C)).sum + ((C.take 0).map (sgB (gLt x))).sum))), (0, .ref h), (1, .int x)] := hl
        refine lv_iconst (v := 0) hx hb dX7_countLess_49 (by decide) ?_
        refine lv_istore_n (lv' := [(3, .int 0), (2, .int (kI ((M.map (sgA (gLt x) C)).sum + ((C.take 0).map (sgB (gLt x))).sum))), (0, .ref h), (1, .int x)]) hx hb dX7_countLess_50 rfl hl (by decide) rfl (fun ls hl => ?_)
        have L51 : ∀ (n9 : Nat) (j : Nat) (H : Heap) (locs : List Loc) (ls : Array Slot), (j ≤ nB) → nB - j < n9 → va_P g.1 vwCl [(h, .inr (9, [.int zth, .int (nI nA), .int (nI nB), .ref ak, .ref av, .ref bk, .ref bv, .ref br, .ref a_s, .ref a_t, .int zsg, .ref g1, .ref g2, .ref g3, .long zl1, .long zl2, .long zl3, .long zl4, .int zpb, .ref pa, .ref ru, .ref tx, .int zln, .int zat, .int zrk, .int zrv, .int zre, .int zwr, .int zrm, .int zrs, .int zis, .int zss, .int zsc, .ref dk, .ref dv, .ref ek, .ref ev, .ref er, .ref es, .ref et])), (ak, .inl (g.2.1.1, 152, .inl fk)), (av, .inl (g.2.1.1, 152, .inl fv)), (bk, .inl (g.2.1.1, 24, .inl ck)), (bv, .inl (g.2.1.1, 24, .inl cv)), (br, .inl (g.2.1.1, 24, .inl cr))] H → va_D A [(h, .inr (9, [.int zth, .int (nI nA), .int (nI nB), .ref ak, .ref av, .ref bk, .ref bv, .ref br, .ref a_s, .ref a_t, .int zsg, .ref g1, .ref g2, .ref g3, .long zl1, .long zl2, .long zl3, .long zl4, .int zpb, .ref pa, .ref ru, .ref tx, .int zln, .int zat, .int zrk, .int zrv, .int zre, .int zwr, .int zrm, .int zrs, .int zis, .int zss, .int zsc, .ref dk, .ref dv, .ref ek, .ref ev, .ref er, .ref es, .ref et])), (ak, .inl (g.2.1.1, 152, .inl fk)), (av, .inl (g.2.1.1, 152, .inl fv)), (bk, .inl (g.2.1.1, 24, .inl ck)), (bv, .inl (g.2.1.1, 24, .inl cv)), (br, .inl (g.2.1.1, 24, .inl cr))] → va_S A s.heap H locs → lv_has ls 4 [(3, .int (nI j)), (2, .int (kI ((M.map (sgA (gLt x) C)).sum + ((C.take j).map (sgB (gLt x))).sum))), (0, .ref h), (1, .int x)] → W p l e rm_X7_countLess s m ([.ref h, .int x] : List Value).toArray below meth cd H locs 0 0 (kQi g 6 A (p_X7_countLess g h zth zsg zl1 zl2 zl3 zl4 zpb zln zat zrk zrv zre zwr zrm zrs zis zss zsc ak av bk bv br a_s a_t g1 g2 g3 pa ru tx dk dv ek ev er es et nA fk fv nB ck cv cr M C x) below ([.ref h, .int x] : List Value).toArray s) (F0 m 51 ls []) := by
          intro n9
          induction n9 with
          | zero => intro j H locs ls hj h9; exact absurd h9 (Nat.not_lt_zero _)
          | succ n9 ih51 =>
            intro j H locs ls hj hn51 hP hD hS hl
            refine lv_iload_n hx hb dX7_countLess_51 rfl (lv_at hl 0 rfl) ?_
            refine lv_aload_n hx hb dX7_countLess_52 rfl (lv_at hl 2 rfl) ?_
            refine va_get (D := g.1) (ci := 9) (v := .int (nI nB)) (C := RX7) (T := TX7) (N := 40) hx hb hts (by decide +kernel) hown hK hP 0 rfl rfl 2 (by decide) (hts (.fieldLink RX7 82 "LearnedIndexModel" "changes" "I") (by decide +kernel)) (fun _ h9 => h9) rfl dX7_countLess_53 ?_
            refine lv_icmp_ge (tgt := 92) hx hb dX7_countLess_56 (by decide) (fun c_56 => ?_) (fun c_56 => ?_)
            · skip
              have hjn : nB ≤ j := kg (by omega) (by omega) c_56
              refine lv_iload_n hx hb dX7_countLess_92 rfl (lv_at hl 1 rfl) ?_
              exact kreti hx hb hRt hlk hK hP hD hS rfl dX7_countLess_93 (⟨by rw [List.take_of_length_le (by omega), ← gat_sum _ C M hIM.1 hIC.1 (kMM_z hMM), ← rnk_sum, kI_nI], rfl⟩)
            · skip
              have hjn : j < nB := kl (by omega) (by omega) c_56
              have hge : C[j]? = some (ck j, cv j, cr j) := by rw [← hC, EL_get, if_pos hjn]
              have htk := take_sum (f := sgB (gLt x)) hge
              have h01 := (hIC.2 _ (List.mem_of_getElem? hge)).2
              refine lv_iload_n hx hb dX7_countLess_59 rfl (lv_at hl 1 rfl) ?_
              refine lv_aload_n hx hb dX7_countLess_60 rfl (lv_at hl 2 rfl) ?_
              refine va_get (D := g.1) (ci := 9) (v := .ref bk) (C := RX7) (T := TX7) (N := 40) hx hb hts (by decide +kernel) hown hK hP 0 rfl rfl 5 (by decide) (hts (.fieldLink RX7 16 "LearnedIndexModel" "changedKeys" "[I") (by decide +kernel)) (fun _ h9 => h9) rfl dX7_countLess_61 ?_
              refine lv_iload_n hx hb dX7_countLess_64 rfl (lv_at hl 0 rfl) ?_
              refine va_iald hx hb hK hP 3 0 rfl rfl (vp_in_nI (show j < 24 by omega) (by omega)) dX7_countLess_65 ?_
              rw [show (nI j : Int32).toNatClampNeg = j from nI_clamp (n := j) (by omega)]
              refine lv_iload_n hx hb dX7_countLess_66 rfl (lv_at hl 3 rfl) ?_
              refine lv_icmp_ge (tgt := 83) hx hb dX7_countLess_67 (by decide) (fun c_67 => ?_) (fun c_67 => ?_)
              · skip
                have hf : sgB (gLt x) (ck j, cv j, cr j) = 0 := by unfold sgB gLt; rw [if_neg (Int32.not_lt.mpr c_67)]; split <;> rfl
                refine lv_iconst (v := 0) hx hb dX7_countLess_83 (by decide) ?_
                refine lv_iadd hx hb dX7_countLess_84 ?_
                refine lv_istore_n (lv' := [(2, .int ((kI ((M.map (sgA (gLt x) C)).sum + ((C.take j).map (sgB (gLt x))).sum)) + 0)), (3, .int (nI j)), (0, .ref h), (1, .int x)]) hx hb dX7_countLess_85 rfl hl (by decide) rfl (fun ls hl => ?_)
                rw [show ((kI ((M.map (sgA (gLt x) C)).sum + ((C.take j).map (sgB (gLt x))).sum)) + 0 : Int32) = kI ((M.map (sgA (gLt x) C)).sum + ((C.take (j + 1)).map (sgB (gLt x))).sum) from by rw [htk, hf, ← Int.add_assoc]; first | exact kIa0 _ | exact kIa1 _] at hl
                have hl : lv_has ls 4 [(2, .int (kI ((M.map (sgA (gLt x) C)).sum + ((C.take (j + 1)).map (sgB (gLt x))).sum))), (3, .int (nI j)), (0, .ref h), (1, .int x)] := hl
                refine lv_iinc (v := nI (j + 1)) (lv' := [(3, .int (nI (j + 1))), (2, .int (kI ((M.map (sgA (gLt x) C)).sum + ((C.take (j + 1)).map (sgB (gLt x))).sum))), (0, .ref h), (1, .int x)]) hx hb dX7_countLess_86 hl (k := 1) rfl (nI_1 j) (by decide) rfl (fun ls hl => ?_)
                refine lv_goto (tgt := 51) hx hb dX7_countLess_89 (by decide) ?_
                exact ih51 (j + 1) _ _ ls hjn (by omega) hP hD hS (lv_sub hl [0, 1, 2, 3] rfl)
              · skip
                refine lv_aload_n hx hb dX7_countLess_70 rfl (lv_at hl 2 rfl) ?_
                refine va_get (D := g.1) (ci := 9) (v := .ref br) (C := RX7) (T := TX7) (N := 40) hx hb hts (by decide +kernel) hown hK hP 0 rfl rfl 7 (by decide) (hts (.fieldLink RX7 22 "LearnedIndexModel" "changedKinds" "[I") (by decide +kernel)) (fun _ h9 => h9) rfl dX7_countLess_71 ?_
                refine lv_iload_n hx hb dX7_countLess_74 rfl (lv_at hl 0 rfl) ?_
                refine va_iald hx hb hK hP 5 0 rfl rfl (vp_in_nI (show j < 24 by omega) (by omega)) dX7_countLess_75 ?_
                rw [show (nI j : Int32).toNatClampNeg = j from nI_clamp (n := j) (by omega)]
                refine lv_if_ne (tgt := 83) hx hb dX7_countLess_76 (by decide) (fun c_76 => ?_) (fun c_76 => ?_)
                · skip
                  have hf : sgB (gLt x) (ck j, cv j, cr j) = 0 := by unfold sgB; rw [if_pos (h01.elim (fun z => absurd z c_76) id)]
                  refine lv_iconst (v := 0) hx hb dX7_countLess_83 (by decide) ?_
                  refine lv_iadd hx hb dX7_countLess_84 ?_
                  refine lv_istore_n (lv' := [(2, .int ((kI ((M.map (sgA (gLt x) C)).sum + ((C.take j).map (sgB (gLt x))).sum)) + 0)), (3, .int (nI j)), (0, .ref h), (1, .int x)]) hx hb dX7_countLess_85 rfl hl (by decide) rfl (fun ls hl => ?_)
                  rw [show ((kI ((M.map (sgA (gLt x) C)).sum + ((C.take j).map (sgB (gLt x))).sum)) + 0 : Int32) = kI ((M.map (sgA (gLt x) C)).sum + ((C.take (j + 1)).map (sgB (gLt x))).sum) from by rw [htk, hf, ← Int.add_assoc]; first | exact kIa0 _ | exact kIa1 _] at hl
                  have hl : lv_has ls 4 [(2, .int (kI ((M.map (sgA (gLt x) C)).sum + ((C.take (j + 1)).map (sgB (gLt x))).sum))), (3, .int (nI j)), (0, .ref h), (1, .int x)] := hl
                  refine lv_iinc (v := nI (j + 1)) (lv' := [(3, .int (nI (j + 1))), (2, .int (kI ((M.map (sgA (gLt x) C)).sum + ((C.take (j + 1)).map (sgB (gLt x))).sum))), (0, .ref h), (1, .int x)]) hx hb dX7_countLess_86 hl (k := 1) rfl (nI_1 j) (by decide) rfl (fun ls hl => ?_)
                  refine lv_goto (tgt := 51) hx hb dX7_countLess_89 (by decide) ?_
                  exact ih51 (j + 1) _ _ ls hjn (by omega) hP hD hS (lv_sub hl [0, 1, 2, 3] rfl)
                · skip
                  have hf : sgB (gLt x) (ck j, cv j, cr j) = 1 := by unfold sgB gLt; rw [if_neg (by simp only; rw [c_76]; decide), if_pos (Int32.not_le.mp c_67)]
                  refine lv_iconst (v := 1) hx hb dX7_countLess_79 (by decide) ?_
                  refine lv_goto (tgt := 84) hx hb dX7_countLess_80 (by decide) ?_
                  refine lv_iadd hx hb dX7_countLess_84 ?_
                  refine lv_istore_n (lv' := [(2, .int ((kI ((M.map (sgA (gLt x) C)).sum + ((C.take j).map (sgB (gLt x))).sum)) + 1)), (3, .int (nI j)), (0, .ref h), (1, .int x)]) hx hb dX7_countLess_85 rfl hl (by decide) rfl (fun ls hl => ?_)
                  rw [show ((kI ((M.map (sgA (gLt x) C)).sum + ((C.take j).map (sgB (gLt x))).sum)) + 1 : Int32) = kI ((M.map (sgA (gLt x) C)).sum + ((C.take (j + 1)).map (sgB (gLt x))).sum) from by rw [htk, hf, ← Int.add_assoc]; first | exact kIa0 _ | exact kIa1 _] at hl
                  have hl : lv_has ls 4 [(2, .int (kI ((M.map (sgA (gLt x) C)).sum + ((C.take (j + 1)).map (sgB (gLt x))).sum))), (3, .int (nI j)), (0, .ref h), (1, .int x)] := hl
                  refine lv_iinc (v := nI (j + 1)) (lv' := [(3, .int (nI (j + 1))), (2, .int (kI ((M.map (sgA (gLt x) C)).sum + ((C.take (j + 1)).map (sgB (gLt x))).sum))), (0, .ref h), (1, .int x)]) hx hb dX7_countLess_86 hl (k := 1) rfl (nI_1 j) (by decide) rfl (fun ls hl => ?_)
                  refine lv_goto (tgt := 51) hx hb dX7_countLess_89 (by decide) ?_
                  exact ih51 (j + 1) _ _ ls hjn (by omega) hP hD hS (lv_sub hl [0, 1, 2, 3] rfl)
        exact L51 _ 0 _ _ ls (Nat.zero_le _) (Nat.lt_succ_self _) hP hD hS (lv_sub hl [0, 1, 2, 3] rfl)
      · skip
        have hjn : j < nA := kl (by omega) (by omega) c_9
        have hge : M[j]? = some (fk j, fv j, fz0 j) := by rw [← hM, EL_get, if_pos hjn]
        have htk := take_sum (f := sgA (gLt x) C) hge
        refine lv_iload_n hx hb dX7_countLess_12 rfl (lv_at hl 1 rfl) ?_
        refine lv_aload_n hx hb dX7_countLess_13 rfl (lv_at hl 2 rfl) ?_
        refine va_get (D := g.1) (ci := 9) (v := .ref ak) (C := RX7) (T := TX7) (N := 40) hx hb hts (by decide +kernel) hown hK hP 0 rfl rfl 3 (by decide) (hts (.fieldLink RX7 9 "LearnedIndexModel" "keys" "[I") (by decide +kernel)) (fun _ h9 => h9) rfl dX7_countLess_14 ?_
        refine lv_iload_n hx hb dX7_countLess_17 rfl (lv_at hl 0 rfl) ?_
        refine va_iald hx hb hK hP 1 0 rfl rfl (vp_in_nI (show j < 152 by omega) (by omega)) dX7_countLess_18 ?_
        rw [show (nI j : Int32).toNatClampNeg = j from nI_clamp (n := j) (by omega)]
        refine lv_iload_n hx hb dX7_countLess_19 rfl (lv_at hl 3 rfl) ?_
        refine lv_icmp_ge (tgt := 40) hx hb dX7_countLess_20 (by decide) (fun c_20 => ?_) (fun c_20 => ?_)
        · skip
          have hf : sgA (gLt x) C (fk j, fv j, fz0 j) = 0 := by unfold sgA gLt; rw [if_neg (Int32.not_lt.mpr c_20)]; split <;> rfl
          refine lv_iconst (v := 0) hx hb dX7_countLess_40 (by decide) ?_
          refine lv_iadd hx hb dX7_countLess_41 ?_
          refine lv_istore_n (lv' := [(2, .int ((kI (((M.take j).map (sgA (gLt x) C)).sum)) + 0)), (3, .int (nI j)), (0, .ref h), (1, .int x)]) hx hb dX7_countLess_42 rfl hl (by decide) rfl (fun ls hl => ?_)
          rw [show ((kI (((M.take j).map (sgA (gLt x) C)).sum)) + 0 : Int32) = kI (((M.take (j + 1)).map (sgA (gLt x) C)).sum) from by rw [htk, hf]; first | exact kIa0 _ | exact kIa1 _] at hl
          have hl : lv_has ls 4 [(2, .int (kI (((M.take (j + 1)).map (sgA (gLt x) C)).sum))), (3, .int (nI j)), (0, .ref h), (1, .int x)] := hl
          refine lv_iinc (v := nI (j + 1)) (lv' := [(3, .int (nI (j + 1))), (2, .int (kI (((M.take (j + 1)).map (sgA (gLt x) C)).sum))), (0, .ref h), (1, .int x)]) hx hb dX7_countLess_43 hl (k := 1) rfl (nI_1 j) (by decide) rfl (fun ls hl => ?_)
          refine lv_goto (tgt := 4) hx hb dX7_countLess_46 (by decide) ?_
          exact ih4 (j + 1) _ _ ls hjn (by omega) hP hD hS (lv_sub hl [0, 1, 2, 3] rfl)
        · skip
          refine lv_aload_n hx hb dX7_countLess_23 rfl (lv_at hl 2 rfl) ?_
          refine lv_aload_n hx hb dX7_countLess_24 rfl (lv_at hl 2 rfl) ?_
          refine va_get (D := g.1) (ci := 9) (v := .ref ak) (C := RX7) (T := TX7) (N := 40) hx hb hts (by decide +kernel) hown hK hP 0 rfl rfl 3 (by decide) (hts (.fieldLink RX7 9 "LearnedIndexModel" "keys" "[I") (by decide +kernel)) (fun _ h9 => h9) rfl dX7_countLess_25 ?_
          refine lv_iload_n hx hb dX7_countLess_28 rfl (lv_at hl 0 rfl) ?_
          refine va_iald hx hb hK hP 1 0 rfl rfl (vp_in_nI (show j < 152 by omega) (by omega)) dX7_countLess_29 ?_
          rw [show (nI j : Int32).toNatClampNeg = j from nI_clamp (n := j) (by omega)]
          refine kcalli (wc := [(h, .inr (9, [.int zth, .int (nI nA), .int (nI nB), .ref ak, .ref av, .ref bk, .ref bv, .ref br, .ref a_s, .ref a_t, .int zsg, .ref g1, .ref g2, .ref g3, .long zl1, .long zl2, .long zl3, .long zl4, .int zpb, .ref pa, .ref ru, .ref tx, .int zln, .int zat, .int zrk, .int zrv, .int zre, .int zwr, .int zrm, .int zrs, .int zis, .int zss, .int zsc, .ref dk, .ref dv, .ref ek, .ref ev, .ref er, .ref es, .ref et])), (bk, .inl (g.2.1.1, 24, .inl ck))]) [0, 3] (va_runV (C := RX7) (As := [.int (fk j)]) (rest := [.int (kI (((M.take j).map (sgA (gLt x) C)).sum))]) ⟨hx, hb, hml, hown, hts⟩ ((c_X7_changeOf l g h zth (nI nA) zsg zl1 zl2 zl3 zl4 zpb zln zat zrk zrv zre zwr zrm zrs zis zss zsc ak av bk bv br a_s a_t g1 g2 g3 pa ru tx dk dv ek ev er es et nB ck cv cr (fk j) hsC (by omega)) _) (cwV 1 hts gX7_countLess_X7_changeOf rfl rfl rfl (by decide +kernel) ⟨Nat.le_of_ble_eq_true rfl, Nat.le_of_ble_eq_true rfl⟩) (kpreV (wc := [(h, .inr (9, [.int zth, .int (nI nA), .int (nI nB), .ref ak, .ref av, .ref bk, .ref bv, .ref br, .ref a_s, .ref a_t, .int zsg, .ref g1, .ref g2, .ref g3, .long zl1, .long zl2, .long zl3, .long zl4, .int zpb, .ref pa, .ref ru, .ref tx, .int zln, .int zat, .int zrk, .int zrv, .int zre, .int zwr, .int zrm, .int zrs, .int zis, .int zss, .int zsc, .ref dk, .ref dv, .ref ek, .ref ev, .ref er, .ref es, .ref et])), (bk, .inl (g.2.1.1, 24, .inl ck))]) (ci := 9) hK hP hD hS hA hE [0, 3] rfl rfl rfl rfl) rfl rfl hl.1 rfl (lv_room (Nat.le_of_ble_eq_true rfl)) dX7_countLess_30 ⟨Nat.zero_le _, Nat.zero_le _⟩) hP hD hS hA rfl (fun r_1 w_1 H locs hp hP hD hS => ?_)
          obtain ⟨ic, rfl, hfc, rfl⟩ := hp
          have hP : va_P g.1 vwCl [(h, .inr (9, [.int zth, .int (nI nA), .int (nI nB), .ref ak, .ref av, .ref bk, .ref bv, .ref br, .ref a_s, .ref a_t, .int zsg, .ref g1, .ref g2, .ref g3, .long zl1, .long zl2, .long zl3, .long zl4, .int zpb, .ref pa, .ref ru, .ref tx, .int zln, .int zat, .int zrk, .int zrv, .int zre, .int zwr, .int zrm, .int zrs, .int zis, .int zss, .int zsc, .ref dk, .ref dv, .ref ek, .ref ev, .ref er, .ref es, .ref et])), (ak, .inl (g.2.1.1, 152, .inl fk)), (av, .inl (g.2.1.1, 152, .inl fv)), (bk, .inl (g.2.1.1, 24, .inl ck)), (bv, .inl (g.2.1.1, 24, .inl cv)), (br, .inl (g.2.1.1, 24, .inl cr))] H := hP
          have hD : va_D A [(h, .inr (9, [.int zth, .int (nI nA), .int (nI nB), .ref ak, .ref av, .ref bk, .ref bv, .ref br, .ref a_s, .ref a_t, .int zsg, .ref g1, .ref g2, .ref g3, .long zl1, .long zl2, .long zl3, .long zl4, .int zpb, .ref pa, .ref ru, .ref tx, .int zln, .int zat, .int zrk, .int zrv, .int zre, .int zwr, .int zrm, .int zrs, .int zis, .int zss, .int zsc, .ref dk, .ref dv, .ref ek, .ref ev, .ref er, .ref es, .ref et])), (ak, .inl (g.2.1.1, 152, .inl fk)), (av, .inl (g.2.1.1, 152, .inl fv)), (bk, .inl (g.2.1.1, 24, .inl ck)), (bv, .inl (g.2.1.1, 24, .inl cv)), (br, .inl (g.2.1.1, 24, .inl cr))] := hD
          have hkc := kfnd_lkp (by omega) hsC hfc
          rw [hC] at hkc
          refine lv_if_ge (tgt := 40) hx hb dX7_countLess_33 (by decide) (fun c_33 => ?_) (fun c_33 => ?_)
          · skip
            have hf : sgA (gLt x) C (fk j, fv j, fz0 j) = 0 := by unfold sgA; rw [if_pos (hkc.1.mp c_33)]
            refine lv_iconst (v := 0) hx hb dX7_countLess_40 (by decide) ?_
            refine lv_iadd hx hb dX7_countLess_41 ?_
            refine lv_istore_n (lv' := [(2, .int ((kI (((M.take j).map (sgA (gLt x) C)).sum)) + 0)), (3, .int (nI j)), (0, .ref h), (1, .int x)]) hx hb dX7_countLess_42 rfl hl (by decide) rfl (fun ls hl => ?_)
            rw [show ((kI (((M.take j).map (sgA (gLt x) C)).sum)) + 0 : Int32) = kI (((M.take (j + 1)).map (sgA (gLt x) C)).sum) from by rw [htk, hf]; first | exact kIa0 _ | exact kIa1 _] at hl
            have hl : lv_has ls 4 [(2, .int (kI (((M.take (j + 1)).map (sgA (gLt x) C)).sum))), (3, .int (nI j)), (0, .ref h), (1, .int x)] := hl
            refine lv_iinc (v := nI (j + 1)) (lv' := [(3, .int (nI (j + 1))), (2, .int (kI (((M.take (j + 1)).map (sgA (gLt x) C)).sum))), (0, .ref h), (1, .int x)]) hx hb dX7_countLess_43 hl (k := 1) rfl (nI_1 j) (by decide) rfl (fun ls hl => ?_)
            refine lv_goto (tgt := 4) hx hb dX7_countLess_46 (by decide) ?_
            exact ih4 (j + 1) _ _ ls hjn (by omega) hP hD hS (lv_sub hl [0, 1, 2, 3] rfl)
          · skip
            have hf : sgA (gLt x) C (fk j, fv j, fz0 j) = 1 := by unfold sgA gLt; rw [if_neg (fun z => c_33 (hkc.1.mpr z)), if_pos (Int32.not_le.mp c_20)]
            refine lv_iconst (v := 1) hx hb dX7_countLess_36 (by decide) ?_
            refine lv_goto (tgt := 41) hx hb dX7_countLess_37 (by decide) ?_
            refine lv_iadd hx hb dX7_countLess_41 ?_
            refine lv_istore_n (lv' := [(2, .int ((kI (((M.take j).map (sgA (gLt x) C)).sum)) + 1)), (3, .int (nI j)), (0, .ref h), (1, .int x)]) hx hb dX7_countLess_42 rfl hl (by decide) rfl (fun ls hl => ?_)
            rw [show ((kI (((M.take j).map (sgA (gLt x) C)).sum)) + 1 : Int32) = kI (((M.take (j + 1)).map (sgA (gLt x) C)).sum) from by rw [htk, hf]; first | exact kIa0 _ | exact kIa1 _] at hl
            have hl : lv_has ls 4 [(2, .int (kI (((M.take (j + 1)).map (sgA (gLt x) C)).sum))), (3, .int (nI j)), (0, .ref h), (1, .int x)] := hl
            refine lv_iinc (v := nI (j + 1)) (lv' := [(3, .int (nI (j + 1))), (2, .int (kI (((M.take (j + 1)).map (sgA (gLt x) C)).sum))), (0, .ref h), (1, .int x)]) hx hb dX7_countLess_43 hl (k := 1) rfl (nI_1 j) (by decide) rfl (fun ls hl => ?_)
            refine lv_goto (tgt := 4) hx hb dX7_countLess_46 (by decide) ?_
            exact ih4 (j + 1) _ _ ls hjn (by omega) hP hD hS (lv_sub hl [0, 1, 2, 3] rfl)
  exact L4 _ 0 _ _ ls (Nat.zero_le _) (Nat.lt_succ_self _) hP hD hS (lv_sub hl [0, 1, 2, 3] rfl)
set_option maxRecDepth 20000 in
theorem ggX7_sum_X7_isBetween : GoodIn wsX7_sum wsX7_isBetween := goodIn_r _ [12] (by decide +kernel) (by decide +kernel)
set_option maxRecDepth 20000 in
theorem gX7_sum_X7_isBetween : GoodIn wsX7_sum (va_wsS RX7 75 yX7_isBetween wsX7_isBetween) := goodIn_app (goodIn_of _ (by decide +kernel)) ggX7_sum_X7_isBetween
set_option maxRecDepth 20000 in
theorem ggX7_sum_X7_changeOf : GoodIn wsX7_sum wsX7_changeOf := goodIn_ca (goodIn_r _ [16, 5, 6, 17, 18, 19, 20, 21, 22, 23, 24, 25, 26, 27, 28, 29, 30, 31, 32, 33, 34, 35, 36, 37, 38, 39, 40, 41, 42, 43, 44, 45, 46, 47, 48, 49, 50, 51, 52, 53, 54, 55, 56] (by decide +kernel) (by decide +kernel)) (goodIn_sub (fun _ h => List.mem_cons_of_mem _ (List.mem_append_right _ h)) (by decide +kernel))
set_option maxRecDepth 20000 in
theorem gX7_sum_X7_changeOf : GoodIn wsX7_sum (wsV RX7 85 RX7 yX7_changeOf wsX7_changeOf) := goodIn_app (goodIn_of _ (by decide +kernel)) ggX7_sum_X7_changeOf
theorem dX7_sum_0 : decode cX7_sum 0 = .ok (.aload_n 0, 1) := by decide +kernel
theorem dX7_sum_1 : decode cX7_sum 1 = .ok (.iconst 0, 1) := by decide +kernel
theorem dX7_sum_2 : decode cX7_sum 2 = .ok (.putfield 71, 3) := by decide +kernel
theorem dX7_sum_5 : decode cX7_sum 5 = .ok (.lconst 0, 1) := by decide +kernel
theorem dX7_sum_6 : decode cX7_sum 6 = .ok (.lstore_n 3, 1) := by decide +kernel
theorem dX7_sum_7 : decode cX7_sum 7 = .ok (.iconst 0, 1) := by decide +kernel
theorem dX7_sum_8 : decode cX7_sum 8 = .ok (.istore 5, 2) := by decide +kernel
theorem dX7_sum_10 : decode cX7_sum 10 = .ok (.iload 5, 2) := by decide +kernel
theorem dX7_sum_12 : decode cX7_sum 12 = .ok (.aload_n 0, 1) := by decide +kernel
theorem dX7_sum_13 : decode cX7_sum 13 = .ok (.getfield 79, 3) := by decide +kernel
theorem dX7_sum_16 : decode cX7_sum 16 = .ok (.if_icmp .ge 53, 3) := by decide +kernel
theorem dX7_sum_19 : decode cX7_sum 19 = .ok (.lload_n 3, 1) := by decide +kernel
theorem dX7_sum_20 : decode cX7_sum 20 = .ok (.aload_n 0, 1) := by decide +kernel
theorem dX7_sum_21 : decode cX7_sum 21 = .ok (.getfield 9, 3) := by decide +kernel
theorem dX7_sum_24 : decode cX7_sum 24 = .ok (.iload 5, 2) := by decide +kernel
theorem dX7_sum_26 : decode cX7_sum 26 = .ok (.iaload, 1) := by decide +kernel
theorem dX7_sum_27 : decode cX7_sum 27 = .ok (.iload_n 1, 1) := by decide +kernel
theorem dX7_sum_28 : decode cX7_sum 28 = .ok (.iload_n 2, 1) := by decide +kernel
theorem dX7_sum_29 : decode cX7_sum 29 = .ok (.invokestatic 75, 3) := by decide +kernel
theorem dX7_sum_32 : decode cX7_sum 32 = .ok (.ifCond .eq 28, 3) := by decide +kernel
theorem dX7_sum_35 : decode cX7_sum 35 = .ok (.aload_n 0, 1) := by decide +kernel
theorem dX7_sum_36 : decode cX7_sum 36 = .ok (.aload_n 0, 1) := by decide +kernel
theorem dX7_sum_37 : decode cX7_sum 37 = .ok (.getfield 9, 3) := by decide +kernel
theorem dX7_sum_40 : decode cX7_sum 40 = .ok (.iload 5, 2) := by decide +kernel
theorem dX7_sum_42 : decode cX7_sum 42 = .ok (.iaload, 1) := by decide +kernel
theorem dX7_sum_43 : decode cX7_sum 43 = .ok (.invokevirtual 85, 3) := by decide +kernel
theorem dX7_sum_46 : decode cX7_sum 46 = .ok (.ifCond .ge 14, 3) := by decide +kernel
theorem dX7_sum_49 : decode cX7_sum 49 = .ok (.aload_n 0, 1) := by decide +kernel
theorem dX7_sum_50 : decode cX7_sum 50 = .ok (.getfield 13, 3) := by decide +kernel
theorem dX7_sum_53 : decode cX7_sum 53 = .ok (.iload 5, 2) := by decide +kernel
theorem dX7_sum_55 : decode cX7_sum 55 = .ok (.iaload, 1) := by decide +kernel
theorem dX7_sum_56 : decode cX7_sum 56 = .ok (.i2l, 1) := by decide +kernel
theorem dX7_sum_57 : decode cX7_sum 57 = .ok (.goto 4, 3) := by decide +kernel
theorem dX7_sum_60 : decode cX7_sum 60 = .ok (.lconst 0, 1) := by decide +kernel
theorem dX7_sum_61 : decode cX7_sum 61 = .ok (.ladd, 1) := by decide +kernel
theorem dX7_sum_62 : decode cX7_sum 62 = .ok (.lstore_n 3, 1) := by decide +kernel
theorem dX7_sum_63 : decode cX7_sum 63 = .ok (.iinc 5 1, 3) := by decide +kernel
theorem dX7_sum_66 : decode cX7_sum 66 = .ok (.goto (-56), 3) := by decide +kernel
theorem dX7_sum_69 : decode cX7_sum 69 = .ok (.iconst 0, 1) := by decide +kernel
theorem dX7_sum_70 : decode cX7_sum 70 = .ok (.istore 5, 2) := by decide +kernel
theorem dX7_sum_72 : decode cX7_sum 72 = .ok (.iload 5, 2) := by decide +kernel
theorem dX7_sum_74 : decode cX7_sum 74 = .ok (.aload_n 0, 1) := by decide +kernel
theorem dX7_sum_75 : decode cX7_sum 75 = .ok (.getfield 82, 3) := by decide +kernel
theorem dX7_sum_78 : decode cX7_sum 78 = .ok (.if_icmp .ge 49, 3) := by decide +kernel
theorem dX7_sum_81 : decode cX7_sum 81 = .ok (.lload_n 3, 1) := by decide +kernel
theorem dX7_sum_82 : decode cX7_sum 82 = .ok (.aload_n 0, 1) := by decide +kernel
theorem dX7_sum_83 : decode cX7_sum 83 = .ok (.getfield 16, 3) := by decide +kernel
theorem dX7_sum_86 : decode cX7_sum 86 = .ok (.iload 5, 2) := by decide +kernel
theorem dX7_sum_88 : decode cX7_sum 88 = .ok (.iaload, 1) := by decide +kernel
theorem dX7_sum_89 : decode cX7_sum 89 = .ok (.iload_n 1, 1) := by decide +kernel
theorem dX7_sum_90 : decode cX7_sum 90 = .ok (.iload_n 2, 1) := by decide +kernel
theorem dX7_sum_91 : decode cX7_sum 91 = .ok (.invokestatic 75, 3) := by decide +kernel
theorem dX7_sum_94 : decode cX7_sum 94 = .ok (.ifCond .eq 24, 3) := by decide +kernel
theorem dX7_sum_97 : decode cX7_sum 97 = .ok (.aload_n 0, 1) := by decide +kernel
theorem dX7_sum_98 : decode cX7_sum 98 = .ok (.getfield 22, 3) := by decide +kernel
theorem dX7_sum_101 : decode cX7_sum 101 = .ok (.iload 5, 2) := by decide +kernel
theorem dX7_sum_103 : decode cX7_sum 103 = .ok (.iaload, 1) := by decide +kernel
theorem dX7_sum_104 : decode cX7_sum 104 = .ok (.ifCond .ne 14, 3) := by decide +kernel
theorem dX7_sum_107 : decode cX7_sum 107 = .ok (.aload_n 0, 1) := by decide +kernel
theorem dX7_sum_108 : decode cX7_sum 108 = .ok (.getfield 19, 3) := by decide +kernel
theorem dX7_sum_111 : decode cX7_sum 111 = .ok (.iload 5, 2) := by decide +kernel
theorem dX7_sum_113 : decode cX7_sum 113 = .ok (.iaload, 1) := by decide +kernel
theorem dX7_sum_114 : decode cX7_sum 114 = .ok (.i2l, 1) := by decide +kernel
theorem dX7_sum_115 : decode cX7_sum 115 = .ok (.goto 4, 3) := by decide +kernel
theorem dX7_sum_118 : decode cX7_sum 118 = .ok (.lconst 0, 1) := by decide +kernel
theorem dX7_sum_119 : decode cX7_sum 119 = .ok (.ladd, 1) := by decide +kernel
theorem dX7_sum_120 : decode cX7_sum 120 = .ok (.lstore_n 3, 1) := by decide +kernel
theorem dX7_sum_121 : decode cX7_sum 121 = .ok (.iinc 5 1, 3) := by decide +kernel
theorem dX7_sum_124 : decode cX7_sum 124 = .ok (.goto (-52), 3) := by decide +kernel
theorem dX7_sum_127 : decode cX7_sum 127 = .ok (.lload_n 3, 1) := by decide +kernel
theorem dX7_sum_128 : decode cX7_sum 128 = .ok (.lreturn, 1) := by decide +kernel
def rm_X7_sum : Room := { frames := 1, cells := 0, slots := 0, locals := 22 }
abbrev p_X7_sum (g : kG) (h : Nat) (zth : Int32) (zsg : Int32) (zl1 : Int64) (zl2 : Int64) (zl3 : Int64) (zl4 : Int64) (zpb : Int32) (zln : Int32) (zat : Int32) (zrk : Int32) (zrv : Int32) (zre : Int32) (zwr : Int32) (zrm : Int32) (zrs : Int32) (zis : Int32) (zss : Int32) (zsc : Int32) (ak : Nat) (av : Nat) (bk : Nat) (bv : Nat) (br : Nat) (a_s : Nat) (a_t : Nat) (g1 : Nat) (g2 : Nat) (g3 : Nat) (pa : Nat) (ru : Nat) (tx : Nat) (dk : Nat) (dv : Nat) (ek : Nat) (ev : Nat) (er : Nat) (es : Nat) (et : Nat) (nA : Nat) (fk : Nat → Int32) (fv : Nat → Int32) (nB : Nat) (ck : Nat → Int32) (cv : Nat → Int32) (cr : Nat → Int32) (M : List kE3) (C : List kE3) (lo : Int32) (hi : Int32) : Int64 → va_W → Prop := fun r w1 => r = sumS lo hi (gat M C) ∧ w1 = [(h, .inr (9, [.int 0, .int (nI nA), .int (nI nB), .ref ak, .ref av, .ref bk, .ref bv, .ref br, .ref a_s, .ref a_t, .int zsg, .ref g1, .ref g2, .ref g3, .long zl1, .long zl2, .long zl3, .long zl4, .int zpb, .ref pa, .ref ru, .ref tx, .int zln, .int zat, .int zrk, .int zrv, .int zre, .int zwr, .int zrm, .int zrs, .int zis, .int zss, .int zsc, .ref dk, .ref dv, .ref ek, .ref ev, .ref er, .ref es, .ref et])), (ak, .inl (g.2.1.1, 152, .inl fk)), (av, .inl (g.2.1.1, 152, .inl fv)), (bk, .inl (g.2.1.1, 24, .inl ck)), (bv, .inl (g.2.1.1, 24, .inl cv)), (br, .inl (g.2.1.1, 24, .inl cr))]
set_option maxHeartbeats 4000000 in
set_option maxRecDepth 100000 in
theorem c_X7_sum (l : Launch) (g : kG) (h : Nat) (zth : Int32) (zsg : Int32) (zl1 : Int64) (zl2 : Int64) (zl3 : Int64) (zl4 : Int64) (zpb : Int32) (zln : Int32) (zat : Int32) (zrk : Int32) (zrv : Int32) (zre : Int32) (zwr : Int32) (zrm : Int32) (zrs : Int32) (zis : Int32) (zss : Int32) (zsc : Int32) (ak : Nat) (av : Nat) (bk : Nat) (bv : Nat) (br : Nat) (a_s : Nat) (a_t : Nat) (g1 : Nat) (g2 : Nat) (g3 : Nat) (pa : Nat) (ru : Nat) (tx : Nat) (dk : Nat) (dv : Nat) (ek : Nat) (ev : Nat) (er : Nat) (es : Nat) (et : Nat) (nA : Nat) (fk : Nat → Int32) (fv : Nat → Int32) (nB : Nat) (ck : Nat → Int32) (cv : Nat → Int32) (cr : Nat → Int32) (M : List kE3) (C : List kE3) (lo : Int32) (hi : Int32) (hMM : kMM nA fk fv nB ck cv cr M C) : KL l yX7_sum wsX7_sum rm_X7_sum g [.ref h, .int lo, .int hi] [(h, .inr (9, [.int zth, .int (nI nA), .int (nI nB), .ref ak, .ref av, .ref bk, .ref bv, .ref br, .ref a_s, .ref a_t, .int zsg, .ref g1, .ref g2, .ref g3, .long zl1, .long zl2, .long zl3, .long zl4, .int zpb, .ref pa, .ref ru, .ref tx, .int zln, .int zat, .int zrk, .int zrv, .int zre, .int zwr, .int zrm, .int zrs, .int zis, .int zss, .int zsc, .ref dk, .ref dv, .ref ek, .ref ev, .ref er, .ref es, .ref et])), (ak, .inl (g.2.1.1, 152, .inl fk)), (av, .inl (g.2.1.1, 152, .inl fv)), (bk, .inl (g.2.1.1, 24, .inl ck)), (bv, .inl (g.2.1.1, 24, .inl cv)), (br, .inl (g.2.1.1, 24, .inl cr))] (p_X7_sum g h zth zsg zl1 zl2 zl3 zl4 zpb zln zat zrk zrv zre zwr zrm zrs zis zss zsc ak av bk bv br a_s a_t g1 g2 g3 pa ru tx dk dv ek ev er es et nA fk fv nB ck cv cr M C lo hi) := by
  refine kbodyL (cc := cX7_sum) (n := 6) (k := 6) (own := RX7) (plainFor_of_name (by decide)) rfl rfl rfl rfl ?_
  intro p e s m below meth cd A ls hcx
  obtain ⟨hx, hb, hRt, hml, hts, hown, hlk, hA, hP, hK, hD, hE, hS, hl⟩ := hcx
  have hl : lv_has ls 6 [(0, .ref h), (1, .int lo), (2, .int hi)] := hl
  obtain ⟨⟨hM, hC⟩, ⟨hnM, hnC⟩, ⟨hIM, hIC⟩, hlen, hrem⟩ := id hMM
  have hsM : kSo (EL nA fk fv fz0) := by rw [hM]; exact hIM.1
  have hsC : kSo (EL nB ck cv cr) := by rw [hC]; exact hIC.1
  have hnl : nA = M.length := by rw [← hM, EL_len]
  have hcl : nB = C.length := by rw [← hC, EL_len]
  refine lv_aload_n hx hb dX7_sum_0 rfl (lv_at hl 0 rfl) ?_
  refine lv_iconst (v := 0) hx hb dX7_sum_1 (by decide) ?_
  refine va_put (D := g.1) (ci := 9) (v := .int 0) (ty := .int) (C := RX7) (T := TX7) (N := 40) hx hb hts (by decide +kernel) tyX7 tyX7_ok nmX7 hown hK hP hD hS 0 rfl rfl 0 (by decide) (hts (.fieldLink RX7 71 "LearnedIndexModel" "thrown" "I") (by decide +kernel)) (fun _ h9 => h9) rfl (by decide +kernel) rfl rfl (Nat.le_of_ble_eq_true rfl) dX7_sum_2 (fun H locs hP hD hS => ?_)
  have hP : va_P g.1 vwCl [(h, .inr (9, [.int 0, .int (nI nA), .int (nI nB), .ref ak, .ref av, .ref bk, .ref bv, .ref br, .ref a_s, .ref a_t, .int zsg, .ref g1, .ref g2, .ref g3, .long zl1, .long zl2, .long zl3, .long zl4, .int zpb, .ref pa, .ref ru, .ref tx, .int zln, .int zat, .int zrk, .int zrv, .int zre, .int zwr, .int zrm, .int zrs, .int zis, .int zss, .int zsc, .ref dk, .ref dv, .ref ek, .ref ev, .ref er, .ref es, .ref et])), (ak, .inl (g.2.1.1, 152, .inl fk)), (av, .inl (g.2.1.1, 152, .inl fv)), (bk, .inl (g.2.1.1, 24, .inl ck)), (bv, .inl (g.2.1.1, 24, .inl cv)), (br, .inl (g.2.1.1, 24, .inl cr))] H := hP
  have hD : va_D A [(h, .inr (9, [.int 0, .int (nI nA), .int (nI nB), .ref ak, .ref av, .ref bk, .ref bv, .ref br, .ref a_s, .ref a_t, .int zsg, .ref g1, .ref g2, .ref g3, .long zl1, .long zl2, .long zl3, .long zl4, .int zpb, .ref pa, .ref ru, .ref tx, .int zln, .int zat, .int zrk, .int zrv, .int zre, .int zwr, .int zrm, .int zrs, .int zis, .int zss, .int zsc, .ref dk, .ref dv, .ref ek, .ref ev, .ref er, .ref es, .ref et])), (ak, .inl (g.2.1.1, 152, .inl fk)), (av, .inl (g.2.1.1, 152, .inl fv)), (bk, .inl (g.2.1.1, 24, .inl ck)), (bv, .inl (g.2.1.1, 24, .inl cv)), (br, .inl (g.2.1.1, 24, .inl cr))] := hD
  refine lv_lconst (v := 0) hx hb dX7_sum_5 (by decide) ?_
  rw [show (0 : Int64) = kL (((M.take 0).map (sgA (gRg lo hi) C)).sum) from rfl]
  refine lv_lstore_n (lv' := [(3, .long (kL (((M.take 0).map (sgA (gRg lo hi) C)).sum))), (0, .ref h), (1, .int lo), (2, .int hi)]) hx hb dX7_sum_6 rfl hl (by decide) rfl (fun ls hl => ?_)
  refine lv_iconst (v := 0) hx hb dX7_sum_7 (by decide) ?_
  refine lv_istore (lv' := [(5, .int 0), (3, .long (kL (((M.take 0).map (sgA (gRg lo hi) C)).sum))), (0, .ref h), (1, .int lo), (2, .int hi)]) hx hb dX7_sum_8 hl (by decide) rfl (fun ls hl => ?_)
  have L10 : ∀ (n9 : Nat) (j : Nat) (H : Heap) (locs : List Loc) (ls : Array Slot), (j ≤ nA) → nA - j < n9 → va_P g.1 vwCl [(h, .inr (9, [.int 0, .int (nI nA), .int (nI nB), .ref ak, .ref av, .ref bk, .ref bv, .ref br, .ref a_s, .ref a_t, .int zsg, .ref g1, .ref g2, .ref g3, .long zl1, .long zl2, .long zl3, .long zl4, .int zpb, .ref pa, .ref ru, .ref tx, .int zln, .int zat, .int zrk, .int zrv, .int zre, .int zwr, .int zrm, .int zrs, .int zis, .int zss, .int zsc, .ref dk, .ref dv, .ref ek, .ref ev, .ref er, .ref es, .ref et])), (ak, .inl (g.2.1.1, 152, .inl fk)), (av, .inl (g.2.1.1, 152, .inl fv)), (bk, .inl (g.2.1.1, 24, .inl ck)), (bv, .inl (g.2.1.1, 24, .inl cv)), (br, .inl (g.2.1.1, 24, .inl cr))] H → va_D A [(h, .inr (9, [.int 0, .int (nI nA), .int (nI nB), .ref ak, .ref av, .ref bk, .ref bv, .ref br, .ref a_s, .ref a_t, .int zsg, .ref g1, .ref g2, .ref g3, .long zl1, .long zl2, .long zl3, .long zl4, .int zpb, .ref pa, .ref ru, .ref tx, .int zln, .int zat, .int zrk, .int zrv, .int zre, .int zwr, .int zrm, .int zrs, .int zis, .int zss, .int zsc, .ref dk, .ref dv, .ref ek, .ref ev, .ref er, .ref es, .ref et])), (ak, .inl (g.2.1.1, 152, .inl fk)), (av, .inl (g.2.1.1, 152, .inl fv)), (bk, .inl (g.2.1.1, 24, .inl ck)), (bv, .inl (g.2.1.1, 24, .inl cv)), (br, .inl (g.2.1.1, 24, .inl cr))] → va_S A s.heap H locs → lv_has ls 6 [(5, .int (nI j)), (3, .long (kL (((M.take j).map (sgA (gRg lo hi) C)).sum))), (0, .ref h), (1, .int lo), (2, .int hi)] → W p l e rm_X7_sum s m ([.ref h, .int lo, .int hi] : List Value).toArray below meth cd H locs 0 0 (kQl g 6 A (p_X7_sum g h zth zsg zl1 zl2 zl3 zl4 zpb zln zat zrk zrv zre zwr zrm zrs zis zss zsc ak av bk bv br a_s a_t g1 g2 g3 pa ru tx dk dv ek ev er es et nA fk fv nB ck cv cr M C lo hi) below ([.ref h, .int lo, .int hi] : List Value).toArray s) (F0 m 10 ls []) := by
    intro n9
    induction n9 with
    | zero => intro j H locs ls hj h9; exact absurd h9 (Nat.not_lt_zero _)
    | succ n9 ih10 =>
      intro j H locs ls hj hn10 hP hD hS hl
      refine lv_iload hx hb dX7_sum_10 (lv_at hl 0 rfl) ?_
      refine lv_aload_n hx hb dX7_sum_12 rfl (lv_at hl 2 rfl) ?_
      refine va_get (D := g.1) (ci := 9) (v := .int (nI nA)) (C := RX7) (T := TX7) (N := 40) hx hb hts (by decide +kernel) hown hK hP 0 rfl rfl 1 (by decide) (hts (.fieldLink RX7 79 "LearnedIndexModel" "size" "I") (by decide +kernel)) (fun _ h9 => h9) rfl dX7_sum_13 ?_
      refine lv_icmp_ge (tgt := 69) hx hb dX7_sum_16 (by decide) (fun c_16 => ?_) (fun c_16 => ?_)
      · skip
        have hjn : nA ≤ j := kg (by omega) (by omega) c_16
        have hsw : (((M.take j).map (sgA (gRg lo hi) C)).sum) = ((M.map (sgA (gRg lo hi) C)).sum + ((C.take 0).map (sgB (gRg lo hi))).sum) := by rw [List.take_of_length_le (by omega)]; simp
        rw [show (kL (((M.take j).map (sgA (gRg lo hi) C)).sum) : Int64) = kL ((M.map (sgA (gRg lo hi) C)).sum + ((C.take 0).map (sgB (gRg lo hi))).sum) from by rw [hsw]] at hl
        have hl : lv_has ls 6 [(5, .int (nI j)), (3, .long (kL ((M.map (sgA (gRg lo hi) C)).sum + ((C.take 0).map (sgB (gRg lo hi))).sum))), (0, .ref h), (1, .int lo), (2, .int hi)] := hl
        refine lv_iconst (v := 0) hx hb dX7_sum_69 (by decide) ?_
        refine lv_istore (lv' := [(5, .int 0), (3, .long (kL ((M.map (sgA (gRg lo hi) C)).sum + ((C.take 0).map (sgB (gRg lo hi))).sum))), (0, .ref h), (1, .int lo), (2, .int hi)]) hx hb dX7_sum_70 hl (by decide) rfl (fun ls hl => ?_)
        have L72 : ∀ (n9 : Nat) (j : Nat) (H : Heap) (locs : List Loc) (ls : Array Slot), (j ≤ nB) → nB - j < n9 → va_P g.1 vwCl [(h, .inr (9, [.int 0, .int (nI nA), .int (nI nB), .ref ak, .ref av, .ref bk, .ref bv, .ref br, .ref a_s, .ref a_t, .int zsg, .ref g1, .ref g2, .ref g3, .long zl1, .long zl2, .long zl3, .long zl4, .int zpb, .ref pa, .ref ru, .ref tx, .int zln, .int zat, .int zrk, .int zrv, .int zre, .int zwr, .int zrm, .int zrs, .int zis, .int zss, .int zsc, .ref dk, .ref dv, .ref ek, .ref ev, .ref er, .ref es, .ref et])), (ak, .inl (g.2.1.1, 152, .inl fk)), (av, .inl (g.2.1.1, 152, .inl fv)), (bk, .inl (g.2.1.1, 24, .inl ck)), (bv, .inl (g.2.1.1, 24, .inl cv)), (br, .inl (g.2.1.1, 24, .inl cr))] H → va_D A [(h, .inr (9, [.int 0, .int (nI nA), .int (nI nB), .ref ak, .ref av, .ref bk, .ref bv, .ref br, .ref a_s, .ref a_t, .int zsg, .ref g1, .ref g2, .ref g3, .long zl1, .long zl2, .long zl3, .long zl4, .int zpb, .ref pa, .ref ru, .ref tx, .int zln, .int zat, .int zrk, .int zrv, .int zre, .int zwr, .int zrm, .int zrs, .int zis, .int zss, .int zsc, .ref dk, .ref dv, .ref ek, .ref ev, .ref er, .ref es, .ref et])), (ak, .inl (g.2.1.1, 152, .inl fk)), (av, .inl (g.2.1.1, 152, .inl fv)), (bk, .inl (g.2.1.1, 24, .inl ck)), (bv, .inl (g.2.1.1, 24, .inl cv)), (br, .inl (g.2.1.1, 24, .inl cr))] → va_S A s.heap H locs → lv_has ls 6 [(5, .int (nI j)), (3, .long (kL ((M.map (sgA (gRg lo hi) C)).sum + ((C.take j).map (sgB (gRg lo hi))).sum))), (0, .ref h), (1, .int lo), (2, .int hi)] → W p l e rm_X7_sum s m ([.ref h, .int lo, .int hi] : List Value).toArray below meth cd H locs 0 0 (kQl g 6 A (p_X7_sum g h zth zsg zl1 zl2 zl3 zl4 zpb zln zat zrk zrv zre zwr zrm zrs zis zss zsc ak av bk bv br a_s a_t g1 g2 g3 pa ru tx dk dv ek ev er es et nA fk fv nB ck cv cr M C lo hi) below ([.ref h, .int lo, .int hi] : List Value).toArray s) (F0 m 72 ls []) := by
          intro n9
          induction n9 with
          | zero => intro j H locs ls hj h9; exact absurd h9 (Nat.not_lt_zero _)
          | succ n9 ih72 =>
            intro j H locs ls hj hn72 hP hD hS hl
            refine lv_iload hx hb dX7_sum_72 (lv_at hl 0 rfl) ?_
            refine lv_aload_n hx hb dX7_sum_74 rfl (lv_at hl 2 rfl) ?_
            refine va_get (D := g.1) (ci := 9) (v := .int (nI nB)) (C := RX7) (T := TX7) (N := 40) hx hb hts (by decide +kernel) hown hK hP 0 rfl rfl 2 (by decide) (hts (.fieldLink RX7 82 "LearnedIndexModel" "changes" "I") (by decide +kernel)) (fun _ h9 => h9) rfl dX7_sum_75 ?_
            refine lv_icmp_ge (tgt := 127) hx hb dX7_sum_78 (by decide) (fun c_78 => ?_) (fun c_78 => ?_)
            · skip
              have hjn : nB ≤ j := kg (by omega) (by omega) c_78
              refine lv_lload_n hx hb dX7_sum_127 rfl (lv_at hl 1 rfl) ?_
              exact kretl hx hb hRt hlk hK hP hD hS rfl dX7_sum_128 (⟨by rw [List.take_of_length_le (by omega), ← gat_sum _ C M hIM.1 hIC.1 (kMM_z hMM), ← sumS_kL], rfl⟩)
            · skip
              have hjn : j < nB := kl (by omega) (by omega) c_78
              have hge : C[j]? = some (ck j, cv j, cr j) := by rw [← hC, EL_get, if_pos hjn]
              have htk := take_sum (f := sgB (gRg lo hi)) hge
              have h01 := (hIC.2 _ (List.mem_of_getElem? hge)).2
              have hbb := (isB_ne (v := ck j) (a := lo) (b := hi))
              have hbe := (isB_eq (v := ck j) (a := lo) (b := hi))
              refine lv_lload_n hx hb dX7_sum_81 rfl (lv_at hl 1 rfl) ?_
              refine lv_aload_n hx hb dX7_sum_82 rfl (lv_at hl 2 rfl) ?_
              refine va_get (D := g.1) (ci := 9) (v := .ref bk) (C := RX7) (T := TX7) (N := 40) hx hb hts (by decide +kernel) hown hK hP 0 rfl rfl 5 (by decide) (hts (.fieldLink RX7 16 "LearnedIndexModel" "changedKeys" "[I") (by decide +kernel)) (fun _ h9 => h9) rfl dX7_sum_83 ?_
              refine lv_iload hx hb dX7_sum_86 (lv_at hl 0 rfl) ?_
              refine va_iald hx hb hK hP 3 0 rfl rfl (vp_in_nI (show j < 24 by omega) (by omega)) dX7_sum_88 ?_
              rw [show (nI j : Int32).toNatClampNeg = j from nI_clamp (n := j) (by omega)]
              refine lv_iload_n hx hb dX7_sum_89 rfl (lv_at hl 3 rfl) ?_
              refine lv_iload_n hx hb dX7_sum_90 rfl (lv_at hl 4 rfl) ?_
              refine kcalli (wc := []) [] (va_runS (As := [.int (ck j), .int lo, .int hi]) (rest := [.long (kL ((M.map (sgA (gRg lo hi) C)).sum + ((C.take j).map (sgB (gRg lo hi))).sum))]) ⟨hx, hb, hml, hown, hts⟩ ((c_X7_isBetween l g (ck j) lo hi) _) (va_cwS 3 hts gX7_sum_X7_isBetween rfl rfl rfl (by decide +kernel) ⟨Nat.le_of_ble_eq_true rfl, Nat.le_of_ble_eq_true rfl⟩) (kpreS (wc := []) hK hP hD hS hA hE [] rfl rfl) rfl rfl hl.1 rfl (lv_room (Nat.le_of_ble_eq_true rfl)) dX7_sum_91 ⟨Nat.zero_le _, Nat.zero_le _⟩) hP hD hS hA rfl (fun r_1 w_1 H locs hp hP hD hS => ?_)
              obtain ⟨rfl, rfl⟩ := hp
              have hP : va_P g.1 vwCl [(h, .inr (9, [.int 0, .int (nI nA), .int (nI nB), .ref ak, .ref av, .ref bk, .ref bv, .ref br, .ref a_s, .ref a_t, .int zsg, .ref g1, .ref g2, .ref g3, .long zl1, .long zl2, .long zl3, .long zl4, .int zpb, .ref pa, .ref ru, .ref tx, .int zln, .int zat, .int zrk, .int zrv, .int zre, .int zwr, .int zrm, .int zrs, .int zis, .int zss, .int zsc, .ref dk, .ref dv, .ref ek, .ref ev, .ref er, .ref es, .ref et])), (ak, .inl (g.2.1.1, 152, .inl fk)), (av, .inl (g.2.1.1, 152, .inl fv)), (bk, .inl (g.2.1.1, 24, .inl ck)), (bv, .inl (g.2.1.1, 24, .inl cv)), (br, .inl (g.2.1.1, 24, .inl cr))] H := hP
              have hD : va_D A [(h, .inr (9, [.int 0, .int (nI nA), .int (nI nB), .ref ak, .ref av, .ref bk, .ref bv, .ref br, .ref a_s, .ref a_t, .int zsg, .ref g1, .ref g2, .ref g3, .long zl1, .long zl2, .long zl3, .long zl4, .int zpb, .ref pa, .ref ru, .ref tx, .int zln, .int zat, .int zrk, .int zrv, .int zre, .int zwr, .int zrm, .int zrs, .int zis, .int zss, .int zsc, .ref dk, .ref dv, .ref ek, .ref ev, .ref er, .ref es, .ref et])), (ak, .inl (g.2.1.1, 152, .inl fk)), (av, .inl (g.2.1.1, 152, .inl fv)), (bk, .inl (g.2.1.1, 24, .inl ck)), (bv, .inl (g.2.1.1, 24, .inl cv)), (br, .inl (g.2.1.1, 24, .inl cr))] := hD
              refine lv_if_eq (tgt := 118) hx hb dX7_sum_94 (by decide) (fun c_94 => ?_) (fun c_94 => ?_)
              · skip
                have hf : sgB (gRg lo hi) (ck j, cv j, cr j) = 0 := by unfold sgB gRg; split; rfl; exact if_neg (fun z => (hbe.mp c_94).elim (fun q => (Int32.not_le.mpr q) z.1) (fun q => (Int32.not_le.mpr q) z.2))
                refine lv_lconst (v := 0) hx hb dX7_sum_118 (by decide) ?_
                refine lv_ladd hx hb dX7_sum_119 ?_
                refine lv_lstore_n (lv' := [(3, .long ((kL ((M.map (sgA (gRg lo hi) C)).sum + ((C.take j).map (sgB (gRg lo hi))).sum)) + 0)), (5, .int (nI j)), (0, .ref h), (1, .int lo), (2, .int hi)]) hx hb dX7_sum_120 rfl hl (by decide) rfl (fun ls hl => ?_)
                rw [show ((kL ((M.map (sgA (gRg lo hi) C)).sum + ((C.take j).map (sgB (gRg lo hi))).sum)) + 0 : Int64) = kL ((M.map (sgA (gRg lo hi) C)).sum + ((C.take (j + 1)).map (sgB (gRg lo hi))).sum) from by rw [htk, hf, ← Int.add_assoc]; first | exact kLa0 _ | exact kL_add _ _] at hl
                have hl : lv_has ls 6 [(3, .long (kL ((M.map (sgA (gRg lo hi) C)).sum + ((C.take (j + 1)).map (sgB (gRg lo hi))).sum))), (5, .int (nI j)), (0, .ref h), (1, .int lo), (2, .int hi)] := hl
                refine lv_iinc (v := nI (j + 1)) (lv' := [(5, .int (nI (j + 1))), (3, .long (kL ((M.map (sgA (gRg lo hi) C)).sum + ((C.take (j + 1)).map (sgB (gRg lo hi))).sum))), (0, .ref h), (1, .int lo), (2, .int hi)]) hx hb dX7_sum_121 hl (k := 1) rfl (nI_1 j) (by decide) rfl (fun ls hl => ?_)
                refine lv_goto (tgt := 72) hx hb dX7_sum_124 (by decide) ?_
                exact ih72 (j + 1) _ _ ls hjn (by omega) hP hD hS (lv_sub hl [0, 1, 2, 3, 4] rfl)
              · skip
                refine lv_aload_n hx hb dX7_sum_97 rfl (lv_at hl 2 rfl) ?_
                refine va_get (D := g.1) (ci := 9) (v := .ref br) (C := RX7) (T := TX7) (N := 40) hx hb hts (by decide +kernel) hown hK hP 0 rfl rfl 7 (by decide) (hts (.fieldLink RX7 22 "LearnedIndexModel" "changedKinds" "[I") (by decide +kernel)) (fun _ h9 => h9) rfl dX7_sum_98 ?_
                refine lv_iload hx hb dX7_sum_101 (lv_at hl 0 rfl) ?_
                refine va_iald hx hb hK hP 5 0 rfl rfl (vp_in_nI (show j < 24 by omega) (by omega)) dX7_sum_103 ?_
                rw [show (nI j : Int32).toNatClampNeg = j from nI_clamp (n := j) (by omega)]
                refine lv_if_ne (tgt := 118) hx hb dX7_sum_104 (by decide) (fun c_104 => ?_) (fun c_104 => ?_)
                · skip
                  have hf : sgB (gRg lo hi) (ck j, cv j, cr j) = 0 := by unfold sgB; rw [if_pos (h01.elim (fun z => absurd z c_104) id)]
                  refine lv_lconst (v := 0) hx hb dX7_sum_118 (by decide) ?_
                  refine lv_ladd hx hb dX7_sum_119 ?_
                  refine lv_lstore_n (lv' := [(3, .long ((kL ((M.map (sgA (gRg lo hi) C)).sum + ((C.take j).map (sgB (gRg lo hi))).sum)) + 0)), (5, .int (nI j)), (0, .ref h), (1, .int lo), (2, .int hi)]) hx hb dX7_sum_120 rfl hl (by decide) rfl (fun ls hl => ?_)
                  rw [show ((kL ((M.map (sgA (gRg lo hi) C)).sum + ((C.take j).map (sgB (gRg lo hi))).sum)) + 0 : Int64) = kL ((M.map (sgA (gRg lo hi) C)).sum + ((C.take (j + 1)).map (sgB (gRg lo hi))).sum) from by rw [htk, hf, ← Int.add_assoc]; first | exact kLa0 _ | exact kL_add _ _] at hl
                  have hl : lv_has ls 6 [(3, .long (kL ((M.map (sgA (gRg lo hi) C)).sum + ((C.take (j + 1)).map (sgB (gRg lo hi))).sum))), (5, .int (nI j)), (0, .ref h), (1, .int lo), (2, .int hi)] := hl
                  refine lv_iinc (v := nI (j + 1)) (lv' := [(5, .int (nI (j + 1))), (3, .long (kL ((M.map (sgA (gRg lo hi) C)).sum + ((C.take (j + 1)).map (sgB (gRg lo hi))).sum))), (0, .ref h), (1, .int lo), (2, .int hi)]) hx hb dX7_sum_121 hl (k := 1) rfl (nI_1 j) (by decide) rfl (fun ls hl => ?_)
                  refine lv_goto (tgt := 72) hx hb dX7_sum_124 (by decide) ?_
                  exact ih72 (j + 1) _ _ ls hjn (by omega) hP hD hS (lv_sub hl [0, 1, 2, 3, 4] rfl)
                · skip
                  have hf : sgB (gRg lo hi) (ck j, cv j, cr j) = (cv j).toInt := by unfold sgB gRg; rw [if_neg (by simp only; rw [c_104]; decide)]; exact if_pos ⟨Int32.not_lt.mp (hbb.mp c_94).1, Int32.not_lt.mp (hbb.mp c_94).2⟩
                  refine lv_aload_n hx hb dX7_sum_107 rfl (lv_at hl 2 rfl) ?_
                  refine va_get (D := g.1) (ci := 9) (v := .ref bv) (C := RX7) (T := TX7) (N := 40) hx hb hts (by decide +kernel) hown hK hP 0 rfl rfl 6 (by decide) (hts (.fieldLink RX7 19 "LearnedIndexModel" "changedValues" "[I") (by decide +kernel)) (fun _ h9 => h9) rfl dX7_sum_108 ?_
                  refine lv_iload hx hb dX7_sum_111 (lv_at hl 0 rfl) ?_
                  refine va_iald hx hb hK hP 4 0 rfl rfl (vp_in_nI (show j < 24 by omega) (by omega)) dX7_sum_113 ?_
                  rw [show (nI j : Int32).toNatClampNeg = j from nI_clamp (n := j) (by omega)]
                  refine lv_i2l hx hb dX7_sum_114 rfl ?_
                  refine lv_goto (tgt := 119) hx hb dX7_sum_115 (by decide) ?_
                  refine lv_ladd hx hb dX7_sum_119 ?_
                  refine lv_lstore_n (lv' := [(3, .long ((kL ((M.map (sgA (gRg lo hi) C)).sum + ((C.take j).map (sgB (gRg lo hi))).sum)) + ((cv j).toInt64))), (5, .int (nI j)), (0, .ref h), (1, .int lo), (2, .int hi)]) hx hb dX7_sum_120 rfl hl (by decide) rfl (fun ls hl => ?_)
                  rw [show ((kL ((M.map (sgA (gRg lo hi) C)).sum + ((C.take j).map (sgB (gRg lo hi))).sum)) + ((cv j).toInt64) : Int64) = kL ((M.map (sgA (gRg lo hi) C)).sum + ((C.take (j + 1)).map (sgB (gRg lo hi))).sum) from by rw [htk, hf, ← Int.add_assoc, show (cv j).toInt64 = kL (cv j).toInt from by { have h1 := Int32.toInt_lt (cv j); have h2 := Int32.le_toInt (cv j); (conv => lhs; rw [kI_of (cv j)]); rw [kL_I (by omega) (by omega)] }]; first | exact kLa0 _ | exact kL_add _ _] at hl
                  have hl : lv_has ls 6 [(3, .long (kL ((M.map (sgA (gRg lo hi) C)).sum + ((C.take (j + 1)).map (sgB (gRg lo hi))).sum))), (5, .int (nI j)), (0, .ref h), (1, .int lo), (2, .int hi)] := hl
                  refine lv_iinc (v := nI (j + 1)) (lv' := [(5, .int (nI (j + 1))), (3, .long (kL ((M.map (sgA (gRg lo hi) C)).sum + ((C.take (j + 1)).map (sgB (gRg lo hi))).sum))), (0, .ref h), (1, .int lo), (2, .int hi)]) hx hb dX7_sum_121 hl (k := 1) rfl (nI_1 j) (by decide) rfl (fun ls hl => ?_)
                  refine lv_goto (tgt := 72) hx hb dX7_sum_124 (by decide) ?_
                  exact ih72 (j + 1) _ _ ls hjn (by omega) hP hD hS (lv_sub hl [0, 1, 2, 3, 4] rfl)
        exact L72 _ 0 _ _ ls (Nat.zero_le _) (Nat.lt_succ_self _) hP hD hS (lv_sub hl [0, 1, 2, 3, 4] rfl)
      · skip
        have hjn : j < nA := kl (by omega) (by omega) c_16
        have hge : M[j]? = some (fk j, fv j, fz0 j) := by rw [← hM, EL_get, if_pos hjn]
        have htk := take_sum (f := sgA (gRg lo hi) C) hge
        have hbb := (isB_ne (v := fk j) (a := lo) (b := hi))
        have hbe := (isB_eq (v := fk j) (a := lo) (b := hi))
        refine lv_lload_n hx hb dX7_sum_19 rfl (lv_at hl 1 rfl) ?_
        refine lv_aload_n hx hb dX7_sum_20 rfl (lv_at hl 2 rfl) ?_
        refine va_get (D := g.1) (ci := 9) (v := .ref ak) (C := RX7) (T := TX7) (N := 40) hx hb hts (by decide +kernel) hown hK hP 0 rfl rfl 3 (by decide) (hts (.fieldLink RX7 9 "LearnedIndexModel" "keys" "[I") (by decide +kernel)) (fun _ h9 => h9) rfl dX7_sum_21 ?_
        refine lv_iload hx hb dX7_sum_24 (lv_at hl 0 rfl) ?_
        refine va_iald hx hb hK hP 1 0 rfl rfl (vp_in_nI (show j < 152 by omega) (by omega)) dX7_sum_26 ?_
        rw [show (nI j : Int32).toNatClampNeg = j from nI_clamp (n := j) (by omega)]
        refine lv_iload_n hx hb dX7_sum_27 rfl (lv_at hl 3 rfl) ?_
        refine lv_iload_n hx hb dX7_sum_28 rfl (lv_at hl 4 rfl) ?_
        refine kcalli (wc := []) [] (va_runS (As := [.int (fk j), .int lo, .int hi]) (rest := [.long (kL (((M.take j).map (sgA (gRg lo hi) C)).sum))]) ⟨hx, hb, hml, hown, hts⟩ ((c_X7_isBetween l g (fk j) lo hi) _) (va_cwS 3 hts gX7_sum_X7_isBetween rfl rfl rfl (by decide +kernel) ⟨Nat.le_of_ble_eq_true rfl, Nat.le_of_ble_eq_true rfl⟩) (kpreS (wc := []) hK hP hD hS hA hE [] rfl rfl) rfl rfl hl.1 rfl (lv_room (Nat.le_of_ble_eq_true rfl)) dX7_sum_29 ⟨Nat.zero_le _, Nat.zero_le _⟩) hP hD hS hA rfl (fun r_2 w_2 H locs hp hP hD hS => ?_)
        obtain ⟨rfl, rfl⟩ := hp
        have hP : va_P g.1 vwCl [(h, .inr (9, [.int 0, .int (nI nA), .int (nI nB), .ref ak, .ref av, .ref bk, .ref bv, .ref br, .ref a_s, .ref a_t, .int zsg, .ref g1, .ref g2, .ref g3, .long zl1, .long zl2, .long zl3, .long zl4, .int zpb, .ref pa, .ref ru, .ref tx, .int zln, .int zat, .int zrk, .int zrv, .int zre, .int zwr, .int zrm, .int zrs, .int zis, .int zss, .int zsc, .ref dk, .ref dv, .ref ek, .ref ev, .ref er, .ref es, .ref et])), (ak, .inl (g.2.1.1, 152, .inl fk)), (av, .inl (g.2.1.1, 152, .inl fv)), (bk, .inl (g.2.1.1, 24, .inl ck)), (bv, .inl (g.2.1.1, 24, .inl cv)), (br, .inl (g.2.1.1, 24, .inl cr))] H := hP
        have hD : va_D A [(h, .inr (9, [.int 0, .int (nI nA), .int (nI nB), .ref ak, .ref av, .ref bk, .ref bv, .ref br, .ref a_s, .ref a_t, .int zsg, .ref g1, .ref g2, .ref g3, .long zl1, .long zl2, .long zl3, .long zl4, .int zpb, .ref pa, .ref ru, .ref tx, .int zln, .int zat, .int zrk, .int zrv, .int zre, .int zwr, .int zrm, .int zrs, .int zis, .int zss, .int zsc, .ref dk, .ref dv, .ref ek, .ref ev, .ref er, .ref es, .ref et])), (ak, .inl (g.2.1.1, 152, .inl fk)), (av, .inl (g.2.1.1, 152, .inl fv)), (bk, .inl (g.2.1.1, 24, .inl ck)), (bv, .inl (g.2.1.1, 24, .inl cv)), (br, .inl (g.2.1.1, 24, .inl cr))] := hD
        refine lv_if_eq (tgt := 60) hx hb dX7_sum_32 (by decide) (fun c_32 => ?_) (fun c_32 => ?_)
        · skip
          have hf : sgA (gRg lo hi) C (fk j, fv j, fz0 j) = 0 := by unfold sgA gRg; split; rfl; exact if_neg (fun z => (hbe.mp c_32).elim (fun q => (Int32.not_le.mpr q) z.1) (fun q => (Int32.not_le.mpr q) z.2))
          refine lv_lconst (v := 0) hx hb dX7_sum_60 (by decide) ?_
          refine lv_ladd hx hb dX7_sum_61 ?_
          refine lv_lstore_n (lv' := [(3, .long ((kL (((M.take j).map (sgA (gRg lo hi) C)).sum)) + 0)), (5, .int (nI j)), (0, .ref h), (1, .int lo), (2, .int hi)]) hx hb dX7_sum_62 rfl hl (by decide) rfl (fun ls hl => ?_)
          rw [show ((kL (((M.take j).map (sgA (gRg lo hi) C)).sum)) + 0 : Int64) = kL (((M.take (j + 1)).map (sgA (gRg lo hi) C)).sum) from by rw [htk, hf]; first | exact kLa0 _ | exact kL_add _ _] at hl
          have hl : lv_has ls 6 [(3, .long (kL (((M.take (j + 1)).map (sgA (gRg lo hi) C)).sum))), (5, .int (nI j)), (0, .ref h), (1, .int lo), (2, .int hi)] := hl
          refine lv_iinc (v := nI (j + 1)) (lv' := [(5, .int (nI (j + 1))), (3, .long (kL (((M.take (j + 1)).map (sgA (gRg lo hi) C)).sum))), (0, .ref h), (1, .int lo), (2, .int hi)]) hx hb dX7_sum_63 hl (k := 1) rfl (nI_1 j) (by decide) rfl (fun ls hl => ?_)
          refine lv_goto (tgt := 10) hx hb dX7_sum_66 (by decide) ?_
          exact ih10 (j + 1) _ _ ls hjn (by omega) hP hD hS (lv_sub hl [0, 1, 2, 3, 4] rfl)
        · skip
          refine lv_aload_n hx hb dX7_sum_35 rfl (lv_at hl 2 rfl) ?_
          refine lv_aload_n hx hb dX7_sum_36 rfl (lv_at hl 2 rfl) ?_
          refine va_get (D := g.1) (ci := 9) (v := .ref ak) (C := RX7) (T := TX7) (N := 40) hx hb hts (by decide +kernel) hown hK hP 0 rfl rfl 3 (by decide) (hts (.fieldLink RX7 9 "LearnedIndexModel" "keys" "[I") (by decide +kernel)) (fun _ h9 => h9) rfl dX7_sum_37 ?_
          refine lv_iload hx hb dX7_sum_40 (lv_at hl 0 rfl) ?_
          refine va_iald hx hb hK hP 1 0 rfl rfl (vp_in_nI (show j < 152 by omega) (by omega)) dX7_sum_42 ?_
          rw [show (nI j : Int32).toNatClampNeg = j from nI_clamp (n := j) (by omega)]
          refine kcalli (wc := [(h, .inr (9, [.int 0, .int (nI nA), .int (nI nB), .ref ak, .ref av, .ref bk, .ref bv, .ref br, .ref a_s, .ref a_t, .int zsg, .ref g1, .ref g2, .ref g3, .long zl1, .long zl2, .long zl3, .long zl4, .int zpb, .ref pa, .ref ru, .ref tx, .int zln, .int zat, .int zrk, .int zrv, .int zre, .int zwr, .int zrm, .int zrs, .int zis, .int zss, .int zsc, .ref dk, .ref dv, .ref ek, .ref ev, .ref er, .ref es, .ref et])), (bk, .inl (g.2.1.1, 24, .inl ck))]) [0, 3] (va_runV (C := RX7) (As := [.int (fk j)]) (rest := [.long (kL (((M.take j).map (sgA (gRg lo hi) C)).sum))]) ⟨hx, hb, hml, hown, hts⟩ ((c_X7_changeOf l g h 0 (nI nA) zsg zl1 zl2 zl3 zl4 zpb zln zat zrk zrv zre zwr zrm zrs zis zss zsc ak av bk bv br a_s a_t g1 g2 g3 pa ru tx dk dv ek ev er es et nB ck cv cr (fk j) hsC (by omega)) _) (cwV 1 hts gX7_sum_X7_changeOf rfl rfl rfl (by decide +kernel) ⟨Nat.le_of_ble_eq_true rfl, Nat.le_of_ble_eq_true rfl⟩) (kpreV (wc := [(h, .inr (9, [.int 0, .int (nI nA), .int (nI nB), .ref ak, .ref av, .ref bk, .ref bv, .ref br, .ref a_s, .ref a_t, .int zsg, .ref g1, .ref g2, .ref g3, .long zl1, .long zl2, .long zl3, .long zl4, .int zpb, .ref pa, .ref ru, .ref tx, .int zln, .int zat, .int zrk, .int zrv, .int zre, .int zwr, .int zrm, .int zrs, .int zis, .int zss, .int zsc, .ref dk, .ref dv, .ref ek, .ref ev, .ref er, .ref es, .ref et])), (bk, .inl (g.2.1.1, 24, .inl ck))]) (ci := 9) hK hP hD hS hA hE [0, 3] rfl rfl rfl rfl) rfl rfl hl.1 rfl (lv_room (Nat.le_of_ble_eq_true rfl)) dX7_sum_43 ⟨Nat.zero_le _, Nat.zero_le _⟩) hP hD hS hA rfl (fun r_3 w_3 H locs hp hP hD hS => ?_)
          obtain ⟨ic, rfl, hfc, rfl⟩ := hp
          have hP : va_P g.1 vwCl [(h, .inr (9, [.int 0, .int (nI nA), .int (nI nB), .ref ak, .ref av, .ref bk, .ref bv, .ref br, .ref a_s, .ref a_t, .int zsg, .ref g1, .ref g2, .ref g3, .long zl1, .long zl2, .long zl3, .long zl4, .int zpb, .ref pa, .ref ru, .ref tx, .int zln, .int zat, .int zrk, .int zrv, .int zre, .int zwr, .int zrm, .int zrs, .int zis, .int zss, .int zsc, .ref dk, .ref dv, .ref ek, .ref ev, .ref er, .ref es, .ref et])), (ak, .inl (g.2.1.1, 152, .inl fk)), (av, .inl (g.2.1.1, 152, .inl fv)), (bk, .inl (g.2.1.1, 24, .inl ck)), (bv, .inl (g.2.1.1, 24, .inl cv)), (br, .inl (g.2.1.1, 24, .inl cr))] H := hP
          have hD : va_D A [(h, .inr (9, [.int 0, .int (nI nA), .int (nI nB), .ref ak, .ref av, .ref bk, .ref bv, .ref br, .ref a_s, .ref a_t, .int zsg, .ref g1, .ref g2, .ref g3, .long zl1, .long zl2, .long zl3, .long zl4, .int zpb, .ref pa, .ref ru, .ref tx, .int zln, .int zat, .int zrk, .int zrv, .int zre, .int zwr, .int zrm, .int zrs, .int zis, .int zss, .int zsc, .ref dk, .ref dv, .ref ek, .ref ev, .ref er, .ref es, .ref et])), (ak, .inl (g.2.1.1, 152, .inl fk)), (av, .inl (g.2.1.1, 152, .inl fv)), (bk, .inl (g.2.1.1, 24, .inl ck)), (bv, .inl (g.2.1.1, 24, .inl cv)), (br, .inl (g.2.1.1, 24, .inl cr))] := hD
          have hkc := kfnd_lkp (by omega) hsC hfc
          rw [hC] at hkc
          refine lv_if_ge (tgt := 60) hx hb dX7_sum_46 (by decide) (fun c_46 => ?_) (fun c_46 => ?_)
          · skip
            have hf : sgA (gRg lo hi) C (fk j, fv j, fz0 j) = 0 := by unfold sgA; rw [if_pos (hkc.1.mp c_46)]
            refine lv_lconst (v := 0) hx hb dX7_sum_60 (by decide) ?_
            refine lv_ladd hx hb dX7_sum_61 ?_
            refine lv_lstore_n (lv' := [(3, .long ((kL (((M.take j).map (sgA (gRg lo hi) C)).sum)) + 0)), (5, .int (nI j)), (0, .ref h), (1, .int lo), (2, .int hi)]) hx hb dX7_sum_62 rfl hl (by decide) rfl (fun ls hl => ?_)
            rw [show ((kL (((M.take j).map (sgA (gRg lo hi) C)).sum)) + 0 : Int64) = kL (((M.take (j + 1)).map (sgA (gRg lo hi) C)).sum) from by rw [htk, hf]; first | exact kLa0 _ | exact kL_add _ _] at hl
            have hl : lv_has ls 6 [(3, .long (kL (((M.take (j + 1)).map (sgA (gRg lo hi) C)).sum))), (5, .int (nI j)), (0, .ref h), (1, .int lo), (2, .int hi)] := hl
            refine lv_iinc (v := nI (j + 1)) (lv' := [(5, .int (nI (j + 1))), (3, .long (kL (((M.take (j + 1)).map (sgA (gRg lo hi) C)).sum))), (0, .ref h), (1, .int lo), (2, .int hi)]) hx hb dX7_sum_63 hl (k := 1) rfl (nI_1 j) (by decide) rfl (fun ls hl => ?_)
            refine lv_goto (tgt := 10) hx hb dX7_sum_66 (by decide) ?_
            exact ih10 (j + 1) _ _ ls hjn (by omega) hP hD hS (lv_sub hl [0, 1, 2, 3, 4] rfl)
          · skip
            have hf : sgA (gRg lo hi) C (fk j, fv j, fz0 j) = (fv j).toInt := by unfold sgA gRg; rw [if_neg (fun z => c_46 (hkc.1.mpr z))]; exact if_pos ⟨Int32.not_lt.mp (hbb.mp c_32).1, Int32.not_lt.mp (hbb.mp c_32).2⟩
            refine lv_aload_n hx hb dX7_sum_49 rfl (lv_at hl 2 rfl) ?_
            refine va_get (D := g.1) (ci := 9) (v := .ref av) (C := RX7) (T := TX7) (N := 40) hx hb hts (by decide +kernel) hown hK hP 0 rfl rfl 4 (by decide) (hts (.fieldLink RX7 13 "LearnedIndexModel" "values" "[I") (by decide +kernel)) (fun _ h9 => h9) rfl dX7_sum_50 ?_
            refine lv_iload hx hb dX7_sum_53 (lv_at hl 0 rfl) ?_
            refine va_iald hx hb hK hP 2 0 rfl rfl (vp_in_nI (show j < 152 by omega) (by omega)) dX7_sum_55 ?_
            rw [show (nI j : Int32).toNatClampNeg = j from nI_clamp (n := j) (by omega)]
            refine lv_i2l hx hb dX7_sum_56 rfl ?_
            refine lv_goto (tgt := 61) hx hb dX7_sum_57 (by decide) ?_
            refine lv_ladd hx hb dX7_sum_61 ?_
            refine lv_lstore_n (lv' := [(3, .long ((kL (((M.take j).map (sgA (gRg lo hi) C)).sum)) + ((fv j).toInt64))), (5, .int (nI j)), (0, .ref h), (1, .int lo), (2, .int hi)]) hx hb dX7_sum_62 rfl hl (by decide) rfl (fun ls hl => ?_)
            rw [show ((kL (((M.take j).map (sgA (gRg lo hi) C)).sum)) + ((fv j).toInt64) : Int64) = kL (((M.take (j + 1)).map (sgA (gRg lo hi) C)).sum) from by rw [htk, hf, show (fv j).toInt64 = kL (fv j).toInt from by { have h1 := Int32.toInt_lt (fv j); have h2 := Int32.le_toInt (fv j); (conv => lhs; rw [kI_of (fv j)]); rw [kL_I (by omega) (by omega)] }]; first | exact kLa0 _ | exact kL_add _ _] at hl
            have hl : lv_has ls 6 [(3, .long (kL (((M.take (j + 1)).map (sgA (gRg lo hi) C)).sum))), (5, .int (nI j)), (0, .ref h), (1, .int lo), (2, .int hi)] := hl
            refine lv_iinc (v := nI (j + 1)) (lv' := [(5, .int (nI (j + 1))), (3, .long (kL (((M.take (j + 1)).map (sgA (gRg lo hi) C)).sum))), (0, .ref h), (1, .int lo), (2, .int hi)]) hx hb dX7_sum_63 hl (k := 1) rfl (nI_1 j) (by decide) rfl (fun ls hl => ?_)
            refine lv_goto (tgt := 10) hx hb dX7_sum_66 (by decide) ?_
            exact ih10 (j + 1) _ _ ls hjn (by omega) hP hD hS (lv_sub hl [0, 1, 2, 3, 4] rfl)
  exact L10 _ 0 _ _ ls (Nat.zero_le _) (Nat.lt_succ_self _) hP hD hS (lv_sub hl [0, 1, 2, 3, 4] rfl)
set_option maxRecDepth 20000 in
theorem ggX7_keyOfRank_X7_isThere : GoodIn wsX7_keyOfRank wsX7_isThere := goodIn_ca (goodIn_r _ [9, 10, 11, 12, 13, 8, 14, 2, 4, 15, 16, 17, 18, 1, 3, 23, 24, 25, 26, 27, 28, 29, 30, 31, 32, 33, 34, 35, 36, 37, 38, 39, 40, 41, 42, 43, 44, 45, 46, 47, 48, 49, 50, 51, 52, 53, 54, 55, 56, 57, 58, 59, 60, 61, 62] (by decide +kernel) (by decide +kernel)) (goodIn_sub (fun _ h => List.mem_cons_of_mem _ (List.mem_append_right _ h)) (by decide +kernel))
set_option maxRecDepth 20000 in
theorem gX7_keyOfRank_X7_isThere : GoodIn wsX7_keyOfRank (wsV RX7 124 RX7 yX7_isThere wsX7_isThere) := goodIn_app (goodIn_of _ (by decide +kernel)) ggX7_keyOfRank_X7_isThere
set_option maxRecDepth 20000 in
theorem ggX7_keyOfRank_X7_countLess : GoodIn wsX7_keyOfRank wsX7_countLess := goodIn_ca (goodIn_r _ [22, 1, 3, 2, 4, 10, 11, 12, 13, 8, 14, 23, 24, 25, 26, 27, 28, 29, 30, 31, 32, 33, 34, 35, 36, 37, 38, 39, 40, 41, 42, 43, 44, 45, 46, 47, 48, 49, 50, 51, 52, 53, 54, 55, 56, 57, 58, 59, 60, 61, 62] (by decide +kernel) (by decide +kernel)) (goodIn_sub (fun _ h => List.mem_cons_of_mem _ (List.mem_append_right _ h)) (by decide +kernel))
set_option maxRecDepth 20000 in
theorem gX7_keyOfRank_X7_countLess : GoodIn wsX7_keyOfRank (wsV RX7 200 RX7 yX7_countLess wsX7_countLess) := goodIn_app (goodIn_of _ (by decide +kernel)) ggX7_keyOfRank_X7_countLess
theorem dX7_keyOfRank_0 : decode cX7_keyOfRank 0 = .ok (.iconst (-1), 1) := by decide +kernel
theorem dX7_keyOfRank_1 : decode cX7_keyOfRank 1 = .ok (.istore_n 2, 1) := by decide +kernel
theorem dX7_keyOfRank_2 : decode cX7_keyOfRank 2 = .ok (.iconst 0, 1) := by decide +kernel
theorem dX7_keyOfRank_3 : decode cX7_keyOfRank 3 = .ok (.istore_n 3, 1) := by decide +kernel
theorem dX7_keyOfRank_4 : decode cX7_keyOfRank 4 = .ok (.iload_n 3, 1) := by decide +kernel
theorem dX7_keyOfRank_5 : decode cX7_keyOfRank 5 = .ok (.aload_n 0, 1) := by decide +kernel
theorem dX7_keyOfRank_6 : decode cX7_keyOfRank 6 = .ok (.getfield 79, 3) := by decide +kernel
theorem dX7_keyOfRank_9 : decode cX7_keyOfRank 9 = .ok (.aload_n 0, 1) := by decide +kernel
theorem dX7_keyOfRank_10 : decode cX7_keyOfRank 10 = .ok (.getfield 82, 3) := by decide +kernel
theorem dX7_keyOfRank_13 : decode cX7_keyOfRank 13 = .ok (.iadd, 1) := by decide +kernel
theorem dX7_keyOfRank_14 : decode cX7_keyOfRank 14 = .ok (.if_icmp .ge 65, 3) := by decide +kernel
theorem dX7_keyOfRank_17 : decode cX7_keyOfRank 17 = .ok (.iload_n 3, 1) := by decide +kernel
theorem dX7_keyOfRank_18 : decode cX7_keyOfRank 18 = .ok (.aload_n 0, 1) := by decide +kernel
theorem dX7_keyOfRank_19 : decode cX7_keyOfRank 19 = .ok (.getfield 79, 3) := by decide +kernel
theorem dX7_keyOfRank_22 : decode cX7_keyOfRank 22 = .ok (.if_icmp .ge 12, 3) := by decide +kernel
theorem dX7_keyOfRank_25 : decode cX7_keyOfRank 25 = .ok (.aload_n 0, 1) := by decide +kernel
theorem dX7_keyOfRank_26 : decode cX7_keyOfRank 26 = .ok (.getfield 9, 3) := by decide +kernel
theorem dX7_keyOfRank_29 : decode cX7_keyOfRank 29 = .ok (.iload_n 3, 1) := by decide +kernel
theorem dX7_keyOfRank_30 : decode cX7_keyOfRank 30 = .ok (.iaload, 1) := by decide +kernel
theorem dX7_keyOfRank_31 : decode cX7_keyOfRank 31 = .ok (.goto 14, 3) := by decide +kernel
theorem dX7_keyOfRank_34 : decode cX7_keyOfRank 34 = .ok (.aload_n 0, 1) := by decide +kernel
theorem dX7_keyOfRank_35 : decode cX7_keyOfRank 35 = .ok (.getfield 16, 3) := by decide +kernel
theorem dX7_keyOfRank_38 : decode cX7_keyOfRank 38 = .ok (.iload_n 3, 1) := by decide +kernel
theorem dX7_keyOfRank_39 : decode cX7_keyOfRank 39 = .ok (.aload_n 0, 1) := by decide +kernel
theorem dX7_keyOfRank_40 : decode cX7_keyOfRank 40 = .ok (.getfield 79, 3) := by decide +kernel
theorem dX7_keyOfRank_43 : decode cX7_keyOfRank 43 = .ok (.isub, 1) := by decide +kernel
theorem dX7_keyOfRank_44 : decode cX7_keyOfRank 44 = .ok (.iaload, 1) := by decide +kernel
theorem dX7_keyOfRank_45 : decode cX7_keyOfRank 45 = .ok (.istore 4, 2) := by decide +kernel
theorem dX7_keyOfRank_47 : decode cX7_keyOfRank 47 = .ok (.aload_n 0, 1) := by decide +kernel
theorem dX7_keyOfRank_48 : decode cX7_keyOfRank 48 = .ok (.iload 4, 2) := by decide +kernel
theorem dX7_keyOfRank_50 : decode cX7_keyOfRank 50 = .ok (.invokevirtual 124, 3) := by decide +kernel
theorem dX7_keyOfRank_53 : decode cX7_keyOfRank 53 = .ok (.ifCond .eq 18, 3) := by decide +kernel
theorem dX7_keyOfRank_56 : decode cX7_keyOfRank 56 = .ok (.aload_n 0, 1) := by decide +kernel
theorem dX7_keyOfRank_57 : decode cX7_keyOfRank 57 = .ok (.iload 4, 2) := by decide +kernel
theorem dX7_keyOfRank_59 : decode cX7_keyOfRank 59 = .ok (.invokevirtual 200, 3) := by decide +kernel
theorem dX7_keyOfRank_62 : decode cX7_keyOfRank 62 = .ok (.iload_n 1, 1) := by decide +kernel
theorem dX7_keyOfRank_63 : decode cX7_keyOfRank 63 = .ok (.if_icmp .ne 8, 3) := by decide +kernel
theorem dX7_keyOfRank_66 : decode cX7_keyOfRank 66 = .ok (.iload 4, 2) := by decide +kernel
theorem dX7_keyOfRank_68 : decode cX7_keyOfRank 68 = .ok (.goto 4, 3) := by decide +kernel
theorem dX7_keyOfRank_71 : decode cX7_keyOfRank 71 = .ok (.iload_n 2, 1) := by decide +kernel
theorem dX7_keyOfRank_72 : decode cX7_keyOfRank 72 = .ok (.istore_n 2, 1) := by decide +kernel
theorem dX7_keyOfRank_73 : decode cX7_keyOfRank 73 = .ok (.iinc 3 1, 3) := by decide +kernel
theorem dX7_keyOfRank_76 : decode cX7_keyOfRank 76 = .ok (.goto (-72), 3) := by decide +kernel
theorem dX7_keyOfRank_79 : decode cX7_keyOfRank 79 = .ok (.iload_n 2, 1) := by decide +kernel
theorem dX7_keyOfRank_80 : decode cX7_keyOfRank 80 = .ok (.ireturn, 1) := by decide +kernel
def rm_X7_keyOfRank : Room := { frames := 2, cells := 0, slots := 0, locals := 45 }
abbrev p_X7_keyOfRank (g : kG) (h : Nat) (zth : Int32) (zsg : Int32) (zl1 : Int64) (zl2 : Int64) (zl3 : Int64) (zl4 : Int64) (zpb : Int32) (zln : Int32) (zat : Int32) (zrk : Int32) (zrv : Int32) (zre : Int32) (zwr : Int32) (zrm : Int32) (zrs : Int32) (zis : Int32) (zss : Int32) (zsc : Int32) (ak : Nat) (av : Nat) (bk : Nat) (bv : Nat) (br : Nat) (a_s : Nat) (a_t : Nat) (g1 : Nat) (g2 : Nat) (g3 : Nat) (pa : Nat) (ru : Nat) (tx : Nat) (dk : Nat) (dv : Nat) (ek : Nat) (ev : Nat) (er : Nat) (es : Nat) (et : Nat) (nA : Nat) (fk : Nat → Int32) (fv : Nat → Int32) (nB : Nat) (ck : Nat → Int32) (cv : Nat → Int32) (cr : Nat → Int32) (M : List kE3) (C : List kE3) (q : Nat) : Int32 → va_W → Prop := fun r w1 => r = gkey (gat M C) q ∧ w1 = [(h, .inr (9, [.int zth, .int (nI nA), .int (nI nB), .ref ak, .ref av, .ref bk, .ref bv, .ref br, .ref a_s, .ref a_t, .int zsg, .ref g1, .ref g2, .ref g3, .long zl1, .long zl2, .long zl3, .long zl4, .int zpb, .ref pa, .ref ru, .ref tx, .int zln, .int zat, .int zrk, .int zrv, .int zre, .int zwr, .int zrm, .int zrs, .int zis, .int zss, .int zsc, .ref dk, .ref dv, .ref ek, .ref ev, .ref er, .ref es, .ref et])), (ak, .inl (g.2.1.1, 152, .inl fk)), (av, .inl (g.2.1.1, 152, .inl fv)), (bk, .inl (g.2.1.1, 24, .inl ck)), (bv, .inl (g.2.1.1, 24, .inl cv)), (br, .inl (g.2.1.1, 24, .inl cr))]
set_option maxHeartbeats 4000000 in
set_option maxRecDepth 100000 in
theorem c_X7_keyOfRank (l : Launch) (g : kG) (h : Nat) (zth : Int32) (zsg : Int32) (zl1 : Int64) (zl2 : Int64) (zl3 : Int64) (zl4 : Int64) (zpb : Int32) (zln : Int32) (zat : Int32) (zrk : Int32) (zrv : Int32) (zre : Int32) (zwr : Int32) (zrm : Int32) (zrs : Int32) (zis : Int32) (zss : Int32) (zsc : Int32) (ak : Nat) (av : Nat) (bk : Nat) (bv : Nat) (br : Nat) (a_s : Nat) (a_t : Nat) (g1 : Nat) (g2 : Nat) (g3 : Nat) (pa : Nat) (ru : Nat) (tx : Nat) (dk : Nat) (dv : Nat) (ek : Nat) (ev : Nat) (er : Nat) (es : Nat) (et : Nat) (nA : Nat) (fk : Nat → Int32) (fv : Nat → Int32) (nB : Nat) (ck : Nat → Int32) (cv : Nat → Int32) (cr : Nat → Int32) (M : List kE3) (C : List kE3) (q : Nat) (hMM : kMM nA fk fv nB ck cv cr M C) (hq : q < (gat M C).length) : KI l yX7_keyOfRank wsX7_keyOfRank rm_X7_keyOfRank g [.ref h, .int (nI q)] [(h, .inr (9, [.int zth, .int (nI nA), .int (nI nB), .ref ak, .ref av, .ref bk, .ref bv, .ref br, .ref a_s, .ref a_t, .int zsg, .ref g1, .ref g2, .ref g3, .long zl1, .long zl2, .long zl3, .long zl4, .int zpb, .ref pa, .ref ru, .ref tx, .int zln, .int zat, .int zrk, .int zrv, .int zre, .int zwr, .int zrm, .int zrs, .int zis, .int zss, .int zsc, .ref dk, .ref dv, .ref ek, .ref ev, .ref er, .ref es, .ref et])), (ak, .inl (g.2.1.1, 152, .inl fk)), (av, .inl (g.2.1.1, 152, .inl fv)), (bk, .inl (g.2.1.1, 24, .inl ck)), (bv, .inl (g.2.1.1, 24, .inl cv)), (br, .inl (g.2.1.1, 24, .inl cr))] (p_X7_keyOfRank g h zth zsg zl1 zl2 zl3 zl4 zpb zln zat zrk zrv zre zwr zrm zrs zis zss zsc ak av bk bv br a_s a_t g1 g2 g3 pa ru tx dk dv ek ev er es et nA fk fv nB ck cv cr M C q) := by
  refine kbodyI (cc := cX7_keyOfRank) (n := 5) (k := 6) (own := RX7) (plainFor_of_name (by decide)) rfl rfl rfl rfl ?_
  intro p e s m below meth cd A ls hcx
  obtain ⟨hx, hb, hRt, hml, hts, hown, hlk, hA, hP, hK, hD, hE, hS, hl⟩ := hcx
  have hl : lv_has ls 5 [(0, .ref h), (1, .int (nI q))] := hl
  obtain ⟨⟨hM, hC⟩, ⟨hnM, hnC⟩, ⟨hIM, hIC⟩, hlen, hrem⟩ := id hMM
  have hsM : kSo (EL nA fk fv fz0) := by rw [hM]; exact hIM.1
  have hsC : kSo (EL nB ck cv cr) := by rw [hC]; exact hIC.1
  have hnl : nA = M.length := by rw [← hM, EL_len]
  have hcl : nB = C.length := by rw [← hC, EL_len]
  refine lv_iconst (v := (-1)) hx hb dX7_keyOfRank_0 (by decide) ?_
  refine lv_istore_n (lv' := [(2, .int (-1)), (0, .ref h), (1, .int (nI q))]) hx hb dX7_keyOfRank_1 rfl hl (by decide) rfl (fun ls hl => ?_)
  refine lv_iconst (v := 0) hx hb dX7_keyOfRank_2 (by decide) ?_
  refine lv_istore_n (lv' := [(3, .int 0), (2, .int (-1)), (0, .ref h), (1, .int (nI q))]) hx hb dX7_keyOfRank_3 rfl hl (by decide) rfl (fun ls hl => ?_)
  have L4 : ∀ (n9 : Nat) (j : Nat) (fd : Int32) (H : Heap) (locs : List Loc) (ls : Array Slot), (j ≤ nA + nB) → (fd = gkey (gat M C) q ∨ ∀ p, p < j → ¬ (if p < nA then fk p else ck (p - nA)) = gkey (gat M C) q) → nA + nB - j < n9 → va_P g.1 vwCl [(h, .inr (9, [.int zth, .int (nI nA), .int (nI nB), .ref ak, .ref av, .ref bk, .ref bv, .ref br, .ref a_s, .ref a_t, .int zsg, .ref g1, .ref g2, .ref g3, .long zl1, .long zl2, .long zl3, .long zl4, .int zpb, .ref pa, .ref ru, .ref tx, .int zln, .int zat, .int zrk, .int zrv, .int zre, .int zwr, .int zrm, .int zrs, .int zis, .int zss, .int zsc, .ref dk, .ref dv, .ref ek, .ref ev, .ref er, .ref es, .ref et])), (ak, .inl (g.2.1.1, 152, .inl fk)), (av, .inl (g.2.1.1, 152, .inl fv)), (bk, .inl (g.2.1.1, 24, .inl ck)), (bv, .inl (g.2.1.1, 24, .inl cv)), (br, .inl (g.2.1.1, 24, .inl cr))] H → va_D A [(h, .inr (9, [.int zth, .int (nI nA), .int (nI nB), .ref ak, .ref av, .ref bk, .ref bv, .ref br, .ref a_s, .ref a_t, .int zsg, .ref g1, .ref g2, .ref g3, .long zl1, .long zl2, .long zl3, .long zl4, .int zpb, .ref pa, .ref ru, .ref tx, .int zln, .int zat, .int zrk, .int zrv, .int zre, .int zwr, .int zrm, .int zrs, .int zis, .int zss, .int zsc, .ref dk, .ref dv, .ref ek, .ref ev, .ref er, .ref es, .ref et])), (ak, .inl (g.2.1.1, 152, .inl fk)), (av, .inl (g.2.1.1, 152, .inl fv)), (bk, .inl (g.2.1.1, 24, .inl ck)), (bv, .inl (g.2.1.1, 24, .inl cv)), (br, .inl (g.2.1.1, 24, .inl cr))] → va_S A s.heap H locs → lv_has ls 5 [(3, .int (nI j)), (2, .int fd), (0, .ref h), (1, .int (nI q))] → W p l e rm_X7_keyOfRank s m ([.ref h, .int (nI q)] : List Value).toArray below meth cd H locs 0 0 (kQi g 6 A (p_X7_keyOfRank g h zth zsg zl1 zl2 zl3 zl4 zpb zln zat zrk zrv zre zwr zrm zrs zis zss zsc ak av bk bv br a_s a_t g1 g2 g3 pa ru tx dk dv ek ev er es et nA fk fv nB ck cv cr M C q) below ([.ref h, .int (nI q)] : List Value).toArray s) (F0 m 4 ls []) := by
    intro n9
    induction n9 with
    | zero => intro j fd H locs ls hj hfd h9; exact absurd h9 (Nat.not_lt_zero _)
    | succ n9 ih4 =>
      intro j fd H locs ls hj hfd hn4 hP hD hS hl
      refine lv_iload_n hx hb dX7_keyOfRank_4 rfl (lv_at hl 0 rfl) ?_
      refine lv_aload_n hx hb dX7_keyOfRank_5 rfl (lv_at hl 2 rfl) ?_
      refine va_get (D := g.1) (ci := 9) (v := .int (nI nA)) (C := RX7) (T := TX7) (N := 40) hx hb hts (by decide +kernel) hown hK hP 0 rfl rfl 1 (by decide) (hts (.fieldLink RX7 79 "LearnedIndexModel" "size" "I") (by decide +kernel)) (fun _ h9 => h9) rfl dX7_keyOfRank_6 ?_
      refine lv_aload_n hx hb dX7_keyOfRank_9 rfl (lv_at hl 2 rfl) ?_
      refine va_get (D := g.1) (ci := 9) (v := .int (nI nB)) (C := RX7) (T := TX7) (N := 40) hx hb hts (by decide +kernel) hown hK hP 0 rfl rfl 2 (by decide) (hts (.fieldLink RX7 82 "LearnedIndexModel" "changes" "I") (by decide +kernel)) (fun _ h9 => h9) rfl dX7_keyOfRank_10 ?_
      refine lv_iadd hx hb dX7_keyOfRank_13 ?_
      rw [show ((nI nA) + (nI nB) : Int32) = nI (nA + nB) from by rw [kI_nI, kI_nI, kI_nI, kI_add]; congr 1]
      refine lv_icmp_ge (tgt := 79) hx hb dX7_keyOfRank_14 (by decide) (fun c_14 => ?_) (fun c_14 => ?_)
      · skip
        have hjn : nA + nB ≤ j := kg (by omega) (by omega) c_14
        have hres : fd = gkey (gat M C) q := hfd.elim id (fun z => by exfalso; rcases cand hIM.1 hIC.1 hq with ⟨k9, hk1, hk2⟩ | ⟨k9, hk1, hk2⟩; exact z k9 (by omega) (by rw [if_pos (by omega), ← (EL_g hM (show k9 < nA by omega)).1]; exact hk2); exact z (nA + k9) (by omega) (by rw [if_neg (by omega), show nA + k9 - nA = k9 by omega, ← (EL_g hC (show k9 < nB by omega)).1]; exact hk2))
        refine lv_iload_n hx hb dX7_keyOfRank_79 rfl (lv_at hl 1 rfl) ?_
        exact kreti hx hb hRt hlk hK hP hD hS rfl dX7_keyOfRank_80 (⟨hres, rfl⟩)
      · skip
        have hjn : j < nA + nB := kl (by omega) (by omega) c_14
        refine lv_iload_n hx hb dX7_keyOfRank_17 rfl (lv_at hl 0 rfl) ?_
        refine lv_aload_n hx hb dX7_keyOfRank_18 rfl (lv_at hl 2 rfl) ?_
        refine va_get (D := g.1) (ci := 9) (v := .int (nI nA)) (C := RX7) (T := TX7) (N := 40) hx hb hts (by decide +kernel) hown hK hP 0 rfl rfl 1 (by decide) (hts (.fieldLink RX7 79 "LearnedIndexModel" "size" "I") (by decide +kernel)) (fun _ h9 => h9) rfl dX7_keyOfRank_19 ?_
        refine lv_icmp_ge (tgt := 34) hx hb dX7_keyOfRank_22 (by decide) (fun c_22 => ?_) (fun c_22 => ?_)
        · skip
          have hjA : nA ≤ j := kg (by omega) (by omega) c_22
          have hcd : (if j < nA then fk j else ck (j - nA)) = ck (j - nA) := if_neg (by omega)
          refine lv_aload_n hx hb dX7_keyOfRank_34 rfl (lv_at hl 2 rfl) ?_
          refine va_get (D := g.1) (ci := 9) (v := .ref bk) (C := RX7) (T := TX7) (N := 40) hx hb hts (by decide +kernel) hown hK hP 0 rfl rfl 5 (by decide) (hts (.fieldLink RX7 16 "LearnedIndexModel" "changedKeys" "[I") (by decide +kernel)) (fun _ h9 => h9) rfl dX7_keyOfRank_35 ?_
          refine lv_iload_n hx hb dX7_keyOfRank_38 rfl (lv_at hl 0 rfl) ?_
          refine lv_aload_n hx hb dX7_keyOfRank_39 rfl (lv_at hl 2 rfl) ?_
          refine va_get (D := g.1) (ci := 9) (v := .int (nI nA)) (C := RX7) (T := TX7) (N := 40) hx hb hts (by decide +kernel) hown hK hP 0 rfl rfl 1 (by decide) (hts (.fieldLink RX7 79 "LearnedIndexModel" "size" "I") (by decide +kernel)) (fun _ h9 => h9) rfl dX7_keyOfRank_40 ?_
          refine lv_isub hx hb dX7_keyOfRank_43 ?_
          rw [show ((nI j) - (nI nA) : Int32) = nI (j - nA) from pk_sub hjA]
          refine va_iald hx hb hK hP 3 0 rfl rfl (vp_in_nI (show j - nA < 24 by omega) (by omega)) dX7_keyOfRank_44 ?_
          rw [show (nI (j - nA) : Int32).toNatClampNeg = j - nA from nI_clamp (n := j - nA) (by omega)]
          refine lv_istore (lv' := [(4, .int (ck (j - nA))), (3, .int (nI j)), (2, .int fd), (0, .ref h), (1, .int (nI q))]) hx hb dX7_keyOfRank_45 hl (by decide) rfl (fun ls hl => ?_)
          refine lv_aload_n hx hb dX7_keyOfRank_47 rfl (lv_at hl 3 rfl) ?_
          refine lv_iload hx hb dX7_keyOfRank_48 (lv_at hl 0 rfl) ?_
          refine kcalli (wc := [(h, .inr (9, [.int zth, .int (nI nA), .int (nI nB), .ref ak, .ref av, .ref bk, .ref bv, .ref br, .ref a_s, .ref a_t, .int zsg, .ref g1, .ref g2, .ref g3, .long zl1, .long zl2, .long zl3, .long zl4, .int zpb, .ref pa, .ref ru, .ref tx, .int zln, .int zat, .int zrk, .int zrv, .int zre, .int zwr, .int zrm, .int zrs, .int zis, .int zss, .int zsc, .ref dk, .ref dv, .ref ek, .ref ev, .ref er, .ref es, .ref et])), (ak, .inl (g.2.1.1, 152, .inl fk)), (av, .inl (g.2.1.1, 152, .inl fv)), (bk, .inl (g.2.1.1, 24, .inl ck)), (bv, .inl (g.2.1.1, 24, .inl cv)), (br, .inl (g.2.1.1, 24, .inl cr))]) [0, 1, 2, 3, 4, 5] (va_runV (C := RX7) (As := [.int (ck (j - nA))]) (rest := []) ⟨hx, hb, hml, hown, hts⟩ ((c_X7_isThere l g h zth zsg zl1 zl2 zl3 zl4 zpb zln zat zrk zrv zre zwr zrm zrs zis zss zsc ak av bk bv br a_s a_t g1 g2 g3 pa ru tx dk dv ek ev er es et nA fk fv nB ck cv cr M C (ck (j - nA)) hMM) _) (cwV 1 hts gX7_keyOfRank_X7_isThere rfl rfl rfl (by decide +kernel) ⟨Nat.le_of_ble_eq_true rfl, Nat.le_of_ble_eq_true rfl⟩) (kpreV (wc := [(h, .inr (9, [.int zth, .int (nI nA), .int (nI nB), .ref ak, .ref av, .ref bk, .ref bv, .ref br, .ref a_s, .ref a_t, .int zsg, .ref g1, .ref g2, .ref g3, .long zl1, .long zl2, .long zl3, .long zl4, .int zpb, .ref pa, .ref ru, .ref tx, .int zln, .int zat, .int zrk, .int zrv, .int zre, .int zwr, .int zrm, .int zrs, .int zis, .int zss, .int zsc, .ref dk, .ref dv, .ref ek, .ref ev, .ref er, .ref es, .ref et])), (ak, .inl (g.2.1.1, 152, .inl fk)), (av, .inl (g.2.1.1, 152, .inl fv)), (bk, .inl (g.2.1.1, 24, .inl ck)), (bv, .inl (g.2.1.1, 24, .inl cv)), (br, .inl (g.2.1.1, 24, .inl cr))]) (ci := 9) hK hP hD hS hA hE [0, 1, 2, 3, 4, 5] rfl rfl rfl rfl) rfl rfl hl.1 rfl (lv_room (Nat.le_of_ble_eq_true rfl)) dX7_keyOfRank_50 ⟨Nat.zero_le _, Nat.zero_le _⟩) hP hD hS hA rfl (fun r_1 w_1 H locs hp hP hD hS => ?_)
          obtain ⟨rfl, rfl⟩ := hp
          have hP : va_P g.1 vwCl [(h, .inr (9, [.int zth, .int (nI nA), .int (nI nB), .ref ak, .ref av, .ref bk, .ref bv, .ref br, .ref a_s, .ref a_t, .int zsg, .ref g1, .ref g2, .ref g3, .long zl1, .long zl2, .long zl3, .long zl4, .int zpb, .ref pa, .ref ru, .ref tx, .int zln, .int zat, .int zrk, .int zrv, .int zre, .int zwr, .int zrm, .int zrs, .int zis, .int zss, .int zsc, .ref dk, .ref dv, .ref ek, .ref ev, .ref er, .ref es, .ref et])), (ak, .inl (g.2.1.1, 152, .inl fk)), (av, .inl (g.2.1.1, 152, .inl fv)), (bk, .inl (g.2.1.1, 24, .inl ck)), (bv, .inl (g.2.1.1, 24, .inl cv)), (br, .inl (g.2.1.1, 24, .inl cr))] H := hP
          have hD : va_D A [(h, .inr (9, [.int zth, .int (nI nA), .int (nI nB), .ref ak, .ref av, .ref bk, .ref bv, .ref br, .ref a_s, .ref a_t, .int zsg, .ref g1, .ref g2, .ref g3, .long zl1, .long zl2, .long zl3, .long zl4, .int zpb, .ref pa, .ref ru, .ref tx, .int zln, .int zat, .int zrk, .int zrv, .int zre, .int zwr, .int zrm, .int zrs, .int zis, .int zss, .int zsc, .ref dk, .ref dv, .ref ek, .ref ev, .ref er, .ref es, .ref et])), (ak, .inl (g.2.1.1, 152, .inl fk)), (av, .inl (g.2.1.1, 152, .inl fv)), (bk, .inl (g.2.1.1, 24, .inl ck)), (bv, .inl (g.2.1.1, 24, .inl cv)), (br, .inl (g.2.1.1, 24, .inl cr))] := hD
          refine lv_if_eq (tgt := 71) hx hb dX7_keyOfRank_53 (by decide) (fun c_53 => ?_) (fun c_53 => ?_)
          · skip
            refine lv_iload_n hx hb dX7_keyOfRank_71 rfl (lv_at hl 2 rfl) ?_
            refine lv_istore_n (lv' := [(2, .int fd), (4, .int (ck (j - nA))), (3, .int (nI j)), (0, .ref h), (1, .int (nI q))]) hx hb dX7_keyOfRank_72 rfl hl (by decide) rfl (fun ls hl => ?_)
            have hfd2 : fd = gkey (gat M C) q ∨ ∀ p, p < j + 1 → ¬ (if p < nA then fk p else ck (p - nA)) = gkey (gat M C) q := hfd.elim Or.inl (fun z => Or.inr (fun p hp he => (Nat.lt_succ_iff_lt_or_eq.mp hp).elim (fun h9 => z p h9 he) (fun h9 => by subst h9; rw [hcd] at he; have h7 := gkey_mem hq; rw [← he, gat_lkp M C hIM.1 hIC.1, ← hasS_rsl, (kbool_eq _).mp c_53] at h7; cases h7)))
            refine lv_iinc (v := nI (j + 1)) (lv' := [(3, .int (nI (j + 1))), (2, .int fd), (4, .int (ck (j - nA))), (0, .ref h), (1, .int (nI q))]) hx hb dX7_keyOfRank_73 hl (k := 2) rfl (nI_1 j) (by decide) rfl (fun ls hl => ?_)
            refine lv_goto (tgt := 4) hx hb dX7_keyOfRank_76 (by decide) ?_
            exact ih4 (j + 1) fd _ _ ls hjn hfd2 (by omega) hP hD hS (lv_sub hl [0, 1, 3, 4] rfl)
          · skip
            refine lv_aload_n hx hb dX7_keyOfRank_56 rfl (lv_at hl 3 rfl) ?_
            refine lv_iload hx hb dX7_keyOfRank_57 (lv_at hl 0 rfl) ?_
            refine kcalli (wc := [(h, .inr (9, [.int zth, .int (nI nA), .int (nI nB), .ref ak, .ref av, .ref bk, .ref bv, .ref br, .ref a_s, .ref a_t, .int zsg, .ref g1, .ref g2, .ref g3, .long zl1, .long zl2, .long zl3, .long zl4, .int zpb, .ref pa, .ref ru, .ref tx, .int zln, .int zat, .int zrk, .int zrv, .int zre, .int zwr, .int zrm, .int zrs, .int zis, .int zss, .int zsc, .ref dk, .ref dv, .ref ek, .ref ev, .ref er, .ref es, .ref et])), (ak, .inl (g.2.1.1, 152, .inl fk)), (av, .inl (g.2.1.1, 152, .inl fv)), (bk, .inl (g.2.1.1, 24, .inl ck)), (bv, .inl (g.2.1.1, 24, .inl cv)), (br, .inl (g.2.1.1, 24, .inl cr))]) [0, 1, 2, 3, 4, 5] (va_runV (C := RX7) (As := [.int (ck (j - nA))]) (rest := []) ⟨hx, hb, hml, hown, hts⟩ ((c_X7_countLess l g h zth zsg zl1 zl2 zl3 zl4 zpb zln zat zrk zrv zre zwr zrm zrs zis zss zsc ak av bk bv br a_s a_t g1 g2 g3 pa ru tx dk dv ek ev er es et nA fk fv nB ck cv cr M C (ck (j - nA)) hMM) _) (cwV 1 hts gX7_keyOfRank_X7_countLess rfl rfl rfl (by decide +kernel) ⟨Nat.le_of_ble_eq_true rfl, Nat.le_of_ble_eq_true rfl⟩) (kpreV (wc := [(h, .inr (9, [.int zth, .int (nI nA), .int (nI nB), .ref ak, .ref av, .ref bk, .ref bv, .ref br, .ref a_s, .ref a_t, .int zsg, .ref g1, .ref g2, .ref g3, .long zl1, .long zl2, .long zl3, .long zl4, .int zpb, .ref pa, .ref ru, .ref tx, .int zln, .int zat, .int zrk, .int zrv, .int zre, .int zwr, .int zrm, .int zrs, .int zis, .int zss, .int zsc, .ref dk, .ref dv, .ref ek, .ref ev, .ref er, .ref es, .ref et])), (ak, .inl (g.2.1.1, 152, .inl fk)), (av, .inl (g.2.1.1, 152, .inl fv)), (bk, .inl (g.2.1.1, 24, .inl ck)), (bv, .inl (g.2.1.1, 24, .inl cv)), (br, .inl (g.2.1.1, 24, .inl cr))]) (ci := 9) hK hP hD hS hA hE [0, 1, 2, 3, 4, 5] rfl rfl rfl rfl) rfl rfl hl.1 rfl (lv_room (Nat.le_of_ble_eq_true rfl)) dX7_keyOfRank_59 ⟨Nat.zero_le _, Nat.zero_le _⟩) hP hD hS hA rfl (fun r_2 w_2 H locs hp hP hD hS => ?_)
            obtain ⟨rfl, rfl⟩ := hp
            have hP : va_P g.1 vwCl [(h, .inr (9, [.int zth, .int (nI nA), .int (nI nB), .ref ak, .ref av, .ref bk, .ref bv, .ref br, .ref a_s, .ref a_t, .int zsg, .ref g1, .ref g2, .ref g3, .long zl1, .long zl2, .long zl3, .long zl4, .int zpb, .ref pa, .ref ru, .ref tx, .int zln, .int zat, .int zrk, .int zrv, .int zre, .int zwr, .int zrm, .int zrs, .int zis, .int zss, .int zsc, .ref dk, .ref dv, .ref ek, .ref ev, .ref er, .ref es, .ref et])), (ak, .inl (g.2.1.1, 152, .inl fk)), (av, .inl (g.2.1.1, 152, .inl fv)), (bk, .inl (g.2.1.1, 24, .inl ck)), (bv, .inl (g.2.1.1, 24, .inl cv)), (br, .inl (g.2.1.1, 24, .inl cr))] H := hP
            have hD : va_D A [(h, .inr (9, [.int zth, .int (nI nA), .int (nI nB), .ref ak, .ref av, .ref bk, .ref bv, .ref br, .ref a_s, .ref a_t, .int zsg, .ref g1, .ref g2, .ref g3, .long zl1, .long zl2, .long zl3, .long zl4, .int zpb, .ref pa, .ref ru, .ref tx, .int zln, .int zat, .int zrk, .int zrv, .int zre, .int zwr, .int zrm, .int zrs, .int zis, .int zss, .int zsc, .ref dk, .ref dv, .ref ek, .ref ev, .ref er, .ref es, .ref et])), (ak, .inl (g.2.1.1, 152, .inl fk)), (av, .inl (g.2.1.1, 152, .inl fv)), (bk, .inl (g.2.1.1, 24, .inl ck)), (bv, .inl (g.2.1.1, 24, .inl cv)), (br, .inl (g.2.1.1, 24, .inl cr))] := hD
            refine lv_iload_n hx hb dX7_keyOfRank_62 rfl (lv_at hl 4 rfl) ?_
            refine lv_icmp_ne (tgt := 71) hx hb dX7_keyOfRank_63 (by decide) (fun c_63 => ?_) (fun c_63 => ?_)
            · skip
              refine lv_iload_n hx hb dX7_keyOfRank_71 rfl (lv_at hl 2 rfl) ?_
              refine lv_istore_n (lv' := [(2, .int fd), (4, .int (ck (j - nA))), (3, .int (nI j)), (0, .ref h), (1, .int (nI q))]) hx hb dX7_keyOfRank_72 rfl hl (by decide) rfl (fun ls hl => ?_)
              have hfd2 : fd = gkey (gat M C) q ∨ ∀ p, p < j + 1 → ¬ (if p < nA then fk p else ck (p - nA)) = gkey (gat M C) q := hfd.elim Or.inl (fun z => Or.inr (fun p hp he => (Nat.lt_succ_iff_lt_or_eq.mp hp).elim (fun h9 => z p h9 he) (fun h9 => by subst h9; rw [hcd] at he; exact c_63 (by rw [he, rnk_gkey (gat_so M C hIM.1 hIC.1) hq]))))
              refine lv_iinc (v := nI (j + 1)) (lv' := [(3, .int (nI (j + 1))), (2, .int fd), (4, .int (ck (j - nA))), (0, .ref h), (1, .int (nI q))]) hx hb dX7_keyOfRank_73 hl (k := 2) rfl (nI_1 j) (by decide) rfl (fun ls hl => ?_)
              refine lv_goto (tgt := 4) hx hb dX7_keyOfRank_76 (by decide) ?_
              exact ih4 (j + 1) fd _ _ ls hjn hfd2 (by omega) hP hD hS (lv_sub hl [0, 1, 3, 4] rfl)
            · skip
              refine lv_iload hx hb dX7_keyOfRank_66 (lv_at hl 0 rfl) ?_
              refine lv_goto (tgt := 72) hx hb dX7_keyOfRank_68 (by decide) ?_
              refine lv_istore_n (lv' := [(2, .int (ck (j - nA))), (4, .int (ck (j - nA))), (3, .int (nI j)), (0, .ref h), (1, .int (nI q))]) hx hb dX7_keyOfRank_72 rfl hl (by decide) rfl (fun ls hl => ?_)
              have hfd2 : ck (j - nA) = gkey (gat M C) q ∨ ∀ p, p < j + 1 → ¬ (if p < nA then fk p else ck (p - nA)) = gkey (gat M C) q := Or.inl (by have h7 := (kbool_ne _).mp c_53; rw [hasS_rsl, ← gat_lkp M C hIM.1 hIC.1] at h7; have h8 := gkey_rnk (gat_so M C hIM.1 hIC.1) h7; have h9 : rnkS (gat M C) (ck (j - nA)) = q := nI_injs (by have := rnk_le (gat M C) (ck (j - nA)); omega) (by omega) c_63; rw [h9] at h8; exact h8.2.symm)
              refine lv_iinc (v := nI (j + 1)) (lv' := [(3, .int (nI (j + 1))), (2, .int (ck (j - nA))), (4, .int (ck (j - nA))), (0, .ref h), (1, .int (nI q))]) hx hb dX7_keyOfRank_73 hl (k := 2) rfl (nI_1 j) (by decide) rfl (fun ls hl => ?_)
              refine lv_goto (tgt := 4) hx hb dX7_keyOfRank_76 (by decide) ?_
              exact ih4 (j + 1) (ck (j - nA)) _ _ ls hjn hfd2 (by omega) hP hD hS (lv_sub hl [0, 1, 3, 4] rfl)
        · skip
          have hjA : j < nA := kl (by omega) (by omega) c_22
          have hcd : (if j < nA then fk j else ck (j - nA)) = fk j := if_pos hjA
          refine lv_aload_n hx hb dX7_keyOfRank_25 rfl (lv_at hl 2 rfl) ?_
          refine va_get (D := g.1) (ci := 9) (v := .ref ak) (C := RX7) (T := TX7) (N := 40) hx hb hts (by decide +kernel) hown hK hP 0 rfl rfl 3 (by decide) (hts (.fieldLink RX7 9 "LearnedIndexModel" "keys" "[I") (by decide +kernel)) (fun _ h9 => h9) rfl dX7_keyOfRank_26 ?_
          refine lv_iload_n hx hb dX7_keyOfRank_29 rfl (lv_at hl 0 rfl) ?_
          refine va_iald hx hb hK hP 1 0 rfl rfl (vp_in_nI (show j < 152 by omega) (by omega)) dX7_keyOfRank_30 ?_
          rw [show (nI j : Int32).toNatClampNeg = j from nI_clamp (n := j) (by omega)]
          refine lv_goto (tgt := 45) hx hb dX7_keyOfRank_31 (by decide) ?_
          refine lv_istore (lv' := [(4, .int (fk j)), (3, .int (nI j)), (2, .int fd), (0, .ref h), (1, .int (nI q))]) hx hb dX7_keyOfRank_45 hl (by decide) rfl (fun ls hl => ?_)
          refine lv_aload_n hx hb dX7_keyOfRank_47 rfl (lv_at hl 3 rfl) ?_
          refine lv_iload hx hb dX7_keyOfRank_48 (lv_at hl 0 rfl) ?_
          refine kcalli (wc := [(h, .inr (9, [.int zth, .int (nI nA), .int (nI nB), .ref ak, .ref av, .ref bk, .ref bv, .ref br, .ref a_s, .ref a_t, .int zsg, .ref g1, .ref g2, .ref g3, .long zl1, .long zl2, .long zl3, .long zl4, .int zpb, .ref pa, .ref ru, .ref tx, .int zln, .int zat, .int zrk, .int zrv, .int zre, .int zwr, .int zrm, .int zrs, .int zis, .int zss, .int zsc, .ref dk, .ref dv, .ref ek, .ref ev, .ref er, .ref es, .ref et])), (ak, .inl (g.2.1.1, 152, .inl fk)), (av, .inl (g.2.1.1, 152, .inl fv)), (bk, .inl (g.2.1.1, 24, .inl ck)), (bv, .inl (g.2.1.1, 24, .inl cv)), (br, .inl (g.2.1.1, 24, .inl cr))]) [0, 1, 2, 3, 4, 5] (va_runV (C := RX7) (As := [.int (fk j)]) (rest := []) ⟨hx, hb, hml, hown, hts⟩ ((c_X7_isThere l g h zth zsg zl1 zl2 zl3 zl4 zpb zln zat zrk zrv zre zwr zrm zrs zis zss zsc ak av bk bv br a_s a_t g1 g2 g3 pa ru tx dk dv ek ev er es et nA fk fv nB ck cv cr M C (fk j) hMM) _) (cwV 1 hts gX7_keyOfRank_X7_isThere rfl rfl rfl (by decide +kernel) ⟨Nat.le_of_ble_eq_true rfl, Nat.le_of_ble_eq_true rfl⟩) (kpreV (wc := [(h, .inr (9, [.int zth, .int (nI nA), .int (nI nB), .ref ak, .ref av, .ref bk, .ref bv, .ref br, .ref a_s, .ref a_t, .int zsg, .ref g1, .ref g2, .ref g3, .long zl1, .long zl2, .long zl3, .long zl4, .int zpb, .ref pa, .ref ru, .ref tx, .int zln, .int zat, .int zrk, .int zrv, .int zre, .int zwr, .int zrm, .int zrs, .int zis, .int zss, .int zsc, .ref dk, .ref dv, .ref ek, .ref ev, .ref er, .ref es, .ref et])), (ak, .inl (g.2.1.1, 152, .inl fk)), (av, .inl (g.2.1.1, 152, .inl fv)), (bk, .inl (g.2.1.1, 24, .inl ck)), (bv, .inl (g.2.1.1, 24, .inl cv)), (br, .inl (g.2.1.1, 24, .inl cr))]) (ci := 9) hK hP hD hS hA hE [0, 1, 2, 3, 4, 5] rfl rfl rfl rfl) rfl rfl hl.1 rfl (lv_room (Nat.le_of_ble_eq_true rfl)) dX7_keyOfRank_50 ⟨Nat.zero_le _, Nat.zero_le _⟩) hP hD hS hA rfl (fun r_3 w_3 H locs hp hP hD hS => ?_)
          obtain ⟨rfl, rfl⟩ := hp
          have hP : va_P g.1 vwCl [(h, .inr (9, [.int zth, .int (nI nA), .int (nI nB), .ref ak, .ref av, .ref bk, .ref bv, .ref br, .ref a_s, .ref a_t, .int zsg, .ref g1, .ref g2, .ref g3, .long zl1, .long zl2, .long zl3, .long zl4, .int zpb, .ref pa, .ref ru, .ref tx, .int zln, .int zat, .int zrk, .int zrv, .int zre, .int zwr, .int zrm, .int zrs, .int zis, .int zss, .int zsc, .ref dk, .ref dv, .ref ek, .ref ev, .ref er, .ref es, .ref et])), (ak, .inl (g.2.1.1, 152, .inl fk)), (av, .inl (g.2.1.1, 152, .inl fv)), (bk, .inl (g.2.1.1, 24, .inl ck)), (bv, .inl (g.2.1.1, 24, .inl cv)), (br, .inl (g.2.1.1, 24, .inl cr))] H := hP
          have hD : va_D A [(h, .inr (9, [.int zth, .int (nI nA), .int (nI nB), .ref ak, .ref av, .ref bk, .ref bv, .ref br, .ref a_s, .ref a_t, .int zsg, .ref g1, .ref g2, .ref g3, .long zl1, .long zl2, .long zl3, .long zl4, .int zpb, .ref pa, .ref ru, .ref tx, .int zln, .int zat, .int zrk, .int zrv, .int zre, .int zwr, .int zrm, .int zrs, .int zis, .int zss, .int zsc, .ref dk, .ref dv, .ref ek, .ref ev, .ref er, .ref es, .ref et])), (ak, .inl (g.2.1.1, 152, .inl fk)), (av, .inl (g.2.1.1, 152, .inl fv)), (bk, .inl (g.2.1.1, 24, .inl ck)), (bv, .inl (g.2.1.1, 24, .inl cv)), (br, .inl (g.2.1.1, 24, .inl cr))] := hD
          refine lv_if_eq (tgt := 71) hx hb dX7_keyOfRank_53 (by decide) (fun c_53 => ?_) (fun c_53 => ?_)
          · skip
            refine lv_iload_n hx hb dX7_keyOfRank_71 rfl (lv_at hl 2 rfl) ?_
            refine lv_istore_n (lv' := [(2, .int fd), (4, .int (fk j)), (3, .int (nI j)), (0, .ref h), (1, .int (nI q))]) hx hb dX7_keyOfRank_72 rfl hl (by decide) rfl (fun ls hl => ?_)
            have hfd2 : fd = gkey (gat M C) q ∨ ∀ p, p < j + 1 → ¬ (if p < nA then fk p else ck (p - nA)) = gkey (gat M C) q := hfd.elim Or.inl (fun z => Or.inr (fun p hp he => (Nat.lt_succ_iff_lt_or_eq.mp hp).elim (fun h9 => z p h9 he) (fun h9 => by subst h9; rw [hcd] at he; have h7 := gkey_mem hq; rw [← he, gat_lkp M C hIM.1 hIC.1, ← hasS_rsl, (kbool_eq _).mp c_53] at h7; cases h7)))
            refine lv_iinc (v := nI (j + 1)) (lv' := [(3, .int (nI (j + 1))), (2, .int fd), (4, .int (fk j)), (0, .ref h), (1, .int (nI q))]) hx hb dX7_keyOfRank_73 hl (k := 2) rfl (nI_1 j) (by decide) rfl (fun ls hl => ?_)
            refine lv_goto (tgt := 4) hx hb dX7_keyOfRank_76 (by decide) ?_
            exact ih4 (j + 1) fd _ _ ls hjn hfd2 (by omega) hP hD hS (lv_sub hl [0, 1, 3, 4] rfl)
          · skip
            refine lv_aload_n hx hb dX7_keyOfRank_56 rfl (lv_at hl 3 rfl) ?_
            refine lv_iload hx hb dX7_keyOfRank_57 (lv_at hl 0 rfl) ?_
            refine kcalli (wc := [(h, .inr (9, [.int zth, .int (nI nA), .int (nI nB), .ref ak, .ref av, .ref bk, .ref bv, .ref br, .ref a_s, .ref a_t, .int zsg, .ref g1, .ref g2, .ref g3, .long zl1, .long zl2, .long zl3, .long zl4, .int zpb, .ref pa, .ref ru, .ref tx, .int zln, .int zat, .int zrk, .int zrv, .int zre, .int zwr, .int zrm, .int zrs, .int zis, .int zss, .int zsc, .ref dk, .ref dv, .ref ek, .ref ev, .ref er, .ref es, .ref et])), (ak, .inl (g.2.1.1, 152, .inl fk)), (av, .inl (g.2.1.1, 152, .inl fv)), (bk, .inl (g.2.1.1, 24, .inl ck)), (bv, .inl (g.2.1.1, 24, .inl cv)), (br, .inl (g.2.1.1, 24, .inl cr))]) [0, 1, 2, 3, 4, 5] (va_runV (C := RX7) (As := [.int (fk j)]) (rest := []) ⟨hx, hb, hml, hown, hts⟩ ((c_X7_countLess l g h zth zsg zl1 zl2 zl3 zl4 zpb zln zat zrk zrv zre zwr zrm zrs zis zss zsc ak av bk bv br a_s a_t g1 g2 g3 pa ru tx dk dv ek ev er es et nA fk fv nB ck cv cr M C (fk j) hMM) _) (cwV 1 hts gX7_keyOfRank_X7_countLess rfl rfl rfl (by decide +kernel) ⟨Nat.le_of_ble_eq_true rfl, Nat.le_of_ble_eq_true rfl⟩) (kpreV (wc := [(h, .inr (9, [.int zth, .int (nI nA), .int (nI nB), .ref ak, .ref av, .ref bk, .ref bv, .ref br, .ref a_s, .ref a_t, .int zsg, .ref g1, .ref g2, .ref g3, .long zl1, .long zl2, .long zl3, .long zl4, .int zpb, .ref pa, .ref ru, .ref tx, .int zln, .int zat, .int zrk, .int zrv, .int zre, .int zwr, .int zrm, .int zrs, .int zis, .int zss, .int zsc, .ref dk, .ref dv, .ref ek, .ref ev, .ref er, .ref es, .ref et])), (ak, .inl (g.2.1.1, 152, .inl fk)), (av, .inl (g.2.1.1, 152, .inl fv)), (bk, .inl (g.2.1.1, 24, .inl ck)), (bv, .inl (g.2.1.1, 24, .inl cv)), (br, .inl (g.2.1.1, 24, .inl cr))]) (ci := 9) hK hP hD hS hA hE [0, 1, 2, 3, 4, 5] rfl rfl rfl rfl) rfl rfl hl.1 rfl (lv_room (Nat.le_of_ble_eq_true rfl)) dX7_keyOfRank_59 ⟨Nat.zero_le _, Nat.zero_le _⟩) hP hD hS hA rfl (fun r_4 w_4 H locs hp hP hD hS => ?_)
            obtain ⟨rfl, rfl⟩ := hp
            have hP : va_P g.1 vwCl [(h, .inr (9, [.int zth, .int (nI nA), .int (nI nB), .ref ak, .ref av, .ref bk, .ref bv, .ref br, .ref a_s, .ref a_t, .int zsg, .ref g1, .ref g2, .ref g3, .long zl1, .long zl2, .long zl3, .long zl4, .int zpb, .ref pa, .ref ru, .ref tx, .int zln, .int zat, .int zrk, .int zrv, .int zre, .int zwr, .int zrm, .int zrs, .int zis, .int zss, .int zsc, .ref dk, .ref dv, .ref ek, .ref ev, .ref er, .ref es, .ref et])), (ak, .inl (g.2.1.1, 152, .inl fk)), (av, .inl (g.2.1.1, 152, .inl fv)), (bk, .inl (g.2.1.1, 24, .inl ck)), (bv, .inl (g.2.1.1, 24, .inl cv)), (br, .inl (g.2.1.1, 24, .inl cr))] H := hP
            have hD : va_D A [(h, .inr (9, [.int zth, .int (nI nA), .int (nI nB), .ref ak, .ref av, .ref bk, .ref bv, .ref br, .ref a_s, .ref a_t, .int zsg, .ref g1, .ref g2, .ref g3, .long zl1, .long zl2, .long zl3, .long zl4, .int zpb, .ref pa, .ref ru, .ref tx, .int zln, .int zat, .int zrk, .int zrv, .int zre, .int zwr, .int zrm, .int zrs, .int zis, .int zss, .int zsc, .ref dk, .ref dv, .ref ek, .ref ev, .ref er, .ref es, .ref et])), (ak, .inl (g.2.1.1, 152, .inl fk)), (av, .inl (g.2.1.1, 152, .inl fv)), (bk, .inl (g.2.1.1, 24, .inl ck)), (bv, .inl (g.2.1.1, 24, .inl cv)), (br, .inl (g.2.1.1, 24, .inl cr))] := hD
            refine lv_iload_n hx hb dX7_keyOfRank_62 rfl (lv_at hl 4 rfl) ?_
            refine lv_icmp_ne (tgt := 71) hx hb dX7_keyOfRank_63 (by decide) (fun c_63 => ?_) (fun c_63 => ?_)
            · skip
              refine lv_iload_n hx hb dX7_keyOfRank_71 rfl (lv_at hl 2 rfl) ?_
              refine lv_istore_n (lv' := [(2, .int fd), (4, .int (fk j)), (3, .int (nI j)), (0, .ref h), (1, .int (nI q))]) hx hb dX7_keyOfRank_72 rfl hl (by decide) rfl (fun ls hl => ?_)
              have hfd2 : fd = gkey (gat M C) q ∨ ∀ p, p < j + 1 → ¬ (if p < nA then fk p else ck (p - nA)) = gkey (gat M C) q := hfd.elim Or.inl (fun z => Or.inr (fun p hp he => (Nat.lt_succ_iff_lt_or_eq.mp hp).elim (fun h9 => z p h9 he) (fun h9 => by subst h9; rw [hcd] at he; exact c_63 (by rw [he, rnk_gkey (gat_so M C hIM.1 hIC.1) hq]))))
              refine lv_iinc (v := nI (j + 1)) (lv' := [(3, .int (nI (j + 1))), (2, .int fd), (4, .int (fk j)), (0, .ref h), (1, .int (nI q))]) hx hb dX7_keyOfRank_73 hl (k := 2) rfl (nI_1 j) (by decide) rfl (fun ls hl => ?_)
              refine lv_goto (tgt := 4) hx hb dX7_keyOfRank_76 (by decide) ?_
              exact ih4 (j + 1) fd _ _ ls hjn hfd2 (by omega) hP hD hS (lv_sub hl [0, 1, 3, 4] rfl)
            · skip
              refine lv_iload hx hb dX7_keyOfRank_66 (lv_at hl 0 rfl) ?_
              refine lv_goto (tgt := 72) hx hb dX7_keyOfRank_68 (by decide) ?_
              refine lv_istore_n (lv' := [(2, .int (fk j)), (4, .int (fk j)), (3, .int (nI j)), (0, .ref h), (1, .int (nI q))]) hx hb dX7_keyOfRank_72 rfl hl (by decide) rfl (fun ls hl => ?_)
              have hfd2 : fk j = gkey (gat M C) q ∨ ∀ p, p < j + 1 → ¬ (if p < nA then fk p else ck (p - nA)) = gkey (gat M C) q := Or.inl (by have h7 := (kbool_ne _).mp c_53; rw [hasS_rsl, ← gat_lkp M C hIM.1 hIC.1] at h7; have h8 := gkey_rnk (gat_so M C hIM.1 hIC.1) h7; have h9 : rnkS (gat M C) (fk j) = q := nI_injs (by have := rnk_le (gat M C) (fk j); omega) (by omega) c_63; rw [h9] at h8; exact h8.2.symm)
              refine lv_iinc (v := nI (j + 1)) (lv' := [(3, .int (nI (j + 1))), (2, .int (fk j)), (4, .int (fk j)), (0, .ref h), (1, .int (nI q))]) hx hb dX7_keyOfRank_73 hl (k := 2) rfl (nI_1 j) (by decide) rfl (fun ls hl => ?_)
              refine lv_goto (tgt := 4) hx hb dX7_keyOfRank_76 (by decide) ?_
              exact ih4 (j + 1) (fk j) _ _ ls hjn hfd2 (by omega) hP hD hS (lv_sub hl [0, 1, 3, 4] rfl)
  exact L4 _ 0 (-1) _ _ ls (Nat.zero_le _) (Or.inr (fun p hp => absurd hp (Nat.not_lt_zero _))) (Nat.lt_succ_self _) hP hD hS (lv_sub hl [0, 1, 2, 3] rfl)
set_option maxRecDepth 20000 in
theorem ggX7_rank_X7_countLess : GoodIn wsX7_rank wsX7_countLess := goodIn_ca (goodIn_r _ [6, 7, 8, 9, 10, 11, 12, 13, 14, 5, 15, 16, 17, 18, 19, 20, 21, 22, 23, 24, 25, 26, 27, 28, 29, 30, 31, 32, 33, 34, 35, 36, 37, 38, 39, 40, 41, 42, 43, 44, 45, 46, 47, 48, 49, 50, 51, 52, 53, 54, 55] (by decide +kernel) (by decide +kernel)) (goodIn_sub (fun _ h => List.mem_cons_of_mem _ (List.mem_append_right _ h)) (by decide +kernel))
set_option maxRecDepth 20000 in
theorem gX7_rank_X7_countLess : GoodIn wsX7_rank (wsV RX7 200 RX7 yX7_countLess wsX7_countLess) := goodIn_app (goodIn_of _ (by decide +kernel)) ggX7_rank_X7_countLess
theorem dX7_rank_0 : decode cX7_rank 0 = .ok (.aload_n 0, 1) := by decide +kernel
theorem dX7_rank_1 : decode cX7_rank 1 = .ok (.iconst 0, 1) := by decide +kernel
theorem dX7_rank_2 : decode cX7_rank 2 = .ok (.putfield 71, 3) := by decide +kernel
theorem dX7_rank_5 : decode cX7_rank 5 = .ok (.aload_n 0, 1) := by decide +kernel
theorem dX7_rank_6 : decode cX7_rank 6 = .ok (.iload_n 1, 1) := by decide +kernel
theorem dX7_rank_7 : decode cX7_rank 7 = .ok (.invokevirtual 200, 3) := by decide +kernel
theorem dX7_rank_10 : decode cX7_rank 10 = .ok (.ireturn, 1) := by decide +kernel
def rm_X7_rank : Room := { frames := 2, cells := 0, slots := 0, locals := 45 }
abbrev p_X7_rank (g : kG) (h : Nat) (zth : Int32) (zsg : Int32) (zl1 : Int64) (zl2 : Int64) (zl3 : Int64) (zl4 : Int64) (zpb : Int32) (zln : Int32) (zat : Int32) (zrk : Int32) (zrv : Int32) (zre : Int32) (zwr : Int32) (zrm : Int32) (zrs : Int32) (zis : Int32) (zss : Int32) (zsc : Int32) (ak : Nat) (av : Nat) (bk : Nat) (bv : Nat) (br : Nat) (a_s : Nat) (a_t : Nat) (g1 : Nat) (g2 : Nat) (g3 : Nat) (pa : Nat) (ru : Nat) (tx : Nat) (dk : Nat) (dv : Nat) (ek : Nat) (ev : Nat) (er : Nat) (es : Nat) (et : Nat) (nA : Nat) (fk : Nat → Int32) (fv : Nat → Int32) (nB : Nat) (ck : Nat → Int32) (cv : Nat → Int32) (cr : Nat → Int32) (M : List kE3) (C : List kE3) (x : Int32) : Int32 → va_W → Prop := fun r w1 => r = nI (rnkS (gat M C) x) ∧ w1 = [(h, .inr (9, [.int 0, .int (nI nA), .int (nI nB), .ref ak, .ref av, .ref bk, .ref bv, .ref br, .ref a_s, .ref a_t, .int zsg, .ref g1, .ref g2, .ref g3, .long zl1, .long zl2, .long zl3, .long zl4, .int zpb, .ref pa, .ref ru, .ref tx, .int zln, .int zat, .int zrk, .int zrv, .int zre, .int zwr, .int zrm, .int zrs, .int zis, .int zss, .int zsc, .ref dk, .ref dv, .ref ek, .ref ev, .ref er, .ref es, .ref et])), (ak, .inl (g.2.1.1, 152, .inl fk)), (av, .inl (g.2.1.1, 152, .inl fv)), (bk, .inl (g.2.1.1, 24, .inl ck)), (bv, .inl (g.2.1.1, 24, .inl cv)), (br, .inl (g.2.1.1, 24, .inl cr))]
set_option maxHeartbeats 4000000 in
set_option maxRecDepth 100000 in
theorem c_X7_rank (l : Launch) (g : kG) (h : Nat) (zth : Int32) (zsg : Int32) (zl1 : Int64) (zl2 : Int64) (zl3 : Int64) (zl4 : Int64) (zpb : Int32) (zln : Int32) (zat : Int32) (zrk : Int32) (zrv : Int32) (zre : Int32) (zwr : Int32) (zrm : Int32) (zrs : Int32) (zis : Int32) (zss : Int32) (zsc : Int32) (ak : Nat) (av : Nat) (bk : Nat) (bv : Nat) (br : Nat) (a_s : Nat) (a_t : Nat) (g1 : Nat) (g2 : Nat) (g3 : Nat) (pa : Nat) (ru : Nat) (tx : Nat) (dk : Nat) (dv : Nat) (ek : Nat) (ev : Nat) (er : Nat) (es : Nat) (et : Nat) (nA : Nat) (fk : Nat → Int32) (fv : Nat → Int32) (nB : Nat) (ck : Nat → Int32) (cv : Nat → Int32) (cr : Nat → Int32) (M : List kE3) (C : List kE3) (x : Int32) (hMM : kMM nA fk fv nB ck cv cr M C) : KI l yX7_rank wsX7_rank rm_X7_rank g [.ref h, .int x] [(h, .inr (9, [.int zth, .int (nI nA), .int (nI nB), .ref ak, .ref av, .ref bk, .ref bv, .ref br, .ref a_s, .ref a_t, .int zsg, .ref g1, .ref g2, .ref g3, .long zl1, .long zl2, .long zl3, .long zl4, .int zpb, .ref pa, .ref ru, .ref tx, .int zln, .int zat, .int zrk, .int zrv, .int zre, .int zwr, .int zrm, .int zrs, .int zis, .int zss, .int zsc, .ref dk, .ref dv, .ref ek, .ref ev, .ref er, .ref es, .ref et])), (ak, .inl (g.2.1.1, 152, .inl fk)), (av, .inl (g.2.1.1, 152, .inl fv)), (bk, .inl (g.2.1.1, 24, .inl ck)), (bv, .inl (g.2.1.1, 24, .inl cv)), (br, .inl (g.2.1.1, 24, .inl cr))] (p_X7_rank g h zth zsg zl1 zl2 zl3 zl4 zpb zln zat zrk zrv zre zwr zrm zrs zis zss zsc ak av bk bv br a_s a_t g1 g2 g3 pa ru tx dk dv ek ev er es et nA fk fv nB ck cv cr M C x) := by
  refine kbodyI (cc := cX7_rank) (n := 2) (k := 6) (own := RX7) (plainFor_of_name (by decide)) rfl rfl rfl rfl ?_
  intro p e s m below meth cd A ls hcx
  obtain ⟨hx, hb, hRt, hml, hts, hown, hlk, hA, hP, hK, hD, hE, hS, hl⟩ := hcx
  have hl : lv_has ls 2 [(0, .ref h), (1, .int x)] := hl
  refine lv_aload_n hx hb dX7_rank_0 rfl (lv_at hl 0 rfl) ?_
  refine lv_iconst (v := 0) hx hb dX7_rank_1 (by decide) ?_
  refine va_put (D := g.1) (ci := 9) (v := .int 0) (ty := .int) (C := RX7) (T := TX7) (N := 40) hx hb hts (by decide +kernel) tyX7 tyX7_ok nmX7 hown hK hP hD hS 0 rfl rfl 0 (by decide) (hts (.fieldLink RX7 71 "LearnedIndexModel" "thrown" "I") (by decide +kernel)) (fun _ h9 => h9) rfl (by decide +kernel) rfl rfl (Nat.le_of_ble_eq_true rfl) dX7_rank_2 (fun H locs hP hD hS => ?_)
  have hP : va_P g.1 vwCl [(h, .inr (9, [.int 0, .int (nI nA), .int (nI nB), .ref ak, .ref av, .ref bk, .ref bv, .ref br, .ref a_s, .ref a_t, .int zsg, .ref g1, .ref g2, .ref g3, .long zl1, .long zl2, .long zl3, .long zl4, .int zpb, .ref pa, .ref ru, .ref tx, .int zln, .int zat, .int zrk, .int zrv, .int zre, .int zwr, .int zrm, .int zrs, .int zis, .int zss, .int zsc, .ref dk, .ref dv, .ref ek, .ref ev, .ref er, .ref es, .ref et])), (ak, .inl (g.2.1.1, 152, .inl fk)), (av, .inl (g.2.1.1, 152, .inl fv)), (bk, .inl (g.2.1.1, 24, .inl ck)), (bv, .inl (g.2.1.1, 24, .inl cv)), (br, .inl (g.2.1.1, 24, .inl cr))] H := hP
  have hD : va_D A [(h, .inr (9, [.int 0, .int (nI nA), .int (nI nB), .ref ak, .ref av, .ref bk, .ref bv, .ref br, .ref a_s, .ref a_t, .int zsg, .ref g1, .ref g2, .ref g3, .long zl1, .long zl2, .long zl3, .long zl4, .int zpb, .ref pa, .ref ru, .ref tx, .int zln, .int zat, .int zrk, .int zrv, .int zre, .int zwr, .int zrm, .int zrs, .int zis, .int zss, .int zsc, .ref dk, .ref dv, .ref ek, .ref ev, .ref er, .ref es, .ref et])), (ak, .inl (g.2.1.1, 152, .inl fk)), (av, .inl (g.2.1.1, 152, .inl fv)), (bk, .inl (g.2.1.1, 24, .inl ck)), (bv, .inl (g.2.1.1, 24, .inl cv)), (br, .inl (g.2.1.1, 24, .inl cr))] := hD
  refine lv_aload_n hx hb dX7_rank_5 rfl (lv_at hl 0 rfl) ?_
  refine lv_iload_n hx hb dX7_rank_6 rfl (lv_at hl 1 rfl) ?_
  refine kcalli (wc := [(h, .inr (9, [.int 0, .int (nI nA), .int (nI nB), .ref ak, .ref av, .ref bk, .ref bv, .ref br, .ref a_s, .ref a_t, .int zsg, .ref g1, .ref g2, .ref g3, .long zl1, .long zl2, .long zl3, .long zl4, .int zpb, .ref pa, .ref ru, .ref tx, .int zln, .int zat, .int zrk, .int zrv, .int zre, .int zwr, .int zrm, .int zrs, .int zis, .int zss, .int zsc, .ref dk, .ref dv, .ref ek, .ref ev, .ref er, .ref es, .ref et])), (ak, .inl (g.2.1.1, 152, .inl fk)), (av, .inl (g.2.1.1, 152, .inl fv)), (bk, .inl (g.2.1.1, 24, .inl ck)), (bv, .inl (g.2.1.1, 24, .inl cv)), (br, .inl (g.2.1.1, 24, .inl cr))]) [0, 1, 2, 3, 4, 5] (va_runV (C := RX7) (As := [.int x]) (rest := []) ⟨hx, hb, hml, hown, hts⟩ ((c_X7_countLess l g h 0 zsg zl1 zl2 zl3 zl4 zpb zln zat zrk zrv zre zwr zrm zrs zis zss zsc ak av bk bv br a_s a_t g1 g2 g3 pa ru tx dk dv ek ev er es et nA fk fv nB ck cv cr M C x hMM) _) (cwV 1 hts gX7_rank_X7_countLess rfl rfl rfl (by decide +kernel) ⟨Nat.le_of_ble_eq_true rfl, Nat.le_of_ble_eq_true rfl⟩) (kpreV (wc := [(h, .inr (9, [.int 0, .int (nI nA), .int (nI nB), .ref ak, .ref av, .ref bk, .ref bv, .ref br, .ref a_s, .ref a_t, .int zsg, .ref g1, .ref g2, .ref g3, .long zl1, .long zl2, .long zl3, .long zl4, .int zpb, .ref pa, .ref ru, .ref tx, .int zln, .int zat, .int zrk, .int zrv, .int zre, .int zwr, .int zrm, .int zrs, .int zis, .int zss, .int zsc, .ref dk, .ref dv, .ref ek, .ref ev, .ref er, .ref es, .ref et])), (ak, .inl (g.2.1.1, 152, .inl fk)), (av, .inl (g.2.1.1, 152, .inl fv)), (bk, .inl (g.2.1.1, 24, .inl ck)), (bv, .inl (g.2.1.1, 24, .inl cv)), (br, .inl (g.2.1.1, 24, .inl cr))]) (ci := 9) hK hP hD hS hA hE [0, 1, 2, 3, 4, 5] rfl rfl rfl rfl) rfl rfl hl.1 rfl (lv_room (Nat.le_of_ble_eq_true rfl)) dX7_rank_7 ⟨Nat.zero_le _, Nat.zero_le _⟩) hP hD hS hA rfl (fun r_1 w_1 H locs hp hP hD hS => ?_)
  obtain ⟨rfl, rfl⟩ := hp
  have hP : va_P g.1 vwCl [(h, .inr (9, [.int 0, .int (nI nA), .int (nI nB), .ref ak, .ref av, .ref bk, .ref bv, .ref br, .ref a_s, .ref a_t, .int zsg, .ref g1, .ref g2, .ref g3, .long zl1, .long zl2, .long zl3, .long zl4, .int zpb, .ref pa, .ref ru, .ref tx, .int zln, .int zat, .int zrk, .int zrv, .int zre, .int zwr, .int zrm, .int zrs, .int zis, .int zss, .int zsc, .ref dk, .ref dv, .ref ek, .ref ev, .ref er, .ref es, .ref et])), (ak, .inl (g.2.1.1, 152, .inl fk)), (av, .inl (g.2.1.1, 152, .inl fv)), (bk, .inl (g.2.1.1, 24, .inl ck)), (bv, .inl (g.2.1.1, 24, .inl cv)), (br, .inl (g.2.1.1, 24, .inl cr))] H := hP
  have hD : va_D A [(h, .inr (9, [.int 0, .int (nI nA), .int (nI nB), .ref ak, .ref av, .ref bk, .ref bv, .ref br, .ref a_s, .ref a_t, .int zsg, .ref g1, .ref g2, .ref g3, .long zl1, .long zl2, .long zl3, .long zl4, .int zpb, .ref pa, .ref ru, .ref tx, .int zln, .int zat, .int zrk, .int zrv, .int zre, .int zwr, .int zrm, .int zrs, .int zis, .int zss, .int zsc, .ref dk, .ref dv, .ref ek, .ref ev, .ref er, .ref es, .ref et])), (ak, .inl (g.2.1.1, 152, .inl fk)), (av, .inl (g.2.1.1, 152, .inl fv)), (bk, .inl (g.2.1.1, 24, .inl ck)), (bv, .inl (g.2.1.1, 24, .inl cv)), (br, .inl (g.2.1.1, 24, .inl cr))] := hD
  exact kreti hx hb hRt hlk hK hP hD hS rfl dX7_rank_10 (⟨rfl, rfl⟩)
set_option maxRecDepth 20000 in
theorem ggX7_keyAt_X7_countEntries : GoodIn wsX7_keyAt wsX7_countEntries := goodIn_ca (goodIn_r _ [5, 6, 7, 8, 9, 10, 11, 12, 4, 13, 14, 39, 40, 41, 42, 43, 44, 45, 46, 47, 48, 49, 50, 51, 52, 53, 54, 55, 56, 57, 58, 59, 60, 61, 62, 63, 64, 65, 66, 67, 68, 69, 70, 71, 72, 73, 74, 75, 76, 77, 78] (by decide +kernel) (by decide +kernel)) (goodIn_sub (fun _ h => List.mem_cons_of_mem _ (List.mem_append_right _ h)) (by decide +kernel))
set_option maxRecDepth 20000 in
theorem gX7_keyAt_X7_countEntries : GoodIn wsX7_keyAt (wsV RX7 127 RX7 yX7_countEntries wsX7_countEntries) := goodIn_app (goodIn_of _ (by decide +kernel)) ggX7_keyAt_X7_countEntries
set_option maxRecDepth 20000 in
theorem ggX7_keyAt_X7_isBetween : GoodIn wsX7_keyAt wsX7_isBetween := goodIn_r _ [17] (by decide +kernel) (by decide +kernel)
set_option maxRecDepth 20000 in
theorem gX7_keyAt_X7_isBetween : GoodIn wsX7_keyAt (va_wsS RX7 75 yX7_isBetween wsX7_isBetween) := goodIn_app (goodIn_of _ (by decide +kernel)) ggX7_keyAt_X7_isBetween
set_option maxRecDepth 20000 in
theorem ggX7_keyAt_X7_fails : GoodIn wsX7_keyAt wsX7_fails := goodIn_r _ [21, 22, 39, 40, 41, 42, 43, 44, 45, 46, 47, 48, 49, 50, 51, 52, 53, 54, 55, 56, 57, 58, 59, 60, 61, 62, 63, 64, 65, 66, 67, 68, 69, 70, 71, 72, 73, 74, 75, 76, 77, 78] (by decide +kernel) (by decide +kernel)
set_option maxRecDepth 20000 in
theorem gX7_keyAt_X7_fails : GoodIn wsX7_keyAt (wsV RX7 120 RX7 yX7_fails wsX7_fails) := goodIn_app (goodIn_of _ (by decide +kernel)) ggX7_keyAt_X7_fails
set_option maxRecDepth 20000 in
theorem ggX7_keyAt_X7_keyOfRank : GoodIn wsX7_keyAt wsX7_keyOfRank := goodIn_ca (goodIn_r _ [26, 6, 7, 14, 8, 27, 28, 29, 4, 30, 9, 31, 32, 33, 34, 10, 11, 12, 13, 35, 36, 37, 38, 39, 40, 41, 42, 43, 44, 45, 46, 47, 48, 49, 50, 51, 52, 53, 54, 55, 56, 57, 58, 59, 60, 61, 62, 63, 64, 65, 66, 67, 68, 69, 70, 71, 72, 73, 74, 75, 76, 77, 78] (by decide +kernel) (by decide +kernel)) (goodIn_sub (fun _ h => List.mem_cons_of_mem _ (List.mem_append_right _ h)) (by decide +kernel))
set_option maxRecDepth 20000 in
theorem gX7_keyAt_X7_keyOfRank : GoodIn wsX7_keyAt (wsV RX7 203 RX7 yX7_keyOfRank wsX7_keyOfRank) := goodIn_app (goodIn_of _ (by decide +kernel)) ggX7_keyAt_X7_keyOfRank
theorem dX7_keyAt_0 : decode cX7_keyAt 0 = .ok (.aload_n 0, 1) := by decide +kernel
theorem dX7_keyAt_1 : decode cX7_keyAt 1 = .ok (.iconst 1, 1) := by decide +kernel
theorem dX7_keyAt_2 : decode cX7_keyAt 2 = .ok (.iload_n 1, 1) := by decide +kernel
theorem dX7_keyAt_3 : decode cX7_keyAt 3 = .ok (.iconst 0, 1) := by decide +kernel
theorem dX7_keyAt_4 : decode cX7_keyAt 4 = .ok (.aload_n 0, 1) := by decide +kernel
theorem dX7_keyAt_5 : decode cX7_keyAt 5 = .ok (.invokevirtual 127, 3) := by decide +kernel
theorem dX7_keyAt_8 : decode cX7_keyAt 8 = .ok (.iconst 1, 1) := by decide +kernel
theorem dX7_keyAt_9 : decode cX7_keyAt 9 = .ok (.isub, 1) := by decide +kernel
theorem dX7_keyAt_10 : decode cX7_keyAt 10 = .ok (.invokestatic 75, 3) := by decide +kernel
theorem dX7_keyAt_13 : decode cX7_keyAt 13 = .ok (.ifCond .ne 7, 3) := by decide +kernel
theorem dX7_keyAt_16 : decode cX7_keyAt 16 = .ok (.iconst 1, 1) := by decide +kernel
theorem dX7_keyAt_17 : decode cX7_keyAt 17 = .ok (.goto 4, 3) := by decide +kernel
theorem dX7_keyAt_20 : decode cX7_keyAt 20 = .ok (.iconst 0, 1) := by decide +kernel
theorem dX7_keyAt_21 : decode cX7_keyAt 21 = .ok (.invokevirtual 120, 3) := by decide +kernel
theorem dX7_keyAt_24 : decode cX7_keyAt 24 = .ok (.ifCond .eq 7, 3) := by decide +kernel
theorem dX7_keyAt_27 : decode cX7_keyAt 27 = .ok (.iconst 0, 1) := by decide +kernel
theorem dX7_keyAt_28 : decode cX7_keyAt 28 = .ok (.goto 8, 3) := by decide +kernel
theorem dX7_keyAt_31 : decode cX7_keyAt 31 = .ok (.aload_n 0, 1) := by decide +kernel
theorem dX7_keyAt_32 : decode cX7_keyAt 32 = .ok (.iload_n 1, 1) := by decide +kernel
theorem dX7_keyAt_33 : decode cX7_keyAt 33 = .ok (.invokevirtual 203, 3) := by decide +kernel
theorem dX7_keyAt_36 : decode cX7_keyAt 36 = .ok (.ireturn, 1) := by decide +kernel
def rm_X7_keyAt : Room := { frames := 3, cells := 0, slots := 0, locals := 69 }
abbrev p_X7_keyAt (g : kG) (h : Nat) (zth : Int32) (zsg : Int32) (zl1 : Int64) (zl2 : Int64) (zl3 : Int64) (zl4 : Int64) (zpb : Int32) (zln : Int32) (zat : Int32) (zrk : Int32) (zrv : Int32) (zre : Int32) (zwr : Int32) (zrm : Int32) (zrs : Int32) (zis : Int32) (zss : Int32) (zsc : Int32) (ak : Nat) (av : Nat) (bk : Nat) (bv : Nat) (br : Nat) (a_s : Nat) (a_t : Nat) (g1 : Nat) (g2 : Nat) (g3 : Nat) (pa : Nat) (ru : Nat) (tx : Nat) (dk : Nat) (dv : Nat) (ek : Nat) (ev : Nat) (er : Nat) (es : Nat) (et : Nat) (nA : Nat) (fk : Nat → Int32) (fv : Nat → Int32) (nB : Nat) (ck : Nat → Int32) (cv : Nat → Int32) (cr : Nat → Int32) (M : List kE3) (C : List kE3) (y : Int32) : Int32 → va_W → Prop := fun r w1 => r = (if (katK (gat M C) y) = 0 then gkey (gat M C) y.toInt.toNat else 0) ∧ w1 = [(h, .inr (9, [.int (katK (gat M C) y), .int (nI nA), .int (nI nB), .ref ak, .ref av, .ref bk, .ref bv, .ref br, .ref a_s, .ref a_t, .int zsg, .ref g1, .ref g2, .ref g3, .long zl1, .long zl2, .long zl3, .long zl4, .int zpb, .ref pa, .ref ru, .ref tx, .int zln, .int zat, .int zrk, .int zrv, .int zre, .int zwr, .int zrm, .int zrs, .int zis, .int zss, .int zsc, .ref dk, .ref dv, .ref ek, .ref ev, .ref er, .ref es, .ref et])), (ak, .inl (g.2.1.1, 152, .inl fk)), (av, .inl (g.2.1.1, 152, .inl fv)), (bk, .inl (g.2.1.1, 24, .inl ck)), (bv, .inl (g.2.1.1, 24, .inl cv)), (br, .inl (g.2.1.1, 24, .inl cr))]
set_option maxHeartbeats 4000000 in
set_option maxRecDepth 100000 in
theorem c_X7_keyAt (l : Launch) (g : kG) (h : Nat) (zth : Int32) (zsg : Int32) (zl1 : Int64) (zl2 : Int64) (zl3 : Int64) (zl4 : Int64) (zpb : Int32) (zln : Int32) (zat : Int32) (zrk : Int32) (zrv : Int32) (zre : Int32) (zwr : Int32) (zrm : Int32) (zrs : Int32) (zis : Int32) (zss : Int32) (zsc : Int32) (ak : Nat) (av : Nat) (bk : Nat) (bv : Nat) (br : Nat) (a_s : Nat) (a_t : Nat) (g1 : Nat) (g2 : Nat) (g3 : Nat) (pa : Nat) (ru : Nat) (tx : Nat) (dk : Nat) (dv : Nat) (ek : Nat) (ev : Nat) (er : Nat) (es : Nat) (et : Nat) (nA : Nat) (fk : Nat → Int32) (fv : Nat → Int32) (nB : Nat) (ck : Nat → Int32) (cv : Nat → Int32) (cr : Nat → Int32) (M : List kE3) (C : List kE3) (y : Int32) (hMM : kMM nA fk fv nB ck cv cr M C) : KI l yX7_keyAt wsX7_keyAt rm_X7_keyAt g [.ref h, .int y] [(h, .inr (9, [.int zth, .int (nI nA), .int (nI nB), .ref ak, .ref av, .ref bk, .ref bv, .ref br, .ref a_s, .ref a_t, .int zsg, .ref g1, .ref g2, .ref g3, .long zl1, .long zl2, .long zl3, .long zl4, .int zpb, .ref pa, .ref ru, .ref tx, .int zln, .int zat, .int zrk, .int zrv, .int zre, .int zwr, .int zrm, .int zrs, .int zis, .int zss, .int zsc, .ref dk, .ref dv, .ref ek, .ref ev, .ref er, .ref es, .ref et])), (ak, .inl (g.2.1.1, 152, .inl fk)), (av, .inl (g.2.1.1, 152, .inl fv)), (bk, .inl (g.2.1.1, 24, .inl ck)), (bv, .inl (g.2.1.1, 24, .inl cv)), (br, .inl (g.2.1.1, 24, .inl cr))] (p_X7_keyAt g h zth zsg zl1 zl2 zl3 zl4 zpb zln zat zrk zrv zre zwr zrm zrs zis zss zsc ak av bk bv br a_s a_t g1 g2 g3 pa ru tx dk dv ek ev er es et nA fk fv nB ck cv cr M C y) := by
  refine kbodyI (cc := cX7_keyAt) (n := 2) (k := 6) (own := RX7) (plainFor_of_name (by decide)) rfl rfl rfl rfl ?_
  intro p e s m below meth cd A ls hcx
  obtain ⟨hx, hb, hRt, hml, hts, hown, hlk, hA, hP, hK, hD, hE, hS, hl⟩ := hcx
  have hl : lv_has ls 2 [(0, .ref h), (1, .int y)] := hl
  obtain ⟨⟨hM, hC⟩, ⟨hnM, hnC⟩, ⟨hIM, hIC⟩, hlen, hrem⟩ := id hMM
  have hsM : kSo (EL nA fk fv fz0) := by rw [hM]; exact hIM.1
  have hsC : kSo (EL nB ck cv cr) := by rw [hC]; exact hIC.1
  have hnl : nA = M.length := by rw [← hM, EL_len]
  have hcl : nB = C.length := by rw [← hC, EL_len]
  refine lv_aload_n hx hb dX7_keyAt_0 rfl (lv_at hl 0 rfl) ?_
  refine lv_iconst (v := 1) hx hb dX7_keyAt_1 (by decide) ?_
  refine lv_iload_n hx hb dX7_keyAt_2 rfl (lv_at hl 1 rfl) ?_
  refine lv_iconst (v := 0) hx hb dX7_keyAt_3 (by decide) ?_
  refine lv_aload_n hx hb dX7_keyAt_4 rfl (lv_at hl 0 rfl) ?_
  refine kcalli (wc := [(h, .inr (9, [.int zth, .int (nI nA), .int (nI nB), .ref ak, .ref av, .ref bk, .ref bv, .ref br, .ref a_s, .ref a_t, .int zsg, .ref g1, .ref g2, .ref g3, .long zl1, .long zl2, .long zl3, .long zl4, .int zpb, .ref pa, .ref ru, .ref tx, .int zln, .int zat, .int zrk, .int zrv, .int zre, .int zwr, .int zrm, .int zrs, .int zis, .int zss, .int zsc, .ref dk, .ref dv, .ref ek, .ref ev, .ref er, .ref es, .ref et])), (ak, .inl (g.2.1.1, 152, .inl fk)), (av, .inl (g.2.1.1, 152, .inl fv)), (bk, .inl (g.2.1.1, 24, .inl ck)), (bv, .inl (g.2.1.1, 24, .inl cv)), (br, .inl (g.2.1.1, 24, .inl cr))]) [0, 1, 2, 3, 4, 5] (va_runV (C := RX7) (As := []) (rest := [.int 0, .int y, .int 1, .ref h]) ⟨hx, hb, hml, hown, hts⟩ ((c_X7_countEntries l g h zth zsg zl1 zl2 zl3 zl4 zpb zln zat zrk zrv zre zwr zrm zrs zis zss zsc ak av bk bv br a_s a_t g1 g2 g3 pa ru tx dk dv ek ev er es et nA fk fv nB ck cv cr M C hMM) _) (cwV 0 hts gX7_keyAt_X7_countEntries rfl rfl rfl (by decide +kernel) ⟨Nat.le_of_ble_eq_true rfl, Nat.le_of_ble_eq_true rfl⟩) (kpreV (wc := [(h, .inr (9, [.int zth, .int (nI nA), .int (nI nB), .ref ak, .ref av, .ref bk, .ref bv, .ref br, .ref a_s, .ref a_t, .int zsg, .ref g1, .ref g2, .ref g3, .long zl1, .long zl2, .long zl3, .long zl4, .int zpb, .ref pa, .ref ru, .ref tx, .int zln, .int zat, .int zrk, .int zrv, .int zre, .int zwr, .int zrm, .int zrs, .int zis, .int zss, .int zsc, .ref dk, .ref dv, .ref ek, .ref ev, .ref er, .ref es, .ref et])), (ak, .inl (g.2.1.1, 152, .inl fk)), (av, .inl (g.2.1.1, 152, .inl fv)), (bk, .inl (g.2.1.1, 24, .inl ck)), (bv, .inl (g.2.1.1, 24, .inl cv)), (br, .inl (g.2.1.1, 24, .inl cr))]) (ci := 9) hK hP hD hS hA hE [0, 1, 2, 3, 4, 5] rfl rfl rfl rfl) rfl rfl hl.1 rfl (lv_room (Nat.le_of_ble_eq_true rfl)) dX7_keyAt_5 ⟨Nat.zero_le _, Nat.zero_le _⟩) hP hD hS hA rfl (fun r_1 w_1 H locs hp hP hD hS => ?_)
  obtain ⟨rfl, rfl⟩ := hp
  have hP : va_P g.1 vwCl [(h, .inr (9, [.int zth, .int (nI nA), .int (nI nB), .ref ak, .ref av, .ref bk, .ref bv, .ref br, .ref a_s, .ref a_t, .int zsg, .ref g1, .ref g2, .ref g3, .long zl1, .long zl2, .long zl3, .long zl4, .int zpb, .ref pa, .ref ru, .ref tx, .int zln, .int zat, .int zrk, .int zrv, .int zre, .int zwr, .int zrm, .int zrs, .int zis, .int zss, .int zsc, .ref dk, .ref dv, .ref ek, .ref ev, .ref er, .ref es, .ref et])), (ak, .inl (g.2.1.1, 152, .inl fk)), (av, .inl (g.2.1.1, 152, .inl fv)), (bk, .inl (g.2.1.1, 24, .inl ck)), (bv, .inl (g.2.1.1, 24, .inl cv)), (br, .inl (g.2.1.1, 24, .inl cr))] H := hP
  have hD : va_D A [(h, .inr (9, [.int zth, .int (nI nA), .int (nI nB), .ref ak, .ref av, .ref bk, .ref bv, .ref br, .ref a_s, .ref a_t, .int zsg, .ref g1, .ref g2, .ref g3, .long zl1, .long zl2, .long zl3, .long zl4, .int zpb, .ref pa, .ref ru, .ref tx, .int zln, .int zat, .int zrk, .int zrv, .int zre, .int zwr, .int zrm, .int zrs, .int zis, .int zss, .int zsc, .ref dk, .ref dv, .ref ek, .ref ev, .ref er, .ref es, .ref et])), (ak, .inl (g.2.1.1, 152, .inl fk)), (av, .inl (g.2.1.1, 152, .inl fv)), (bk, .inl (g.2.1.1, 24, .inl ck)), (bv, .inl (g.2.1.1, 24, .inl cv)), (br, .inl (g.2.1.1, 24, .inl cr))] := hD
  refine lv_iconst (v := 1) hx hb dX7_keyAt_8 (by decide) ?_
  refine lv_isub hx hb dX7_keyAt_9 ?_
  rw [show ((nI (gat M C).length) - 1 : Int32) = kH (gat M C).length from kH_sub _]
  refine kcalli (wc := []) [] (va_runS (As := [.int y, .int 0, .int (kH (gat M C).length)]) (rest := [.int 1, .ref h]) ⟨hx, hb, hml, hown, hts⟩ ((c_X7_isBetween l g y 0 (kH (gat M C).length)) _) (va_cwS 3 hts gX7_keyAt_X7_isBetween rfl rfl rfl (by decide +kernel) ⟨Nat.le_of_ble_eq_true rfl, Nat.le_of_ble_eq_true rfl⟩) (kpreS (wc := []) hK hP hD hS hA hE [] rfl rfl) rfl rfl hl.1 rfl (lv_room (Nat.le_of_ble_eq_true rfl)) dX7_keyAt_10 ⟨Nat.zero_le _, Nat.zero_le _⟩) hP hD hS hA rfl (fun r_2 w_2 H locs hp hP hD hS => ?_)
  obtain ⟨rfl, rfl⟩ := hp
  have hP : va_P g.1 vwCl [(h, .inr (9, [.int zth, .int (nI nA), .int (nI nB), .ref ak, .ref av, .ref bk, .ref bv, .ref br, .ref a_s, .ref a_t, .int zsg, .ref g1, .ref g2, .ref g3, .long zl1, .long zl2, .long zl3, .long zl4, .int zpb, .ref pa, .ref ru, .ref tx, .int zln, .int zat, .int zrk, .int zrv, .int zre, .int zwr, .int zrm, .int zrs, .int zis, .int zss, .int zsc, .ref dk, .ref dv, .ref ek, .ref ev, .ref er, .ref es, .ref et])), (ak, .inl (g.2.1.1, 152, .inl fk)), (av, .inl (g.2.1.1, 152, .inl fv)), (bk, .inl (g.2.1.1, 24, .inl ck)), (bv, .inl (g.2.1.1, 24, .inl cv)), (br, .inl (g.2.1.1, 24, .inl cr))] H := hP
  have hD : va_D A [(h, .inr (9, [.int zth, .int (nI nA), .int (nI nB), .ref ak, .ref av, .ref bk, .ref bv, .ref br, .ref a_s, .ref a_t, .int zsg, .ref g1, .ref g2, .ref g3, .long zl1, .long zl2, .long zl3, .long zl4, .int zpb, .ref pa, .ref ru, .ref tx, .int zln, .int zat, .int zrk, .int zrv, .int zre, .int zwr, .int zrm, .int zrs, .int zis, .int zss, .int zsc, .ref dk, .ref dv, .ref ek, .ref ev, .ref er, .ref es, .ref et])), (ak, .inl (g.2.1.1, 152, .inl fk)), (av, .inl (g.2.1.1, 152, .inl fv)), (bk, .inl (g.2.1.1, 24, .inl ck)), (bv, .inl (g.2.1.1, 24, .inl cv)), (br, .inl (g.2.1.1, 24, .inl cr))] := hD
  refine lv_if_ne (tgt := 20) hx hb dX7_keyAt_13 (by decide) (fun c_13 => ?_) (fun c_13 => ?_)
  · skip
    obtain ⟨hy1, hy2, hy3⟩ := isB_rng (by omega) c_13
    have hk9 : katK (gat M C) y = 0 := by rw [katK, if_pos ⟨hy2, hy3⟩]
    refine lv_iconst (v := 0) hx hb dX7_keyAt_20 (by decide) ?_
    refine kcalli (wc := [(h, .inr (9, [.int zth, .int (nI nA), .int (nI nB), .ref ak, .ref av, .ref bk, .ref bv, .ref br, .ref a_s, .ref a_t, .int zsg, .ref g1, .ref g2, .ref g3, .long zl1, .long zl2, .long zl3, .long zl4, .int zpb, .ref pa, .ref ru, .ref tx, .int zln, .int zat, .int zrk, .int zrv, .int zre, .int zwr, .int zrm, .int zrs, .int zis, .int zss, .int zsc, .ref dk, .ref dv, .ref ek, .ref ev, .ref er, .ref es, .ref et]))]) [0] (va_runV (C := RX7) (As := [.int 1, .int 0]) (rest := []) ⟨hx, hb, hml, hown, hts⟩ ((c_X7_fails0 l g h zth (nI nA) (nI nB) zsg zl1 zl2 zl3 zl4 zpb zln zat zrk zrv zre zwr zrm zrs zis zss zsc ak av bk bv br a_s a_t g1 g2 g3 pa ru tx dk dv ek ev er es et 1) _) (cwV 2 hts gX7_keyAt_X7_fails rfl rfl rfl (by decide +kernel) ⟨Nat.le_of_ble_eq_true rfl, Nat.le_of_ble_eq_true rfl⟩) (kpreV (wc := [(h, .inr (9, [.int zth, .int (nI nA), .int (nI nB), .ref ak, .ref av, .ref bk, .ref bv, .ref br, .ref a_s, .ref a_t, .int zsg, .ref g1, .ref g2, .ref g3, .long zl1, .long zl2, .long zl3, .long zl4, .int zpb, .ref pa, .ref ru, .ref tx, .int zln, .int zat, .int zrk, .int zrv, .int zre, .int zwr, .int zrm, .int zrs, .int zis, .int zss, .int zsc, .ref dk, .ref dv, .ref ek, .ref ev, .ref er, .ref es, .ref et]))]) (ci := 9) hK hP hD hS hA hE [0] rfl rfl rfl rfl) rfl rfl hl.1 rfl (lv_room (Nat.le_of_ble_eq_true rfl)) dX7_keyAt_21 ⟨Nat.zero_le _, Nat.zero_le _⟩) hP hD hS hA rfl (fun r_3 w_3 H locs hp hP hD hS => ?_)
    obtain ⟨rfl, rfl⟩ := hp
    have hP : va_P g.1 vwCl [(h, .inr (9, [.int 0, .int (nI nA), .int (nI nB), .ref ak, .ref av, .ref bk, .ref bv, .ref br, .ref a_s, .ref a_t, .int zsg, .ref g1, .ref g2, .ref g3, .long zl1, .long zl2, .long zl3, .long zl4, .int zpb, .ref pa, .ref ru, .ref tx, .int zln, .int zat, .int zrk, .int zrv, .int zre, .int zwr, .int zrm, .int zrs, .int zis, .int zss, .int zsc, .ref dk, .ref dv, .ref ek, .ref ev, .ref er, .ref es, .ref et])), (ak, .inl (g.2.1.1, 152, .inl fk)), (av, .inl (g.2.1.1, 152, .inl fv)), (bk, .inl (g.2.1.1, 24, .inl ck)), (bv, .inl (g.2.1.1, 24, .inl cv)), (br, .inl (g.2.1.1, 24, .inl cr))] H := hP
    have hD : va_D A [(h, .inr (9, [.int 0, .int (nI nA), .int (nI nB), .ref ak, .ref av, .ref bk, .ref bv, .ref br, .ref a_s, .ref a_t, .int zsg, .ref g1, .ref g2, .ref g3, .long zl1, .long zl2, .long zl3, .long zl4, .int zpb, .ref pa, .ref ru, .ref tx, .int zln, .int zat, .int zrk, .int zrv, .int zre, .int zwr, .int zrm, .int zrs, .int zis, .int zss, .int zsc, .ref dk, .ref dv, .ref ek, .ref ev, .ref er, .ref es, .ref et])), (ak, .inl (g.2.1.1, 152, .inl fk)), (av, .inl (g.2.1.1, 152, .inl fv)), (bk, .inl (g.2.1.1, 24, .inl ck)), (bv, .inl (g.2.1.1, 24, .inl cv)), (br, .inl (g.2.1.1, 24, .inl cr))] := hD
    refine lv_if_eq (tgt := 31) hx hb dX7_keyAt_24 (by decide) (fun c_24 => ?_) (fun c_24 => absurd (by decide) c_24)
    refine lv_aload_n hx hb dX7_keyAt_31 rfl (lv_at hl 0 rfl) ?_
    refine lv_iload_n hx hb dX7_keyAt_32 rfl (lv_at hl 1 rfl) ?_
    refine lv_topi (fun v33 e_v33 => ?_)
    rw [show (v33 : Int32) = nI y.toInt.toNat from e_v33.trans hy1]
    refine kcalli (wc := [(h, .inr (9, [.int 0, .int (nI nA), .int (nI nB), .ref ak, .ref av, .ref bk, .ref bv, .ref br, .ref a_s, .ref a_t, .int zsg, .ref g1, .ref g2, .ref g3, .long zl1, .long zl2, .long zl3, .long zl4, .int zpb, .ref pa, .ref ru, .ref tx, .int zln, .int zat, .int zrk, .int zrv, .int zre, .int zwr, .int zrm, .int zrs, .int zis, .int zss, .int zsc, .ref dk, .ref dv, .ref ek, .ref ev, .ref er, .ref es, .ref et])), (ak, .inl (g.2.1.1, 152, .inl fk)), (av, .inl (g.2.1.1, 152, .inl fv)), (bk, .inl (g.2.1.1, 24, .inl ck)), (bv, .inl (g.2.1.1, 24, .inl cv)), (br, .inl (g.2.1.1, 24, .inl cr))]) [0, 1, 2, 3, 4, 5] (va_runV (C := RX7) (As := [.int (nI y.toInt.toNat)]) (rest := []) ⟨hx, hb, hml, hown, hts⟩ ((c_X7_keyOfRank l g h 0 zsg zl1 zl2 zl3 zl4 zpb zln zat zrk zrv zre zwr zrm zrs zis zss zsc ak av bk bv br a_s a_t g1 g2 g3 pa ru tx dk dv ek ev er es et nA fk fv nB ck cv cr M C y.toInt.toNat hMM hy3) _) (cwV 1 hts gX7_keyAt_X7_keyOfRank rfl rfl rfl (by decide +kernel) ⟨Nat.le_of_ble_eq_true rfl, Nat.le_of_ble_eq_true rfl⟩) (kpreV (wc := [(h, .inr (9, [.int 0, .int (nI nA), .int (nI nB), .ref ak, .ref av, .ref bk, .ref bv, .ref br, .ref a_s, .ref a_t, .int zsg, .ref g1, .ref g2, .ref g3, .long zl1, .long zl2, .long zl3, .long zl4, .int zpb, .ref pa, .ref ru, .ref tx, .int zln, .int zat, .int zrk, .int zrv, .int zre, .int zwr, .int zrm, .int zrs, .int zis, .int zss, .int zsc, .ref dk, .ref dv, .ref ek, .ref ev, .ref er, .ref es, .ref et])), (ak, .inl (g.2.1.1, 152, .inl fk)), (av, .inl (g.2.1.1, 152, .inl fv)), (bk, .inl (g.2.1.1, 24, .inl ck)), (bv, .inl (g.2.1.1, 24, .inl cv)), (br, .inl (g.2.1.1, 24, .inl cr))]) (ci := 9) hK hP hD hS hA hE [0, 1, 2, 3, 4, 5] rfl rfl rfl rfl) rfl rfl hl.1 rfl (lv_room (Nat.le_of_ble_eq_true rfl)) dX7_keyAt_33 ⟨Nat.zero_le _, Nat.zero_le _⟩) hP hD hS hA rfl (fun r_4 w_4 H locs hp hP hD hS => ?_)
    obtain ⟨rfl, rfl⟩ := hp
    have hP : va_P g.1 vwCl [(h, .inr (9, [.int 0, .int (nI nA), .int (nI nB), .ref ak, .ref av, .ref bk, .ref bv, .ref br, .ref a_s, .ref a_t, .int zsg, .ref g1, .ref g2, .ref g3, .long zl1, .long zl2, .long zl3, .long zl4, .int zpb, .ref pa, .ref ru, .ref tx, .int zln, .int zat, .int zrk, .int zrv, .int zre, .int zwr, .int zrm, .int zrs, .int zis, .int zss, .int zsc, .ref dk, .ref dv, .ref ek, .ref ev, .ref er, .ref es, .ref et])), (ak, .inl (g.2.1.1, 152, .inl fk)), (av, .inl (g.2.1.1, 152, .inl fv)), (bk, .inl (g.2.1.1, 24, .inl ck)), (bv, .inl (g.2.1.1, 24, .inl cv)), (br, .inl (g.2.1.1, 24, .inl cr))] H := hP
    have hD : va_D A [(h, .inr (9, [.int 0, .int (nI nA), .int (nI nB), .ref ak, .ref av, .ref bk, .ref bv, .ref br, .ref a_s, .ref a_t, .int zsg, .ref g1, .ref g2, .ref g3, .long zl1, .long zl2, .long zl3, .long zl4, .int zpb, .ref pa, .ref ru, .ref tx, .int zln, .int zat, .int zrk, .int zrv, .int zre, .int zwr, .int zrm, .int zrs, .int zis, .int zss, .int zsc, .ref dk, .ref dv, .ref ek, .ref ev, .ref er, .ref es, .ref et])), (ak, .inl (g.2.1.1, 152, .inl fk)), (av, .inl (g.2.1.1, 152, .inl fv)), (bk, .inl (g.2.1.1, 24, .inl ck)), (bv, .inl (g.2.1.1, 24, .inl cv)), (br, .inl (g.2.1.1, 24, .inl cr))] := hD
    exact kreti hx hb hRt hlk hK hP hD hS rfl dX7_keyAt_36 (⟨by rw [hk9, if_pos rfl], by rw [hk9]⟩)
  · skip
    have hk9 : katK (gat M C) y = 1 := by rw [katK, if_neg (isB_nrng (by omega) c_13)]
    refine lv_iconst (v := 1) hx hb dX7_keyAt_16 (by decide) ?_
    refine lv_goto (tgt := 21) hx hb dX7_keyAt_17 (by decide) ?_
    refine kcalli (wc := [(h, .inr (9, [.int zth, .int (nI nA), .int (nI nB), .ref ak, .ref av, .ref bk, .ref bv, .ref br, .ref a_s, .ref a_t, .int zsg, .ref g1, .ref g2, .ref g3, .long zl1, .long zl2, .long zl3, .long zl4, .int zpb, .ref pa, .ref ru, .ref tx, .int zln, .int zat, .int zrk, .int zrv, .int zre, .int zwr, .int zrm, .int zrs, .int zis, .int zss, .int zsc, .ref dk, .ref dv, .ref ek, .ref ev, .ref er, .ref es, .ref et]))]) [0] (va_runV (C := RX7) (As := [.int 1, .int 1]) (rest := []) ⟨hx, hb, hml, hown, hts⟩ ((c_X7_fails1 l g h zth (nI nA) (nI nB) zsg zl1 zl2 zl3 zl4 zpb zln zat zrk zrv zre zwr zrm zrs zis zss zsc ak av bk bv br a_s a_t g1 g2 g3 pa ru tx dk dv ek ev er es et 1) _) (cwV 2 hts gX7_keyAt_X7_fails rfl rfl rfl (by decide +kernel) ⟨Nat.le_of_ble_eq_true rfl, Nat.le_of_ble_eq_true rfl⟩) (kpreV (wc := [(h, .inr (9, [.int zth, .int (nI nA), .int (nI nB), .ref ak, .ref av, .ref bk, .ref bv, .ref br, .ref a_s, .ref a_t, .int zsg, .ref g1, .ref g2, .ref g3, .long zl1, .long zl2, .long zl3, .long zl4, .int zpb, .ref pa, .ref ru, .ref tx, .int zln, .int zat, .int zrk, .int zrv, .int zre, .int zwr, .int zrm, .int zrs, .int zis, .int zss, .int zsc, .ref dk, .ref dv, .ref ek, .ref ev, .ref er, .ref es, .ref et]))]) (ci := 9) hK hP hD hS hA hE [0] rfl rfl rfl rfl) rfl rfl hl.1 rfl (lv_room (Nat.le_of_ble_eq_true rfl)) dX7_keyAt_21 ⟨Nat.zero_le _, Nat.zero_le _⟩) hP hD hS hA rfl (fun r_5 w_5 H locs hp hP hD hS => ?_)
    obtain ⟨rfl, rfl⟩ := hp
    have hP : va_P g.1 vwCl [(h, .inr (9, [.int 1, .int (nI nA), .int (nI nB), .ref ak, .ref av, .ref bk, .ref bv, .ref br, .ref a_s, .ref a_t, .int zsg, .ref g1, .ref g2, .ref g3, .long zl1, .long zl2, .long zl3, .long zl4, .int zpb, .ref pa, .ref ru, .ref tx, .int zln, .int zat, .int zrk, .int zrv, .int zre, .int zwr, .int zrm, .int zrs, .int zis, .int zss, .int zsc, .ref dk, .ref dv, .ref ek, .ref ev, .ref er, .ref es, .ref et])), (ak, .inl (g.2.1.1, 152, .inl fk)), (av, .inl (g.2.1.1, 152, .inl fv)), (bk, .inl (g.2.1.1, 24, .inl ck)), (bv, .inl (g.2.1.1, 24, .inl cv)), (br, .inl (g.2.1.1, 24, .inl cr))] H := hP
    have hD : va_D A [(h, .inr (9, [.int 1, .int (nI nA), .int (nI nB), .ref ak, .ref av, .ref bk, .ref bv, .ref br, .ref a_s, .ref a_t, .int zsg, .ref g1, .ref g2, .ref g3, .long zl1, .long zl2, .long zl3, .long zl4, .int zpb, .ref pa, .ref ru, .ref tx, .int zln, .int zat, .int zrk, .int zrv, .int zre, .int zwr, .int zrm, .int zrs, .int zis, .int zss, .int zsc, .ref dk, .ref dv, .ref ek, .ref ev, .ref er, .ref es, .ref et])), (ak, .inl (g.2.1.1, 152, .inl fk)), (av, .inl (g.2.1.1, 152, .inl fv)), (bk, .inl (g.2.1.1, 24, .inl ck)), (bv, .inl (g.2.1.1, 24, .inl cv)), (br, .inl (g.2.1.1, 24, .inl cr))] := hD
    refine lv_if_eq (tgt := 31) hx hb dX7_keyAt_24 (by decide) (fun c_24 => absurd c_24 (by decide)) (fun c_24 => ?_)
    refine lv_iconst (v := 0) hx hb dX7_keyAt_27 (by decide) ?_
    refine lv_goto (tgt := 36) hx hb dX7_keyAt_28 (by decide) ?_
    exact kreti hx hb hRt hlk hK hP hD hS rfl dX7_keyAt_36 (⟨by rw [hk9]; rfl, by rw [hk9]⟩)
set_option maxRecDepth 20000 in
theorem ggX7_neighbor_X7_countLess : GoodIn wsX7_neighbor wsX7_countLess := goodIn_ca (goodIn_r _ [5, 6, 7, 8, 9, 10, 11, 12, 13, 4, 14, 42, 43, 44, 45, 46, 47, 48, 49, 50, 51, 52, 53, 54, 55, 56, 57, 58, 59, 60, 61, 62, 63, 64, 65, 66, 67, 68, 69, 70, 71, 72, 73, 74, 75, 76, 77, 78, 79, 80, 81] (by decide +kernel) (by decide +kernel)) (goodIn_sub (fun _ h => List.mem_cons_of_mem _ (List.mem_append_right _ h)) (by decide +kernel))
set_option maxRecDepth 20000 in
theorem gX7_neighbor_X7_countLess : GoodIn wsX7_neighbor (wsV RX7 200 RX7 yX7_countLess wsX7_countLess) := goodIn_app (goodIn_of _ (by decide +kernel)) ggX7_neighbor_X7_countLess
set_option maxRecDepth 20000 in
theorem ggX7_neighbor_X7_isKey : GoodIn wsX7_neighbor wsX7_isKey := goodIn_r _ [17, 18, 19, 4, 20] (by decide +kernel) (by decide +kernel)
set_option maxRecDepth 20000 in
theorem gX7_neighbor_X7_isKey : GoodIn wsX7_neighbor (va_wsS RX7 116 yX7_isKey wsX7_isKey) := goodIn_app (goodIn_of _ (by decide +kernel)) ggX7_neighbor_X7_isKey
set_option maxRecDepth 20000 in
theorem ggX7_neighbor_X7_isThere : GoodIn wsX7_neighbor wsX7_isThere := goodIn_ca (goodIn_r _ [24, 10, 11, 12, 13, 4, 14, 8, 9, 25, 26, 27, 28, 6, 7, 42, 43, 44, 45, 46, 47, 48, 49, 50, 51, 52, 53, 54, 55, 56, 57, 58, 59, 60, 61, 62, 63, 64, 65, 66, 67, 68, 69, 70, 71, 72, 73, 74, 75, 76, 77, 78, 79, 80, 81] (by decide +kernel) (by decide +kernel)) (goodIn_sub (fun _ h => List.mem_cons_of_mem _ (List.mem_append_right _ h)) (by decide +kernel))
set_option maxRecDepth 20000 in
theorem gX7_neighbor_X7_isThere : GoodIn wsX7_neighbor (wsV RX7 124 RX7 yX7_isThere wsX7_isThere) := goodIn_app (goodIn_of _ (by decide +kernel)) ggX7_neighbor_X7_isThere
set_option maxRecDepth 20000 in
theorem ggX7_neighbor_X7_countEntries : GoodIn wsX7_neighbor wsX7_countEntries := goodIn_ca (goodIn_r _ [32, 6, 8, 9, 10, 25, 26, 27, 4, 28, 7, 42, 43, 44, 45, 46, 47, 48, 49, 50, 51, 52, 53, 54, 55, 56, 57, 58, 59, 60, 61, 62, 63, 64, 65, 66, 67, 68, 69, 70, 71, 72, 73, 74, 75, 76, 77, 78, 79, 80, 81] (by decide +kernel) (by decide +kernel)) (goodIn_sub (fun _ h => List.mem_cons_of_mem _ (List.mem_append_right _ h)) (by decide +kernel))
set_option maxRecDepth 20000 in
theorem gX7_neighbor_X7_countEntries : GoodIn wsX7_neighbor (wsV RX7 127 RX7 yX7_countEntries wsX7_countEntries) := goodIn_app (goodIn_of _ (by decide +kernel)) ggX7_neighbor_X7_countEntries
set_option maxRecDepth 20000 in
theorem ggX7_neighbor_X7_isBetween : GoodIn wsX7_neighbor wsX7_isBetween := goodIn_r _ [20] (by decide +kernel) (by decide +kernel)
set_option maxRecDepth 20000 in
theorem gX7_neighbor_X7_isBetween : GoodIn wsX7_neighbor (va_wsS RX7 75 yX7_isBetween wsX7_isBetween) := goodIn_app (goodIn_of _ (by decide +kernel)) ggX7_neighbor_X7_isBetween
set_option maxRecDepth 20000 in
theorem ggX7_neighbor_X7_fails : GoodIn wsX7_neighbor wsX7_fails := goodIn_r _ [36, 37, 42, 43, 44, 45, 46, 47, 48, 49, 50, 51, 52, 53, 54, 55, 56, 57, 58, 59, 60, 61, 62, 63, 64, 65, 66, 67, 68, 69, 70, 71, 72, 73, 74, 75, 76, 77, 78, 79, 80, 81] (by decide +kernel) (by decide +kernel)
set_option maxRecDepth 20000 in
theorem gX7_neighbor_X7_fails : GoodIn wsX7_neighbor (wsV RX7 120 RX7 yX7_fails wsX7_fails) := goodIn_app (goodIn_of _ (by decide +kernel)) ggX7_neighbor_X7_fails
set_option maxRecDepth 20000 in
theorem ggX7_neighbor_X7_keyOfRank : GoodIn wsX7_neighbor wsX7_keyOfRank := goodIn_ca (goodIn_r _ [41, 6, 8, 7, 9, 21, 22, 23, 4, 24, 10, 11, 12, 13, 14, 25, 26, 27, 28, 1, 2, 3, 5, 42, 43, 44, 45, 46, 47, 48, 49, 50, 51, 52, 53, 54, 55, 56, 57, 58, 59, 60, 61, 62, 63, 64, 65, 66, 67, 68, 69, 70, 71, 72, 73, 74, 75, 76, 77, 78, 79, 80, 81] (by decide +kernel) (by decide +kernel)) (goodIn_sub (fun _ h => List.mem_cons_of_mem _ (List.mem_append_right _ h)) (by decide +kernel))
set_option maxRecDepth 20000 in
theorem gX7_neighbor_X7_keyOfRank : GoodIn wsX7_neighbor (wsV RX7 203 RX7 yX7_keyOfRank wsX7_keyOfRank) := goodIn_app (goodIn_of _ (by decide +kernel)) ggX7_neighbor_X7_keyOfRank
theorem dX7_neighbor_0 : decode cX7_neighbor 0 = .ok (.aload_n 0, 1) := by decide +kernel
theorem dX7_neighbor_1 : decode cX7_neighbor 1 = .ok (.iload_n 1, 1) := by decide +kernel
theorem dX7_neighbor_2 : decode cX7_neighbor 2 = .ok (.invokevirtual 200, 3) := by decide +kernel
theorem dX7_neighbor_5 : decode cX7_neighbor 5 = .ok (.istore_n 3, 1) := by decide +kernel
theorem dX7_neighbor_6 : decode cX7_neighbor 6 = .ok (.iload_n 1, 1) := by decide +kernel
theorem dX7_neighbor_7 : decode cX7_neighbor 7 = .ok (.invokestatic 116, 3) := by decide +kernel
theorem dX7_neighbor_10 : decode cX7_neighbor 10 = .ok (.ifCond .eq 15, 3) := by decide +kernel
theorem dX7_neighbor_13 : decode cX7_neighbor 13 = .ok (.aload_n 0, 1) := by decide +kernel
theorem dX7_neighbor_14 : decode cX7_neighbor 14 = .ok (.iload_n 1, 1) := by decide +kernel
theorem dX7_neighbor_15 : decode cX7_neighbor 15 = .ok (.invokevirtual 124, 3) := by decide +kernel
theorem dX7_neighbor_18 : decode cX7_neighbor 18 = .ok (.ifCond .eq 7, 3) := by decide +kernel
theorem dX7_neighbor_21 : decode cX7_neighbor 21 = .ok (.iconst 1, 1) := by decide +kernel
theorem dX7_neighbor_22 : decode cX7_neighbor 22 = .ok (.goto 4, 3) := by decide +kernel
theorem dX7_neighbor_25 : decode cX7_neighbor 25 = .ok (.iconst 0, 1) := by decide +kernel
theorem dX7_neighbor_26 : decode cX7_neighbor 26 = .ok (.istore 4, 2) := by decide +kernel
theorem dX7_neighbor_28 : decode cX7_neighbor 28 = .ok (.iload_n 2, 1) := by decide +kernel
theorem dX7_neighbor_29 : decode cX7_neighbor 29 = .ok (.ifCond .ne 8, 3) := by decide +kernel
theorem dX7_neighbor_32 : decode cX7_neighbor 32 = .ok (.iload 4, 2) := by decide +kernel
theorem dX7_neighbor_34 : decode cX7_neighbor 34 = .ok (.ifCond .eq 7, 3) := by decide +kernel
theorem dX7_neighbor_37 : decode cX7_neighbor 37 = .ok (.iload_n 3, 1) := by decide +kernel
theorem dX7_neighbor_38 : decode cX7_neighbor 38 = .ok (.goto 6, 3) := by decide +kernel
theorem dX7_neighbor_41 : decode cX7_neighbor 41 = .ok (.iload_n 3, 1) := by decide +kernel
theorem dX7_neighbor_42 : decode cX7_neighbor 42 = .ok (.iconst 1, 1) := by decide +kernel
theorem dX7_neighbor_43 : decode cX7_neighbor 43 = .ok (.isub, 1) := by decide +kernel
theorem dX7_neighbor_44 : decode cX7_neighbor 44 = .ok (.istore 5, 2) := by decide +kernel
theorem dX7_neighbor_46 : decode cX7_neighbor 46 = .ok (.aload_n 0, 1) := by decide +kernel
theorem dX7_neighbor_47 : decode cX7_neighbor 47 = .ok (.iconst 1, 1) := by decide +kernel
theorem dX7_neighbor_48 : decode cX7_neighbor 48 = .ok (.iload 5, 2) := by decide +kernel
theorem dX7_neighbor_50 : decode cX7_neighbor 50 = .ok (.iconst 0, 1) := by decide +kernel
theorem dX7_neighbor_51 : decode cX7_neighbor 51 = .ok (.aload_n 0, 1) := by decide +kernel
theorem dX7_neighbor_52 : decode cX7_neighbor 52 = .ok (.invokevirtual 127, 3) := by decide +kernel
theorem dX7_neighbor_55 : decode cX7_neighbor 55 = .ok (.iconst 1, 1) := by decide +kernel
theorem dX7_neighbor_56 : decode cX7_neighbor 56 = .ok (.isub, 1) := by decide +kernel
theorem dX7_neighbor_57 : decode cX7_neighbor 57 = .ok (.invokestatic 75, 3) := by decide +kernel
theorem dX7_neighbor_60 : decode cX7_neighbor 60 = .ok (.ifCond .ne 7, 3) := by decide +kernel
theorem dX7_neighbor_63 : decode cX7_neighbor 63 = .ok (.iconst 1, 1) := by decide +kernel
theorem dX7_neighbor_64 : decode cX7_neighbor 64 = .ok (.goto 4, 3) := by decide +kernel
theorem dX7_neighbor_67 : decode cX7_neighbor 67 = .ok (.iconst 0, 1) := by decide +kernel
theorem dX7_neighbor_68 : decode cX7_neighbor 68 = .ok (.invokevirtual 120, 3) := by decide +kernel
theorem dX7_neighbor_71 : decode cX7_neighbor 71 = .ok (.ifCond .eq 7, 3) := by decide +kernel
theorem dX7_neighbor_74 : decode cX7_neighbor 74 = .ok (.iconst 0, 1) := by decide +kernel
theorem dX7_neighbor_75 : decode cX7_neighbor 75 = .ok (.goto 9, 3) := by decide +kernel
theorem dX7_neighbor_78 : decode cX7_neighbor 78 = .ok (.aload_n 0, 1) := by decide +kernel
theorem dX7_neighbor_79 : decode cX7_neighbor 79 = .ok (.iload 5, 2) := by decide +kernel
theorem dX7_neighbor_81 : decode cX7_neighbor 81 = .ok (.invokevirtual 203, 3) := by decide +kernel
theorem dX7_neighbor_84 : decode cX7_neighbor 84 = .ok (.ireturn, 1) := by decide +kernel
def rm_X7_neighbor : Room := { frames := 3, cells := 0, slots := 0, locals := 69 }
abbrev p_X7_neighbor (g : kG) (h : Nat) (zth : Int32) (zsg : Int32) (zl1 : Int64) (zl2 : Int64) (zl3 : Int64) (zl4 : Int64) (zpb : Int32) (zln : Int32) (zat : Int32) (zrk : Int32) (zrv : Int32) (zre : Int32) (zwr : Int32) (zrm : Int32) (zrs : Int32) (zis : Int32) (zss : Int32) (zsc : Int32) (ak : Nat) (av : Nat) (bk : Nat) (bv : Nat) (br : Nat) (a_s : Nat) (a_t : Nat) (g1 : Nat) (g2 : Nat) (g3 : Nat) (pa : Nat) (ru : Nat) (tx : Nat) (dk : Nat) (dv : Nat) (ek : Nat) (ev : Nat) (er : Nat) (es : Nat) (et : Nat) (nA : Nat) (fk : Nat → Int32) (fv : Nat → Int32) (nB : Nat) (ck : Nat → Int32) (cv : Nat → Int32) (cr : Nat → Int32) (M : List kE3) (C : List kE3) (x : Int32) (b : Int32) : Int32 → va_W → Prop := fun r w1 => r = (if (nbrK (gat M C) x b) = 0 then nbrV (gat M C) x b else 0) ∧ w1 = [(h, .inr (9, [.int (nbrK (gat M C) x b), .int (nI nA), .int (nI nB), .ref ak, .ref av, .ref bk, .ref bv, .ref br, .ref a_s, .ref a_t, .int zsg, .ref g1, .ref g2, .ref g3, .long zl1, .long zl2, .long zl3, .long zl4, .int zpb, .ref pa, .ref ru, .ref tx, .int zln, .int zat, .int zrk, .int zrv, .int zre, .int zwr, .int zrm, .int zrs, .int zis, .int zss, .int zsc, .ref dk, .ref dv, .ref ek, .ref ev, .ref er, .ref es, .ref et])), (ak, .inl (g.2.1.1, 152, .inl fk)), (av, .inl (g.2.1.1, 152, .inl fv)), (bk, .inl (g.2.1.1, 24, .inl ck)), (bv, .inl (g.2.1.1, 24, .inl cv)), (br, .inl (g.2.1.1, 24, .inl cr))]
set_option maxHeartbeats 4000000 in
set_option maxRecDepth 100000 in
theorem c_X7_neighbor (l : Launch) (g : kG) (h : Nat) (zth : Int32) (zsg : Int32) (zl1 : Int64) (zl2 : Int64) (zl3 : Int64) (zl4 : Int64) (zpb : Int32) (zln : Int32) (zat : Int32) (zrk : Int32) (zrv : Int32) (zre : Int32) (zwr : Int32) (zrm : Int32) (zrs : Int32) (zis : Int32) (zss : Int32) (zsc : Int32) (ak : Nat) (av : Nat) (bk : Nat) (bv : Nat) (br : Nat) (a_s : Nat) (a_t : Nat) (g1 : Nat) (g2 : Nat) (g3 : Nat) (pa : Nat) (ru : Nat) (tx : Nat) (dk : Nat) (dv : Nat) (ek : Nat) (ev : Nat) (er : Nat) (es : Nat) (et : Nat) (nA : Nat) (fk : Nat → Int32) (fv : Nat → Int32) (nB : Nat) (ck : Nat → Int32) (cv : Nat → Int32) (cr : Nat → Int32) (M : List kE3) (C : List kE3) (x : Int32) (b : Int32) (hMM : kMM nA fk fv nB ck cv cr M C) : KI l yX7_neighbor wsX7_neighbor rm_X7_neighbor g [.ref h, .int x, .int b] [(h, .inr (9, [.int zth, .int (nI nA), .int (nI nB), .ref ak, .ref av, .ref bk, .ref bv, .ref br, .ref a_s, .ref a_t, .int zsg, .ref g1, .ref g2, .ref g3, .long zl1, .long zl2, .long zl3, .long zl4, .int zpb, .ref pa, .ref ru, .ref tx, .int zln, .int zat, .int zrk, .int zrv, .int zre, .int zwr, .int zrm, .int zrs, .int zis, .int zss, .int zsc, .ref dk, .ref dv, .ref ek, .ref ev, .ref er, .ref es, .ref et])), (ak, .inl (g.2.1.1, 152, .inl fk)), (av, .inl (g.2.1.1, 152, .inl fv)), (bk, .inl (g.2.1.1, 24, .inl ck)), (bv, .inl (g.2.1.1, 24, .inl cv)), (br, .inl (g.2.1.1, 24, .inl cr))] (p_X7_neighbor g h zth zsg zl1 zl2 zl3 zl4 zpb zln zat zrk zrv zre zwr zrm zrs zis zss zsc ak av bk bv br a_s a_t g1 g2 g3 pa ru tx dk dv ek ev er es et nA fk fv nB ck cv cr M C x b) := by
  refine kbodyI (cc := cX7_neighbor) (n := 6) (k := 6) (own := RX7) (plainFor_of_name (by decide)) rfl rfl rfl rfl ?_
  intro p e s m below meth cd A ls hcx
  obtain ⟨hx, hb, hRt, hml, hts, hown, hlk, hA, hP, hK, hD, hE, hS, hl⟩ := hcx
  have hl : lv_has ls 6 [(0, .ref h), (1, .int x), (2, .int b)] := hl
  obtain ⟨⟨hM, hC⟩, ⟨hnM, hnC⟩, ⟨hIM, hIC⟩, hlen, hrem⟩ := id hMM
  have hsM : kSo (EL nA fk fv fz0) := by rw [hM]; exact hIM.1
  have hsC : kSo (EL nB ck cv cr) := by rw [hC]; exact hIC.1
  have hnl : nA = M.length := by rw [← hM, EL_len]
  have hcl : nB = C.length := by rw [← hC, EL_len]
  refine lv_aload_n hx hb dX7_neighbor_0 rfl (lv_at hl 0 rfl) ?_
  refine lv_iload_n hx hb dX7_neighbor_1 rfl (lv_at hl 1 rfl) ?_
  refine kcalli (wc := [(h, .inr (9, [.int zth, .int (nI nA), .int (nI nB), .ref ak, .ref av, .ref bk, .ref bv, .ref br, .ref a_s, .ref a_t, .int zsg, .ref g1, .ref g2, .ref g3, .long zl1, .long zl2, .long zl3, .long zl4, .int zpb, .ref pa, .ref ru, .ref tx, .int zln, .int zat, .int zrk, .int zrv, .int zre, .int zwr, .int zrm, .int zrs, .int zis, .int zss, .int zsc, .ref dk, .ref dv, .ref ek, .ref ev, .ref er, .ref es, .ref et])), (ak, .inl (g.2.1.1, 152, .inl fk)), (av, .inl (g.2.1.1, 152, .inl fv)), (bk, .inl (g.2.1.1, 24, .inl ck)), (bv, .inl (g.2.1.1, 24, .inl cv)), (br, .inl (g.2.1.1, 24, .inl cr))]) [0, 1, 2, 3, 4, 5] (va_runV (C := RX7) (As := [.int x]) (rest := []) ⟨hx, hb, hml, hown, hts⟩ ((c_X7_countLess l g h zth zsg zl1 zl2 zl3 zl4 zpb zln zat zrk zrv zre zwr zrm zrs zis zss zsc ak av bk bv br a_s a_t g1 g2 g3 pa ru tx dk dv ek ev er es et nA fk fv nB ck cv cr M C x hMM) _) (cwV 1 hts gX7_neighbor_X7_countLess rfl rfl rfl (by decide +kernel) ⟨Nat.le_of_ble_eq_true rfl, Nat.le_of_ble_eq_true rfl⟩) (kpreV (wc := [(h, .inr (9, [.int zth, .int (nI nA), .int (nI nB), .ref ak, .ref av, .ref bk, .ref bv, .ref br, .ref a_s, .ref a_t, .int zsg, .ref g1, .ref g2, .ref g3, .long zl1, .long zl2, .long zl3, .long zl4, .int zpb, .ref pa, .ref ru, .ref tx, .int zln, .int zat, .int zrk, .int zrv, .int zre, .int zwr, .int zrm, .int zrs, .int zis, .int zss, .int zsc, .ref dk, .ref dv, .ref ek, .ref ev, .ref er, .ref es, .ref et])), (ak, .inl (g.2.1.1, 152, .inl fk)), (av, .inl (g.2.1.1, 152, .inl fv)), (bk, .inl (g.2.1.1, 24, .inl ck)), (bv, .inl (g.2.1.1, 24, .inl cv)), (br, .inl (g.2.1.1, 24, .inl cr))]) (ci := 9) hK hP hD hS hA hE [0, 1, 2, 3, 4, 5] rfl rfl rfl rfl) rfl rfl hl.1 rfl (lv_room (Nat.le_of_ble_eq_true rfl)) dX7_neighbor_2 ⟨Nat.zero_le _, Nat.zero_le _⟩) hP hD hS hA rfl (fun r_1 w_1 H locs hp hP hD hS => ?_)
  obtain ⟨rfl, rfl⟩ := hp
  have hP : va_P g.1 vwCl [(h, .inr (9, [.int zth, .int (nI nA), .int (nI nB), .ref ak, .ref av, .ref bk, .ref bv, .ref br, .ref a_s, .ref a_t, .int zsg, .ref g1, .ref g2, .ref g3, .long zl1, .long zl2, .long zl3, .long zl4, .int zpb, .ref pa, .ref ru, .ref tx, .int zln, .int zat, .int zrk, .int zrv, .int zre, .int zwr, .int zrm, .int zrs, .int zis, .int zss, .int zsc, .ref dk, .ref dv, .ref ek, .ref ev, .ref er, .ref es, .ref et])), (ak, .inl (g.2.1.1, 152, .inl fk)), (av, .inl (g.2.1.1, 152, .inl fv)), (bk, .inl (g.2.1.1, 24, .inl ck)), (bv, .inl (g.2.1.1, 24, .inl cv)), (br, .inl (g.2.1.1, 24, .inl cr))] H := hP
  have hD : va_D A [(h, .inr (9, [.int zth, .int (nI nA), .int (nI nB), .ref ak, .ref av, .ref bk, .ref bv, .ref br, .ref a_s, .ref a_t, .int zsg, .ref g1, .ref g2, .ref g3, .long zl1, .long zl2, .long zl3, .long zl4, .int zpb, .ref pa, .ref ru, .ref tx, .int zln, .int zat, .int zrk, .int zrv, .int zre, .int zwr, .int zrm, .int zrs, .int zis, .int zss, .int zsc, .ref dk, .ref dv, .ref ek, .ref ev, .ref er, .ref es, .ref et])), (ak, .inl (g.2.1.1, 152, .inl fk)), (av, .inl (g.2.1.1, 152, .inl fv)), (bk, .inl (g.2.1.1, 24, .inl ck)), (bv, .inl (g.2.1.1, 24, .inl cv)), (br, .inl (g.2.1.1, 24, .inl cr))] := hD
  have hrl := rnk_le (gat M C) x
  refine lv_istore_n (lv' := [(3, .int (nI (rnkS (gat M C) x))), (0, .ref h), (1, .int x), (2, .int b)]) hx hb dX7_neighbor_5 rfl hl (by decide) rfl (fun ls hl => ?_)
  refine lv_iload_n hx hb dX7_neighbor_6 rfl (lv_at hl 2 rfl) ?_
  refine kcalli (wc := []) [] (va_runS (As := [.int x]) (rest := []) ⟨hx, hb, hml, hown, hts⟩ ((c_X7_isKey l g x) _) (va_cwS 1 hts gX7_neighbor_X7_isKey rfl rfl rfl (by decide +kernel) ⟨Nat.le_of_ble_eq_true rfl, Nat.le_of_ble_eq_true rfl⟩) (kpreS (wc := []) hK hP hD hS hA hE [] rfl rfl) rfl rfl hl.1 rfl (lv_room (Nat.le_of_ble_eq_true rfl)) dX7_neighbor_7 ⟨Nat.zero_le _, Nat.zero_le _⟩) hP hD hS hA rfl (fun r_2 w_2 H locs hp hP hD hS => ?_)
  obtain ⟨rfl, rfl⟩ := hp
  have hP : va_P g.1 vwCl [(h, .inr (9, [.int zth, .int (nI nA), .int (nI nB), .ref ak, .ref av, .ref bk, .ref bv, .ref br, .ref a_s, .ref a_t, .int zsg, .ref g1, .ref g2, .ref g3, .long zl1, .long zl2, .long zl3, .long zl4, .int zpb, .ref pa, .ref ru, .ref tx, .int zln, .int zat, .int zrk, .int zrv, .int zre, .int zwr, .int zrm, .int zrs, .int zis, .int zss, .int zsc, .ref dk, .ref dv, .ref ek, .ref ev, .ref er, .ref es, .ref et])), (ak, .inl (g.2.1.1, 152, .inl fk)), (av, .inl (g.2.1.1, 152, .inl fv)), (bk, .inl (g.2.1.1, 24, .inl ck)), (bv, .inl (g.2.1.1, 24, .inl cv)), (br, .inl (g.2.1.1, 24, .inl cr))] H := hP
  have hD : va_D A [(h, .inr (9, [.int zth, .int (nI nA), .int (nI nB), .ref ak, .ref av, .ref bk, .ref bv, .ref br, .ref a_s, .ref a_t, .int zsg, .ref g1, .ref g2, .ref g3, .long zl1, .long zl2, .long zl3, .long zl4, .int zpb, .ref pa, .ref ru, .ref tx, .int zln, .int zat, .int zrk, .int zrv, .int zre, .int zwr, .int zrm, .int zrs, .int zis, .int zss, .int zsc, .ref dk, .ref dv, .ref ek, .ref ev, .ref er, .ref es, .ref et])), (ak, .inl (g.2.1.1, 152, .inl fk)), (av, .inl (g.2.1.1, 152, .inl fv)), (bk, .inl (g.2.1.1, 24, .inl ck)), (bv, .inl (g.2.1.1, 24, .inl cv)), (br, .inl (g.2.1.1, 24, .inl cr))] := hD
  refine lv_if_eq (tgt := 25) hx hb dX7_neighbor_10 (by decide) (fun c_10 => ?_) (fun c_10 => ?_)
  · skip
    have hls : (lkp (gat M C) x).isSome = false := by rw [gat_lkp M C hIM.1 hIC.1, ← hasS_rsl]; exact Decidable.byContradiction (fun z => (of_decide_eq_false ((kbool_eq _).mp c_10)) (has_ky hIM hIC (by cases hc : hasS M C x with | true => rfl | false => exact absurd hc z)))
    refine lv_iconst (v := 0) hx hb dX7_neighbor_25 (by decide) ?_
    refine lv_istore (lv' := [(4, .int 0), (3, .int (nI (rnkS (gat M C) x))), (0, .ref h), (1, .int x), (2, .int b)]) hx hb dX7_neighbor_26 hl (by decide) rfl (fun ls hl => ?_)
    refine lv_iload_n hx hb dX7_neighbor_28 rfl (lv_at hl 4 rfl) ?_
    refine lv_if_ne (tgt := 37) hx hb dX7_neighbor_29 (by decide) (fun c_29 => ?_) (fun c_29 => ?_)
    · skip
      refine lv_iload_n hx hb dX7_neighbor_37 rfl (lv_at hl 1 rfl) ?_
      refine lv_goto (tgt := 44) hx hb dX7_neighbor_38 (by decide) ?_
      have hni : nbrI (gat M C) x b = (rnkS (gat M C) x : Int) := by rw [nbrI, if_pos (Or.inl c_29)]
      refine lv_topi (fun v44 e_v44 => ?_)
      rw [show (v44 : Int32) = kI (nbrI (gat M C) x b) from e_v44.trans (by rw [hni, kI_nI])]
      refine lv_istore (lv' := [(5, .int (kI (nbrI (gat M C) x b))), (4, .int 0), (3, .int (nI (rnkS (gat M C) x))), (0, .ref h), (1, .int x), (2, .int b)]) hx hb dX7_neighbor_44 hl (by decide) rfl (fun ls hl => ?_)
      refine lv_aload_n hx hb dX7_neighbor_46 rfl (lv_at hl 3 rfl) ?_
      refine lv_iconst (v := 1) hx hb dX7_neighbor_47 (by decide) ?_
      refine lv_iload hx hb dX7_neighbor_48 (lv_at hl 0 rfl) ?_
      refine lv_iconst (v := 0) hx hb dX7_neighbor_50 (by decide) ?_
      refine lv_aload_n hx hb dX7_neighbor_51 rfl (lv_at hl 3 rfl) ?_
      refine kcalli (wc := [(h, .inr (9, [.int zth, .int (nI nA), .int (nI nB), .ref ak, .ref av, .ref bk, .ref bv, .ref br, .ref a_s, .ref a_t, .int zsg, .ref g1, .ref g2, .ref g3, .long zl1, .long zl2, .long zl3, .long zl4, .int zpb, .ref pa, .ref ru, .ref tx, .int zln, .int zat, .int zrk, .int zrv, .int zre, .int zwr, .int zrm, .int zrs, .int zis, .int zss, .int zsc, .ref dk, .ref dv, .ref ek, .ref ev, .ref er, .ref es, .ref et])), (ak, .inl (g.2.1.1, 152, .inl fk)), (av, .inl (g.2.1.1, 152, .inl fv)), (bk, .inl (g.2.1.1, 24, .inl ck)), (bv, .inl (g.2.1.1, 24, .inl cv)), (br, .inl (g.2.1.1, 24, .inl cr))]) [0, 1, 2, 3, 4, 5] (va_runV (C := RX7) (As := []) (rest := [.int 0, .int (kI (nbrI (gat M C) x b)), .int 1, .ref h]) ⟨hx, hb, hml, hown, hts⟩ ((c_X7_countEntries l g h zth zsg zl1 zl2 zl3 zl4 zpb zln zat zrk zrv zre zwr zrm zrs zis zss zsc ak av bk bv br a_s a_t g1 g2 g3 pa ru tx dk dv ek ev er es et nA fk fv nB ck cv cr M C hMM) _) (cwV 0 hts gX7_neighbor_X7_countEntries rfl rfl rfl (by decide +kernel) ⟨Nat.le_of_ble_eq_true rfl, Nat.le_of_ble_eq_true rfl⟩) (kpreV (wc := [(h, .inr (9, [.int zth, .int (nI nA), .int (nI nB), .ref ak, .ref av, .ref bk, .ref bv, .ref br, .ref a_s, .ref a_t, .int zsg, .ref g1, .ref g2, .ref g3, .long zl1, .long zl2, .long zl3, .long zl4, .int zpb, .ref pa, .ref ru, .ref tx, .int zln, .int zat, .int zrk, .int zrv, .int zre, .int zwr, .int zrm, .int zrs, .int zis, .int zss, .int zsc, .ref dk, .ref dv, .ref ek, .ref ev, .ref er, .ref es, .ref et])), (ak, .inl (g.2.1.1, 152, .inl fk)), (av, .inl (g.2.1.1, 152, .inl fv)), (bk, .inl (g.2.1.1, 24, .inl ck)), (bv, .inl (g.2.1.1, 24, .inl cv)), (br, .inl (g.2.1.1, 24, .inl cr))]) (ci := 9) hK hP hD hS hA hE [0, 1, 2, 3, 4, 5] rfl rfl rfl rfl) rfl rfl hl.1 rfl (lv_room (Nat.le_of_ble_eq_true rfl)) dX7_neighbor_52 ⟨Nat.zero_le _, Nat.zero_le _⟩) hP hD hS hA rfl (fun r_3 w_3 H locs hp hP hD hS => ?_)
      obtain ⟨rfl, rfl⟩ := hp
      have hP : va_P g.1 vwCl [(h, .inr (9, [.int zth, .int (nI nA), .int (nI nB), .ref ak, .ref av, .ref bk, .ref bv, .ref br, .ref a_s, .ref a_t, .int zsg, .ref g1, .ref g2, .ref g3, .long zl1, .long zl2, .long zl3, .long zl4, .int zpb, .ref pa, .ref ru, .ref tx, .int zln, .int zat, .int zrk, .int zrv, .int zre, .int zwr, .int zrm, .int zrs, .int zis, .int zss, .int zsc, .ref dk, .ref dv, .ref ek, .ref ev, .ref er, .ref es, .ref et])), (ak, .inl (g.2.1.1, 152, .inl fk)), (av, .inl (g.2.1.1, 152, .inl fv)), (bk, .inl (g.2.1.1, 24, .inl ck)), (bv, .inl (g.2.1.1, 24, .inl cv)), (br, .inl (g.2.1.1, 24, .inl cr))] H := hP
      have hD : va_D A [(h, .inr (9, [.int zth, .int (nI nA), .int (nI nB), .ref ak, .ref av, .ref bk, .ref bv, .ref br, .ref a_s, .ref a_t, .int zsg, .ref g1, .ref g2, .ref g3, .long zl1, .long zl2, .long zl3, .long zl4, .int zpb, .ref pa, .ref ru, .ref tx, .int zln, .int zat, .int zrk, .int zrv, .int zre, .int zwr, .int zrm, .int zrs, .int zis, .int zss, .int zsc, .ref dk, .ref dv, .ref ek, .ref ev, .ref er, .ref es, .ref et])), (ak, .inl (g.2.1.1, 152, .inl fk)), (av, .inl (g.2.1.1, 152, .inl fv)), (bk, .inl (g.2.1.1, 24, .inl ck)), (bv, .inl (g.2.1.1, 24, .inl cv)), (br, .inl (g.2.1.1, 24, .inl cr))] := hD
      refine lv_iconst (v := 1) hx hb dX7_neighbor_55 (by decide) ?_
      refine lv_isub hx hb dX7_neighbor_56 ?_
      rw [show ((nI (gat M C).length) - 1 : Int32) = kH (gat M C).length from kH_sub _]
      refine kcalli (wc := []) [] (va_runS (As := [.int (kI (nbrI (gat M C) x b)), .int 0, .int (kH (gat M C).length)]) (rest := [.int 1, .ref h]) ⟨hx, hb, hml, hown, hts⟩ ((c_X7_isBetween l g (kI (nbrI (gat M C) x b)) 0 (kH (gat M C).length)) _) (va_cwS 3 hts gX7_neighbor_X7_isBetween rfl rfl rfl (by decide +kernel) ⟨Nat.le_of_ble_eq_true rfl, Nat.le_of_ble_eq_true rfl⟩) (kpreS (wc := []) hK hP hD hS hA hE [] rfl rfl) rfl rfl hl.1 rfl (lv_room (Nat.le_of_ble_eq_true rfl)) dX7_neighbor_57 ⟨Nat.zero_le _, Nat.zero_le _⟩) hP hD hS hA rfl (fun r_4 w_4 H locs hp hP hD hS => ?_)
      obtain ⟨rfl, rfl⟩ := hp
      have hP : va_P g.1 vwCl [(h, .inr (9, [.int zth, .int (nI nA), .int (nI nB), .ref ak, .ref av, .ref bk, .ref bv, .ref br, .ref a_s, .ref a_t, .int zsg, .ref g1, .ref g2, .ref g3, .long zl1, .long zl2, .long zl3, .long zl4, .int zpb, .ref pa, .ref ru, .ref tx, .int zln, .int zat, .int zrk, .int zrv, .int zre, .int zwr, .int zrm, .int zrs, .int zis, .int zss, .int zsc, .ref dk, .ref dv, .ref ek, .ref ev, .ref er, .ref es, .ref et])), (ak, .inl (g.2.1.1, 152, .inl fk)), (av, .inl (g.2.1.1, 152, .inl fv)), (bk, .inl (g.2.1.1, 24, .inl ck)), (bv, .inl (g.2.1.1, 24, .inl cv)), (br, .inl (g.2.1.1, 24, .inl cr))] H := hP
      have hD : va_D A [(h, .inr (9, [.int zth, .int (nI nA), .int (nI nB), .ref ak, .ref av, .ref bk, .ref bv, .ref br, .ref a_s, .ref a_t, .int zsg, .ref g1, .ref g2, .ref g3, .long zl1, .long zl2, .long zl3, .long zl4, .int zpb, .ref pa, .ref ru, .ref tx, .int zln, .int zat, .int zrk, .int zrv, .int zre, .int zwr, .int zrm, .int zrs, .int zis, .int zss, .int zsc, .ref dk, .ref dv, .ref ek, .ref ev, .ref er, .ref es, .ref et])), (ak, .inl (g.2.1.1, 152, .inl fk)), (av, .inl (g.2.1.1, 152, .inl fv)), (bk, .inl (g.2.1.1, 24, .inl ck)), (bv, .inl (g.2.1.1, 24, .inl cv)), (br, .inl (g.2.1.1, 24, .inl cr))] := hD
      have hti : (kI (nbrI (gat M C) x b)).toInt = nbrI (gat M C) x b := kI_toInt (by omega) (by omega)
      refine lv_if_ne (tgt := 67) hx hb dX7_neighbor_60 (by decide) (fun c_60 => ?_) (fun c_60 => ?_)
      · skip
        obtain ⟨hy1, hy2, hy3⟩ := isB_rng (by omega) c_60
        rw [hti] at hy1 hy2 hy3
        have hk9 : nbrK (gat M C) x b = 0 := by rw [nbrK, if_pos ⟨hy2, by omega⟩]
        refine lv_iconst (v := 0) hx hb dX7_neighbor_67 (by decide) ?_
        refine kcalli (wc := [(h, .inr (9, [.int zth, .int (nI nA), .int (nI nB), .ref ak, .ref av, .ref bk, .ref bv, .ref br, .ref a_s, .ref a_t, .int zsg, .ref g1, .ref g2, .ref g3, .long zl1, .long zl2, .long zl3, .long zl4, .int zpb, .ref pa, .ref ru, .ref tx, .int zln, .int zat, .int zrk, .int zrv, .int zre, .int zwr, .int zrm, .int zrs, .int zis, .int zss, .int zsc, .ref dk, .ref dv, .ref ek, .ref ev, .ref er, .ref es, .ref et]))]) [0] (va_runV (C := RX7) (As := [.int 1, .int 0]) (rest := []) ⟨hx, hb, hml, hown, hts⟩ ((c_X7_fails0 l g h zth (nI nA) (nI nB) zsg zl1 zl2 zl3 zl4 zpb zln zat zrk zrv zre zwr zrm zrs zis zss zsc ak av bk bv br a_s a_t g1 g2 g3 pa ru tx dk dv ek ev er es et 1) _) (cwV 2 hts gX7_neighbor_X7_fails rfl rfl rfl (by decide +kernel) ⟨Nat.le_of_ble_eq_true rfl, Nat.le_of_ble_eq_true rfl⟩) (kpreV (wc := [(h, .inr (9, [.int zth, .int (nI nA), .int (nI nB), .ref ak, .ref av, .ref bk, .ref bv, .ref br, .ref a_s, .ref a_t, .int zsg, .ref g1, .ref g2, .ref g3, .long zl1, .long zl2, .long zl3, .long zl4, .int zpb, .ref pa, .ref ru, .ref tx, .int zln, .int zat, .int zrk, .int zrv, .int zre, .int zwr, .int zrm, .int zrs, .int zis, .int zss, .int zsc, .ref dk, .ref dv, .ref ek, .ref ev, .ref er, .ref es, .ref et]))]) (ci := 9) hK hP hD hS hA hE [0] rfl rfl rfl rfl) rfl rfl hl.1 rfl (lv_room (Nat.le_of_ble_eq_true rfl)) dX7_neighbor_68 ⟨Nat.zero_le _, Nat.zero_le _⟩) hP hD hS hA rfl (fun r_5 w_5 H locs hp hP hD hS => ?_)
        obtain ⟨rfl, rfl⟩ := hp
        have hP : va_P g.1 vwCl [(h, .inr (9, [.int 0, .int (nI nA), .int (nI nB), .ref ak, .ref av, .ref bk, .ref bv, .ref br, .ref a_s, .ref a_t, .int zsg, .ref g1, .ref g2, .ref g3, .long zl1, .long zl2, .long zl3, .long zl4, .int zpb, .ref pa, .ref ru, .ref tx, .int zln, .int zat, .int zrk, .int zrv, .int zre, .int zwr, .int zrm, .int zrs, .int zis, .int zss, .int zsc, .ref dk, .ref dv, .ref ek, .ref ev, .ref er, .ref es, .ref et])), (ak, .inl (g.2.1.1, 152, .inl fk)), (av, .inl (g.2.1.1, 152, .inl fv)), (bk, .inl (g.2.1.1, 24, .inl ck)), (bv, .inl (g.2.1.1, 24, .inl cv)), (br, .inl (g.2.1.1, 24, .inl cr))] H := hP
        have hD : va_D A [(h, .inr (9, [.int 0, .int (nI nA), .int (nI nB), .ref ak, .ref av, .ref bk, .ref bv, .ref br, .ref a_s, .ref a_t, .int zsg, .ref g1, .ref g2, .ref g3, .long zl1, .long zl2, .long zl3, .long zl4, .int zpb, .ref pa, .ref ru, .ref tx, .int zln, .int zat, .int zrk, .int zrv, .int zre, .int zwr, .int zrm, .int zrs, .int zis, .int zss, .int zsc, .ref dk, .ref dv, .ref ek, .ref ev, .ref er, .ref es, .ref et])), (ak, .inl (g.2.1.1, 152, .inl fk)), (av, .inl (g.2.1.1, 152, .inl fv)), (bk, .inl (g.2.1.1, 24, .inl ck)), (bv, .inl (g.2.1.1, 24, .inl cv)), (br, .inl (g.2.1.1, 24, .inl cr))] := hD
        refine lv_if_eq (tgt := 78) hx hb dX7_neighbor_71 (by decide) (fun c_71 => ?_) (fun c_71 => absurd (by decide) c_71)
        refine lv_aload_n hx hb dX7_neighbor_78 rfl (lv_at hl 3 rfl) ?_
        refine lv_iload hx hb dX7_neighbor_79 (lv_at hl 0 rfl) ?_
        rw [show (kI (nbrI (gat M C) x b) : Int32) = nI (nbrI (gat M C) x b).toNat from hy1]
        refine kcalli (wc := [(h, .inr (9, [.int 0, .int (nI nA), .int (nI nB), .ref ak, .ref av, .ref bk, .ref bv, .ref br, .ref a_s, .ref a_t, .int zsg, .ref g1, .ref g2, .ref g3, .long zl1, .long zl2, .long zl3, .long zl4, .int zpb, .ref pa, .ref ru, .ref tx, .int zln, .int zat, .int zrk, .int zrv, .int zre, .int zwr, .int zrm, .int zrs, .int zis, .int zss, .int zsc, .ref dk, .ref dv, .ref ek, .ref ev, .ref er, .ref es, .ref et])), (ak, .inl (g.2.1.1, 152, .inl fk)), (av, .inl (g.2.1.1, 152, .inl fv)), (bk, .inl (g.2.1.1, 24, .inl ck)), (bv, .inl (g.2.1.1, 24, .inl cv)), (br, .inl (g.2.1.1, 24, .inl cr))]) [0, 1, 2, 3, 4, 5] (va_runV (C := RX7) (As := [.int (nI (nbrI (gat M C) x b).toNat)]) (rest := []) ⟨hx, hb, hml, hown, hts⟩ ((c_X7_keyOfRank l g h 0 zsg zl1 zl2 zl3 zl4 zpb zln zat zrk zrv zre zwr zrm zrs zis zss zsc ak av bk bv br a_s a_t g1 g2 g3 pa ru tx dk dv ek ev er es et nA fk fv nB ck cv cr M C ((nbrI (gat M C) x b).toNat) hMM hy3) _) (cwV 1 hts gX7_neighbor_X7_keyOfRank rfl rfl rfl (by decide +kernel) ⟨Nat.le_of_ble_eq_true rfl, Nat.le_of_ble_eq_true rfl⟩) (kpreV (wc := [(h, .inr (9, [.int 0, .int (nI nA), .int (nI nB), .ref ak, .ref av, .ref bk, .ref bv, .ref br, .ref a_s, .ref a_t, .int zsg, .ref g1, .ref g2, .ref g3, .long zl1, .long zl2, .long zl3, .long zl4, .int zpb, .ref pa, .ref ru, .ref tx, .int zln, .int zat, .int zrk, .int zrv, .int zre, .int zwr, .int zrm, .int zrs, .int zis, .int zss, .int zsc, .ref dk, .ref dv, .ref ek, .ref ev, .ref er, .ref es, .ref et])), (ak, .inl (g.2.1.1, 152, .inl fk)), (av, .inl (g.2.1.1, 152, .inl fv)), (bk, .inl (g.2.1.1, 24, .inl ck)), (bv, .inl (g.2.1.1, 24, .inl cv)), (br, .inl (g.2.1.1, 24, .inl cr))]) (ci := 9) hK hP hD hS hA hE [0, 1, 2, 3, 4, 5] rfl rfl rfl rfl) rfl rfl hl.1 rfl (lv_room (Nat.le_of_ble_eq_true rfl)) dX7_neighbor_81 ⟨Nat.zero_le _, Nat.zero_le _⟩) hP hD hS hA rfl (fun r_6 w_6 H locs hp hP hD hS => ?_)
        obtain ⟨rfl, rfl⟩ := hp
        have hP : va_P g.1 vwCl [(h, .inr (9, [.int 0, .int (nI nA), .int (nI nB), .ref ak, .ref av, .ref bk, .ref bv, .ref br, .ref a_s, .ref a_t, .int zsg, .ref g1, .ref g2, .ref g3, .long zl1, .long zl2, .long zl3, .long zl4, .int zpb, .ref pa, .ref ru, .ref tx, .int zln, .int zat, .int zrk, .int zrv, .int zre, .int zwr, .int zrm, .int zrs, .int zis, .int zss, .int zsc, .ref dk, .ref dv, .ref ek, .ref ev, .ref er, .ref es, .ref et])), (ak, .inl (g.2.1.1, 152, .inl fk)), (av, .inl (g.2.1.1, 152, .inl fv)), (bk, .inl (g.2.1.1, 24, .inl ck)), (bv, .inl (g.2.1.1, 24, .inl cv)), (br, .inl (g.2.1.1, 24, .inl cr))] H := hP
        have hD : va_D A [(h, .inr (9, [.int 0, .int (nI nA), .int (nI nB), .ref ak, .ref av, .ref bk, .ref bv, .ref br, .ref a_s, .ref a_t, .int zsg, .ref g1, .ref g2, .ref g3, .long zl1, .long zl2, .long zl3, .long zl4, .int zpb, .ref pa, .ref ru, .ref tx, .int zln, .int zat, .int zrk, .int zrv, .int zre, .int zwr, .int zrm, .int zrs, .int zis, .int zss, .int zsc, .ref dk, .ref dv, .ref ek, .ref ev, .ref er, .ref es, .ref et])), (ak, .inl (g.2.1.1, 152, .inl fk)), (av, .inl (g.2.1.1, 152, .inl fv)), (bk, .inl (g.2.1.1, 24, .inl ck)), (bv, .inl (g.2.1.1, 24, .inl cv)), (br, .inl (g.2.1.1, 24, .inl cr))] := hD
        exact kreti hx hb hRt hlk hK hP hD hS rfl dX7_neighbor_84 (⟨by rw [hk9, if_pos rfl, nbrV], by rw [hk9]⟩)
      · skip
        have hk9 : nbrK (gat M C) x b = 1 := by rw [nbrK, if_neg (fun z => isB_nrng (by omega) c_60 (by rw [inR, hti]; exact ⟨z.1, by omega⟩))]
        refine lv_iconst (v := 1) hx hb dX7_neighbor_63 (by decide) ?_
        refine lv_goto (tgt := 68) hx hb dX7_neighbor_64 (by decide) ?_
        refine kcalli (wc := [(h, .inr (9, [.int zth, .int (nI nA), .int (nI nB), .ref ak, .ref av, .ref bk, .ref bv, .ref br, .ref a_s, .ref a_t, .int zsg, .ref g1, .ref g2, .ref g3, .long zl1, .long zl2, .long zl3, .long zl4, .int zpb, .ref pa, .ref ru, .ref tx, .int zln, .int zat, .int zrk, .int zrv, .int zre, .int zwr, .int zrm, .int zrs, .int zis, .int zss, .int zsc, .ref dk, .ref dv, .ref ek, .ref ev, .ref er, .ref es, .ref et]))]) [0] (va_runV (C := RX7) (As := [.int 1, .int 1]) (rest := []) ⟨hx, hb, hml, hown, hts⟩ ((c_X7_fails1 l g h zth (nI nA) (nI nB) zsg zl1 zl2 zl3 zl4 zpb zln zat zrk zrv zre zwr zrm zrs zis zss zsc ak av bk bv br a_s a_t g1 g2 g3 pa ru tx dk dv ek ev er es et 1) _) (cwV 2 hts gX7_neighbor_X7_fails rfl rfl rfl (by decide +kernel) ⟨Nat.le_of_ble_eq_true rfl, Nat.le_of_ble_eq_true rfl⟩) (kpreV (wc := [(h, .inr (9, [.int zth, .int (nI nA), .int (nI nB), .ref ak, .ref av, .ref bk, .ref bv, .ref br, .ref a_s, .ref a_t, .int zsg, .ref g1, .ref g2, .ref g3, .long zl1, .long zl2, .long zl3, .long zl4, .int zpb, .ref pa, .ref ru, .ref tx, .int zln, .int zat, .int zrk, .int zrv, .int zre, .int zwr, .int zrm, .int zrs, .int zis, .int zss, .int zsc, .ref dk, .ref dv, .ref ek, .ref ev, .ref er, .ref es, .ref et]))]) (ci := 9) hK hP hD hS hA hE [0] rfl rfl rfl rfl) rfl rfl hl.1 rfl (lv_room (Nat.le_of_ble_eq_true rfl)) dX7_neighbor_68 ⟨Nat.zero_le _, Nat.zero_le _⟩) hP hD hS hA rfl (fun r_7 w_7 H locs hp hP hD hS => ?_)
        obtain ⟨rfl, rfl⟩ := hp
        have hP : va_P g.1 vwCl [(h, .inr (9, [.int 1, .int (nI nA), .int (nI nB), .ref ak, .ref av, .ref bk, .ref bv, .ref br, .ref a_s, .ref a_t, .int zsg, .ref g1, .ref g2, .ref g3, .long zl1, .long zl2, .long zl3, .long zl4, .int zpb, .ref pa, .ref ru, .ref tx, .int zln, .int zat, .int zrk, .int zrv, .int zre, .int zwr, .int zrm, .int zrs, .int zis, .int zss, .int zsc, .ref dk, .ref dv, .ref ek, .ref ev, .ref er, .ref es, .ref et])), (ak, .inl (g.2.1.1, 152, .inl fk)), (av, .inl (g.2.1.1, 152, .inl fv)), (bk, .inl (g.2.1.1, 24, .inl ck)), (bv, .inl (g.2.1.1, 24, .inl cv)), (br, .inl (g.2.1.1, 24, .inl cr))] H := hP
        have hD : va_D A [(h, .inr (9, [.int 1, .int (nI nA), .int (nI nB), .ref ak, .ref av, .ref bk, .ref bv, .ref br, .ref a_s, .ref a_t, .int zsg, .ref g1, .ref g2, .ref g3, .long zl1, .long zl2, .long zl3, .long zl4, .int zpb, .ref pa, .ref ru, .ref tx, .int zln, .int zat, .int zrk, .int zrv, .int zre, .int zwr, .int zrm, .int zrs, .int zis, .int zss, .int zsc, .ref dk, .ref dv, .ref ek, .ref ev, .ref er, .ref es, .ref et])), (ak, .inl (g.2.1.1, 152, .inl fk)), (av, .inl (g.2.1.1, 152, .inl fv)), (bk, .inl (g.2.1.1, 24, .inl ck)), (bv, .inl (g.2.1.1, 24, .inl cv)), (br, .inl (g.2.1.1, 24, .inl cr))] := hD
        refine lv_if_eq (tgt := 78) hx hb dX7_neighbor_71 (by decide) (fun c_71 => absurd c_71 (by decide)) (fun c_71 => ?_)
        refine lv_iconst (v := 0) hx hb dX7_neighbor_74 (by decide) ?_
        refine lv_goto (tgt := 84) hx hb dX7_neighbor_75 (by decide) ?_
        exact kreti hx hb hRt hlk hK hP hD hS rfl dX7_neighbor_84 (⟨by rw [hk9]; rfl, by rw [hk9]⟩)
    · skip
      refine lv_iload hx hb dX7_neighbor_32 (lv_at hl 0 rfl) ?_
      refine lv_if_eq (tgt := 41) hx hb dX7_neighbor_34 (by decide) (fun c_34 => ?_) (fun c_34 => absurd (by decide) c_34)
      refine lv_iload_n hx hb dX7_neighbor_41 rfl (lv_at hl 1 rfl) ?_
      refine lv_iconst (v := 1) hx hb dX7_neighbor_42 (by decide) ?_
      refine lv_isub hx hb dX7_neighbor_43 ?_
      have hni : nbrI (gat M C) x b = (rnkS (gat M C) x : Int) - 1 := by rw [nbrI, if_neg (fun z => z.elim (fun z => z c_29) (fun z => by rw [hls] at z; cases z))]
      refine lv_topi (fun v44 e_v44 => ?_)
      rw [show (v44 : Int32) = kI (nbrI (gat M C) x b) from e_v44.trans (by rw [hni, kI_nI, show (1 : Int32) = kI 1 from rfl, kI_sub])]
      refine lv_istore (lv' := [(5, .int (kI (nbrI (gat M C) x b))), (4, .int 0), (3, .int (nI (rnkS (gat M C) x))), (0, .ref h), (1, .int x), (2, .int b)]) hx hb dX7_neighbor_44 hl (by decide) rfl (fun ls hl => ?_)
      refine lv_aload_n hx hb dX7_neighbor_46 rfl (lv_at hl 3 rfl) ?_
      refine lv_iconst (v := 1) hx hb dX7_neighbor_47 (by decide) ?_
      refine lv_iload hx hb dX7_neighbor_48 (lv_at hl 0 rfl) ?_
      refine lv_iconst (v := 0) hx hb dX7_neighbor_50 (by decide) ?_
      refine lv_aload_n hx hb dX7_neighbor_51 rfl (lv_at hl 3 rfl) ?_
      refine kcalli (wc := [(h, .inr (9, [.int zth, .int (nI nA), .int (nI nB), .ref ak, .ref av, .ref bk, .ref bv, .ref br, .ref a_s, .ref a_t, .int zsg, .ref g1, .ref g2, .ref g3, .long zl1, .long zl2, .long zl3, .long zl4, .int zpb, .ref pa, .ref ru, .ref tx, .int zln, .int zat, .int zrk, .int zrv, .int zre, .int zwr, .int zrm, .int zrs, .int zis, .int zss, .int zsc, .ref dk, .ref dv, .ref ek, .ref ev, .ref er, .ref es, .ref et])), (ak, .inl (g.2.1.1, 152, .inl fk)), (av, .inl (g.2.1.1, 152, .inl fv)), (bk, .inl (g.2.1.1, 24, .inl ck)), (bv, .inl (g.2.1.1, 24, .inl cv)), (br, .inl (g.2.1.1, 24, .inl cr))]) [0, 1, 2, 3, 4, 5] (va_runV (C := RX7) (As := []) (rest := [.int 0, .int (kI (nbrI (gat M C) x b)), .int 1, .ref h]) ⟨hx, hb, hml, hown, hts⟩ ((c_X7_countEntries l g h zth zsg zl1 zl2 zl3 zl4 zpb zln zat zrk zrv zre zwr zrm zrs zis zss zsc ak av bk bv br a_s a_t g1 g2 g3 pa ru tx dk dv ek ev er es et nA fk fv nB ck cv cr M C hMM) _) (cwV 0 hts gX7_neighbor_X7_countEntries rfl rfl rfl (by decide +kernel) ⟨Nat.le_of_ble_eq_true rfl, Nat.le_of_ble_eq_true rfl⟩) (kpreV (wc := [(h, .inr (9, [.int zth, .int (nI nA), .int (nI nB), .ref ak, .ref av, .ref bk, .ref bv, .ref br, .ref a_s, .ref a_t, .int zsg, .ref g1, .ref g2, .ref g3, .long zl1, .long zl2, .long zl3, .long zl4, .int zpb, .ref pa, .ref ru, .ref tx, .int zln, .int zat, .int zrk, .int zrv, .int zre, .int zwr, .int zrm, .int zrs, .int zis, .int zss, .int zsc, .ref dk, .ref dv, .ref ek, .ref ev, .ref er, .ref es, .ref et])), (ak, .inl (g.2.1.1, 152, .inl fk)), (av, .inl (g.2.1.1, 152, .inl fv)), (bk, .inl (g.2.1.1, 24, .inl ck)), (bv, .inl (g.2.1.1, 24, .inl cv)), (br, .inl (g.2.1.1, 24, .inl cr))]) (ci := 9) hK hP hD hS hA hE [0, 1, 2, 3, 4, 5] rfl rfl rfl rfl) rfl rfl hl.1 rfl (lv_room (Nat.le_of_ble_eq_true rfl)) dX7_neighbor_52 ⟨Nat.zero_le _, Nat.zero_le _⟩) hP hD hS hA rfl (fun r_8 w_8 H locs hp hP hD hS => ?_)
      obtain ⟨rfl, rfl⟩ := hp
      have hP : va_P g.1 vwCl [(h, .inr (9, [.int zth, .int (nI nA), .int (nI nB), .ref ak, .ref av, .ref bk, .ref bv, .ref br, .ref a_s, .ref a_t, .int zsg, .ref g1, .ref g2, .ref g3, .long zl1, .long zl2, .long zl3, .long zl4, .int zpb, .ref pa, .ref ru, .ref tx, .int zln, .int zat, .int zrk, .int zrv, .int zre, .int zwr, .int zrm, .int zrs, .int zis, .int zss, .int zsc, .ref dk, .ref dv, .ref ek, .ref ev, .ref er, .ref es, .ref et])), (ak, .inl (g.2.1.1, 152, .inl fk)), (av, .inl (g.2.1.1, 152, .inl fv)), (bk, .inl (g.2.1.1, 24, .inl ck)), (bv, .inl (g.2.1.1, 24, .inl cv)), (br, .inl (g.2.1.1, 24, .inl cr))] H := hP
      have hD : va_D A [(h, .inr (9, [.int zth, .int (nI nA), .int (nI nB), .ref ak, .ref av, .ref bk, .ref bv, .ref br, .ref a_s, .ref a_t, .int zsg, .ref g1, .ref g2, .ref g3, .long zl1, .long zl2, .long zl3, .long zl4, .int zpb, .ref pa, .ref ru, .ref tx, .int zln, .int zat, .int zrk, .int zrv, .int zre, .int zwr, .int zrm, .int zrs, .int zis, .int zss, .int zsc, .ref dk, .ref dv, .ref ek, .ref ev, .ref er, .ref es, .ref et])), (ak, .inl (g.2.1.1, 152, .inl fk)), (av, .inl (g.2.1.1, 152, .inl fv)), (bk, .inl (g.2.1.1, 24, .inl ck)), (bv, .inl (g.2.1.1, 24, .inl cv)), (br, .inl (g.2.1.1, 24, .inl cr))] := hD
      refine lv_iconst (v := 1) hx hb dX7_neighbor_55 (by decide) ?_
      refine lv_isub hx hb dX7_neighbor_56 ?_
      rw [show ((nI (gat M C).length) - 1 : Int32) = kH (gat M C).length from kH_sub _]
      refine kcalli (wc := []) [] (va_runS (As := [.int (kI (nbrI (gat M C) x b)), .int 0, .int (kH (gat M C).length)]) (rest := [.int 1, .ref h]) ⟨hx, hb, hml, hown, hts⟩ ((c_X7_isBetween l g (kI (nbrI (gat M C) x b)) 0 (kH (gat M C).length)) _) (va_cwS 3 hts gX7_neighbor_X7_isBetween rfl rfl rfl (by decide +kernel) ⟨Nat.le_of_ble_eq_true rfl, Nat.le_of_ble_eq_true rfl⟩) (kpreS (wc := []) hK hP hD hS hA hE [] rfl rfl) rfl rfl hl.1 rfl (lv_room (Nat.le_of_ble_eq_true rfl)) dX7_neighbor_57 ⟨Nat.zero_le _, Nat.zero_le _⟩) hP hD hS hA rfl (fun r_9 w_9 H locs hp hP hD hS => ?_)
      obtain ⟨rfl, rfl⟩ := hp
      have hP : va_P g.1 vwCl [(h, .inr (9, [.int zth, .int (nI nA), .int (nI nB), .ref ak, .ref av, .ref bk, .ref bv, .ref br, .ref a_s, .ref a_t, .int zsg, .ref g1, .ref g2, .ref g3, .long zl1, .long zl2, .long zl3, .long zl4, .int zpb, .ref pa, .ref ru, .ref tx, .int zln, .int zat, .int zrk, .int zrv, .int zre, .int zwr, .int zrm, .int zrs, .int zis, .int zss, .int zsc, .ref dk, .ref dv, .ref ek, .ref ev, .ref er, .ref es, .ref et])), (ak, .inl (g.2.1.1, 152, .inl fk)), (av, .inl (g.2.1.1, 152, .inl fv)), (bk, .inl (g.2.1.1, 24, .inl ck)), (bv, .inl (g.2.1.1, 24, .inl cv)), (br, .inl (g.2.1.1, 24, .inl cr))] H := hP
      have hD : va_D A [(h, .inr (9, [.int zth, .int (nI nA), .int (nI nB), .ref ak, .ref av, .ref bk, .ref bv, .ref br, .ref a_s, .ref a_t, .int zsg, .ref g1, .ref g2, .ref g3, .long zl1, .long zl2, .long zl3, .long zl4, .int zpb, .ref pa, .ref ru, .ref tx, .int zln, .int zat, .int zrk, .int zrv, .int zre, .int zwr, .int zrm, .int zrs, .int zis, .int zss, .int zsc, .ref dk, .ref dv, .ref ek, .ref ev, .ref er, .ref es, .ref et])), (ak, .inl (g.2.1.1, 152, .inl fk)), (av, .inl (g.2.1.1, 152, .inl fv)), (bk, .inl (g.2.1.1, 24, .inl ck)), (bv, .inl (g.2.1.1, 24, .inl cv)), (br, .inl (g.2.1.1, 24, .inl cr))] := hD
      have hti : (kI (nbrI (gat M C) x b)).toInt = nbrI (gat M C) x b := kI_toInt (by omega) (by omega)
      refine lv_if_ne (tgt := 67) hx hb dX7_neighbor_60 (by decide) (fun c_60 => ?_) (fun c_60 => ?_)
      · skip
        obtain ⟨hy1, hy2, hy3⟩ := isB_rng (by omega) c_60
        rw [hti] at hy1 hy2 hy3
        have hk9 : nbrK (gat M C) x b = 0 := by rw [nbrK, if_pos ⟨hy2, by omega⟩]
        refine lv_iconst (v := 0) hx hb dX7_neighbor_67 (by decide) ?_
        refine kcalli (wc := [(h, .inr (9, [.int zth, .int (nI nA), .int (nI nB), .ref ak, .ref av, .ref bk, .ref bv, .ref br, .ref a_s, .ref a_t, .int zsg, .ref g1, .ref g2, .ref g3, .long zl1, .long zl2, .long zl3, .long zl4, .int zpb, .ref pa, .ref ru, .ref tx, .int zln, .int zat, .int zrk, .int zrv, .int zre, .int zwr, .int zrm, .int zrs, .int zis, .int zss, .int zsc, .ref dk, .ref dv, .ref ek, .ref ev, .ref er, .ref es, .ref et]))]) [0] (va_runV (C := RX7) (As := [.int 1, .int 0]) (rest := []) ⟨hx, hb, hml, hown, hts⟩ ((c_X7_fails0 l g h zth (nI nA) (nI nB) zsg zl1 zl2 zl3 zl4 zpb zln zat zrk zrv zre zwr zrm zrs zis zss zsc ak av bk bv br a_s a_t g1 g2 g3 pa ru tx dk dv ek ev er es et 1) _) (cwV 2 hts gX7_neighbor_X7_fails rfl rfl rfl (by decide +kernel) ⟨Nat.le_of_ble_eq_true rfl, Nat.le_of_ble_eq_true rfl⟩) (kpreV (wc := [(h, .inr (9, [.int zth, .int (nI nA), .int (nI nB), .ref ak, .ref av, .ref bk, .ref bv, .ref br, .ref a_s, .ref a_t, .int zsg, .ref g1, .ref g2, .ref g3, .long zl1, .long zl2, .long zl3, .long zl4, .int zpb, .ref pa, .ref ru, .ref tx, .int zln, .int zat, .int zrk, .int zrv, .int zre, .int zwr, .int zrm, .int zrs, .int zis, .int zss, .int zsc, .ref dk, .ref dv, .ref ek, .ref ev, .ref er, .ref es, .ref et]))]) (ci := 9) hK hP hD hS hA hE [0] rfl rfl rfl rfl) rfl rfl hl.1 rfl (lv_room (Nat.le_of_ble_eq_true rfl)) dX7_neighbor_68 ⟨Nat.zero_le _, Nat.zero_le _⟩) hP hD hS hA rfl (fun r_10 w_10 H locs hp hP hD hS => ?_)
        obtain ⟨rfl, rfl⟩ := hp
        have hP : va_P g.1 vwCl [(h, .inr (9, [.int 0, .int (nI nA), .int (nI nB), .ref ak, .ref av, .ref bk, .ref bv, .ref br, .ref a_s, .ref a_t, .int zsg, .ref g1, .ref g2, .ref g3, .long zl1, .long zl2, .long zl3, .long zl4, .int zpb, .ref pa, .ref ru, .ref tx, .int zln, .int zat, .int zrk, .int zrv, .int zre, .int zwr, .int zrm, .int zrs, .int zis, .int zss, .int zsc, .ref dk, .ref dv, .ref ek, .ref ev, .ref er, .ref es, .ref et])), (ak, .inl (g.2.1.1, 152, .inl fk)), (av, .inl (g.2.1.1, 152, .inl fv)), (bk, .inl (g.2.1.1, 24, .inl ck)), (bv, .inl (g.2.1.1, 24, .inl cv)), (br, .inl (g.2.1.1, 24, .inl cr))] H := hP
        have hD : va_D A [(h, .inr (9, [.int 0, .int (nI nA), .int (nI nB), .ref ak, .ref av, .ref bk, .ref bv, .ref br, .ref a_s, .ref a_t, .int zsg, .ref g1, .ref g2, .ref g3, .long zl1, .long zl2, .long zl3, .long zl4, .int zpb, .ref pa, .ref ru, .ref tx, .int zln, .int zat, .int zrk, .int zrv, .int zre, .int zwr, .int zrm, .int zrs, .int zis, .int zss, .int zsc, .ref dk, .ref dv, .ref ek, .ref ev, .ref er, .ref es, .ref et])), (ak, .inl (g.2.1.1, 152, .inl fk)), (av, .inl (g.2.1.1, 152, .inl fv)), (bk, .inl (g.2.1.1, 24, .inl ck)), (bv, .inl (g.2.1.1, 24, .inl cv)), (br, .inl (g.2.1.1, 24, .inl cr))] := hD
        refine lv_if_eq (tgt := 78) hx hb dX7_neighbor_71 (by decide) (fun c_71 => ?_) (fun c_71 => absurd (by decide) c_71)
        refine lv_aload_n hx hb dX7_neighbor_78 rfl (lv_at hl 3 rfl) ?_
        refine lv_iload hx hb dX7_neighbor_79 (lv_at hl 0 rfl) ?_
        rw [show (kI (nbrI (gat M C) x b) : Int32) = nI (nbrI (gat M C) x b).toNat from hy1]
        refine kcalli (wc := [(h, .inr (9, [.int 0, .int (nI nA), .int (nI nB), .ref ak, .ref av, .ref bk, .ref bv, .ref br, .ref a_s, .ref a_t, .int zsg, .ref g1, .ref g2, .ref g3, .long zl1, .long zl2, .long zl3, .long zl4, .int zpb, .ref pa, .ref ru, .ref tx, .int zln, .int zat, .int zrk, .int zrv, .int zre, .int zwr, .int zrm, .int zrs, .int zis, .int zss, .int zsc, .ref dk, .ref dv, .ref ek, .ref ev, .ref er, .ref es, .ref et])), (ak, .inl (g.2.1.1, 152, .inl fk)), (av, .inl (g.2.1.1, 152, .inl fv)), (bk, .inl (g.2.1.1, 24, .inl ck)), (bv, .inl (g.2.1.1, 24, .inl cv)), (br, .inl (g.2.1.1, 24, .inl cr))]) [0, 1, 2, 3, 4, 5] (va_runV (C := RX7) (As := [.int (nI (nbrI (gat M C) x b).toNat)]) (rest := []) ⟨hx, hb, hml, hown, hts⟩ ((c_X7_keyOfRank l g h 0 zsg zl1 zl2 zl3 zl4 zpb zln zat zrk zrv zre zwr zrm zrs zis zss zsc ak av bk bv br a_s a_t g1 g2 g3 pa ru tx dk dv ek ev er es et nA fk fv nB ck cv cr M C ((nbrI (gat M C) x b).toNat) hMM hy3) _) (cwV 1 hts gX7_neighbor_X7_keyOfRank rfl rfl rfl (by decide +kernel) ⟨Nat.le_of_ble_eq_true rfl, Nat.le_of_ble_eq_true rfl⟩) (kpreV (wc := [(h, .inr (9, [.int 0, .int (nI nA), .int (nI nB), .ref ak, .ref av, .ref bk, .ref bv, .ref br, .ref a_s, .ref a_t, .int zsg, .ref g1, .ref g2, .ref g3, .long zl1, .long zl2, .long zl3, .long zl4, .int zpb, .ref pa, .ref ru, .ref tx, .int zln, .int zat, .int zrk, .int zrv, .int zre, .int zwr, .int zrm, .int zrs, .int zis, .int zss, .int zsc, .ref dk, .ref dv, .ref ek, .ref ev, .ref er, .ref es, .ref et])), (ak, .inl (g.2.1.1, 152, .inl fk)), (av, .inl (g.2.1.1, 152, .inl fv)), (bk, .inl (g.2.1.1, 24, .inl ck)), (bv, .inl (g.2.1.1, 24, .inl cv)), (br, .inl (g.2.1.1, 24, .inl cr))]) (ci := 9) hK hP hD hS hA hE [0, 1, 2, 3, 4, 5] rfl rfl rfl rfl) rfl rfl hl.1 rfl (lv_room (Nat.le_of_ble_eq_true rfl)) dX7_neighbor_81 ⟨Nat.zero_le _, Nat.zero_le _⟩) hP hD hS hA rfl (fun r_11 w_11 H locs hp hP hD hS => ?_)
        obtain ⟨rfl, rfl⟩ := hp
        have hP : va_P g.1 vwCl [(h, .inr (9, [.int 0, .int (nI nA), .int (nI nB), .ref ak, .ref av, .ref bk, .ref bv, .ref br, .ref a_s, .ref a_t, .int zsg, .ref g1, .ref g2, .ref g3, .long zl1, .long zl2, .long zl3, .long zl4, .int zpb, .ref pa, .ref ru, .ref tx, .int zln, .int zat, .int zrk, .int zrv, .int zre, .int zwr, .int zrm, .int zrs, .int zis, .int zss, .int zsc, .ref dk, .ref dv, .ref ek, .ref ev, .ref er, .ref es, .ref et])), (ak, .inl (g.2.1.1, 152, .inl fk)), (av, .inl (g.2.1.1, 152, .inl fv)), (bk, .inl (g.2.1.1, 24, .inl ck)), (bv, .inl (g.2.1.1, 24, .inl cv)), (br, .inl (g.2.1.1, 24, .inl cr))] H := hP
        have hD : va_D A [(h, .inr (9, [.int 0, .int (nI nA), .int (nI nB), .ref ak, .ref av, .ref bk, .ref bv, .ref br, .ref a_s, .ref a_t, .int zsg, .ref g1, .ref g2, .ref g3, .long zl1, .long zl2, .long zl3, .long zl4, .int zpb, .ref pa, .ref ru, .ref tx, .int zln, .int zat, .int zrk, .int zrv, .int zre, .int zwr, .int zrm, .int zrs, .int zis, .int zss, .int zsc, .ref dk, .ref dv, .ref ek, .ref ev, .ref er, .ref es, .ref et])), (ak, .inl (g.2.1.1, 152, .inl fk)), (av, .inl (g.2.1.1, 152, .inl fv)), (bk, .inl (g.2.1.1, 24, .inl ck)), (bv, .inl (g.2.1.1, 24, .inl cv)), (br, .inl (g.2.1.1, 24, .inl cr))] := hD
        exact kreti hx hb hRt hlk hK hP hD hS rfl dX7_neighbor_84 (⟨by rw [hk9, if_pos rfl, nbrV], by rw [hk9]⟩)
      · skip
        have hk9 : nbrK (gat M C) x b = 1 := by rw [nbrK, if_neg (fun z => isB_nrng (by omega) c_60 (by rw [inR, hti]; exact ⟨z.1, by omega⟩))]
        refine lv_iconst (v := 1) hx hb dX7_neighbor_63 (by decide) ?_
        refine lv_goto (tgt := 68) hx hb dX7_neighbor_64 (by decide) ?_
        refine kcalli (wc := [(h, .inr (9, [.int zth, .int (nI nA), .int (nI nB), .ref ak, .ref av, .ref bk, .ref bv, .ref br, .ref a_s, .ref a_t, .int zsg, .ref g1, .ref g2, .ref g3, .long zl1, .long zl2, .long zl3, .long zl4, .int zpb, .ref pa, .ref ru, .ref tx, .int zln, .int zat, .int zrk, .int zrv, .int zre, .int zwr, .int zrm, .int zrs, .int zis, .int zss, .int zsc, .ref dk, .ref dv, .ref ek, .ref ev, .ref er, .ref es, .ref et]))]) [0] (va_runV (C := RX7) (As := [.int 1, .int 1]) (rest := []) ⟨hx, hb, hml, hown, hts⟩ ((c_X7_fails1 l g h zth (nI nA) (nI nB) zsg zl1 zl2 zl3 zl4 zpb zln zat zrk zrv zre zwr zrm zrs zis zss zsc ak av bk bv br a_s a_t g1 g2 g3 pa ru tx dk dv ek ev er es et 1) _) (cwV 2 hts gX7_neighbor_X7_fails rfl rfl rfl (by decide +kernel) ⟨Nat.le_of_ble_eq_true rfl, Nat.le_of_ble_eq_true rfl⟩) (kpreV (wc := [(h, .inr (9, [.int zth, .int (nI nA), .int (nI nB), .ref ak, .ref av, .ref bk, .ref bv, .ref br, .ref a_s, .ref a_t, .int zsg, .ref g1, .ref g2, .ref g3, .long zl1, .long zl2, .long zl3, .long zl4, .int zpb, .ref pa, .ref ru, .ref tx, .int zln, .int zat, .int zrk, .int zrv, .int zre, .int zwr, .int zrm, .int zrs, .int zis, .int zss, .int zsc, .ref dk, .ref dv, .ref ek, .ref ev, .ref er, .ref es, .ref et]))]) (ci := 9) hK hP hD hS hA hE [0] rfl rfl rfl rfl) rfl rfl hl.1 rfl (lv_room (Nat.le_of_ble_eq_true rfl)) dX7_neighbor_68 ⟨Nat.zero_le _, Nat.zero_le _⟩) hP hD hS hA rfl (fun r_12 w_12 H locs hp hP hD hS => ?_)
        obtain ⟨rfl, rfl⟩ := hp
        have hP : va_P g.1 vwCl [(h, .inr (9, [.int 1, .int (nI nA), .int (nI nB), .ref ak, .ref av, .ref bk, .ref bv, .ref br, .ref a_s, .ref a_t, .int zsg, .ref g1, .ref g2, .ref g3, .long zl1, .long zl2, .long zl3, .long zl4, .int zpb, .ref pa, .ref ru, .ref tx, .int zln, .int zat, .int zrk, .int zrv, .int zre, .int zwr, .int zrm, .int zrs, .int zis, .int zss, .int zsc, .ref dk, .ref dv, .ref ek, .ref ev, .ref er, .ref es, .ref et])), (ak, .inl (g.2.1.1, 152, .inl fk)), (av, .inl (g.2.1.1, 152, .inl fv)), (bk, .inl (g.2.1.1, 24, .inl ck)), (bv, .inl (g.2.1.1, 24, .inl cv)), (br, .inl (g.2.1.1, 24, .inl cr))] H := hP
        have hD : va_D A [(h, .inr (9, [.int 1, .int (nI nA), .int (nI nB), .ref ak, .ref av, .ref bk, .ref bv, .ref br, .ref a_s, .ref a_t, .int zsg, .ref g1, .ref g2, .ref g3, .long zl1, .long zl2, .long zl3, .long zl4, .int zpb, .ref pa, .ref ru, .ref tx, .int zln, .int zat, .int zrk, .int zrv, .int zre, .int zwr, .int zrm, .int zrs, .int zis, .int zss, .int zsc, .ref dk, .ref dv, .ref ek, .ref ev, .ref er, .ref es, .ref et])), (ak, .inl (g.2.1.1, 152, .inl fk)), (av, .inl (g.2.1.1, 152, .inl fv)), (bk, .inl (g.2.1.1, 24, .inl ck)), (bv, .inl (g.2.1.1, 24, .inl cv)), (br, .inl (g.2.1.1, 24, .inl cr))] := hD
        refine lv_if_eq (tgt := 78) hx hb dX7_neighbor_71 (by decide) (fun c_71 => absurd c_71 (by decide)) (fun c_71 => ?_)
        refine lv_iconst (v := 0) hx hb dX7_neighbor_74 (by decide) ?_
        refine lv_goto (tgt := 84) hx hb dX7_neighbor_75 (by decide) ?_
        exact kreti hx hb hRt hlk hK hP hD hS rfl dX7_neighbor_84 (⟨by rw [hk9]; rfl, by rw [hk9]⟩)
  · skip
    refine lv_aload_n hx hb dX7_neighbor_13 rfl (lv_at hl 1 rfl) ?_
    refine lv_iload_n hx hb dX7_neighbor_14 rfl (lv_at hl 2 rfl) ?_
    refine kcalli (wc := [(h, .inr (9, [.int zth, .int (nI nA), .int (nI nB), .ref ak, .ref av, .ref bk, .ref bv, .ref br, .ref a_s, .ref a_t, .int zsg, .ref g1, .ref g2, .ref g3, .long zl1, .long zl2, .long zl3, .long zl4, .int zpb, .ref pa, .ref ru, .ref tx, .int zln, .int zat, .int zrk, .int zrv, .int zre, .int zwr, .int zrm, .int zrs, .int zis, .int zss, .int zsc, .ref dk, .ref dv, .ref ek, .ref ev, .ref er, .ref es, .ref et])), (ak, .inl (g.2.1.1, 152, .inl fk)), (av, .inl (g.2.1.1, 152, .inl fv)), (bk, .inl (g.2.1.1, 24, .inl ck)), (bv, .inl (g.2.1.1, 24, .inl cv)), (br, .inl (g.2.1.1, 24, .inl cr))]) [0, 1, 2, 3, 4, 5] (va_runV (C := RX7) (As := [.int x]) (rest := []) ⟨hx, hb, hml, hown, hts⟩ ((c_X7_isThere l g h zth zsg zl1 zl2 zl3 zl4 zpb zln zat zrk zrv zre zwr zrm zrs zis zss zsc ak av bk bv br a_s a_t g1 g2 g3 pa ru tx dk dv ek ev er es et nA fk fv nB ck cv cr M C x hMM) _) (cwV 1 hts gX7_neighbor_X7_isThere rfl rfl rfl (by decide +kernel) ⟨Nat.le_of_ble_eq_true rfl, Nat.le_of_ble_eq_true rfl⟩) (kpreV (wc := [(h, .inr (9, [.int zth, .int (nI nA), .int (nI nB), .ref ak, .ref av, .ref bk, .ref bv, .ref br, .ref a_s, .ref a_t, .int zsg, .ref g1, .ref g2, .ref g3, .long zl1, .long zl2, .long zl3, .long zl4, .int zpb, .ref pa, .ref ru, .ref tx, .int zln, .int zat, .int zrk, .int zrv, .int zre, .int zwr, .int zrm, .int zrs, .int zis, .int zss, .int zsc, .ref dk, .ref dv, .ref ek, .ref ev, .ref er, .ref es, .ref et])), (ak, .inl (g.2.1.1, 152, .inl fk)), (av, .inl (g.2.1.1, 152, .inl fv)), (bk, .inl (g.2.1.1, 24, .inl ck)), (bv, .inl (g.2.1.1, 24, .inl cv)), (br, .inl (g.2.1.1, 24, .inl cr))]) (ci := 9) hK hP hD hS hA hE [0, 1, 2, 3, 4, 5] rfl rfl rfl rfl) rfl rfl hl.1 rfl (lv_room (Nat.le_of_ble_eq_true rfl)) dX7_neighbor_15 ⟨Nat.zero_le _, Nat.zero_le _⟩) hP hD hS hA rfl (fun r_13 w_13 H locs hp hP hD hS => ?_)
    obtain ⟨rfl, rfl⟩ := hp
    have hP : va_P g.1 vwCl [(h, .inr (9, [.int zth, .int (nI nA), .int (nI nB), .ref ak, .ref av, .ref bk, .ref bv, .ref br, .ref a_s, .ref a_t, .int zsg, .ref g1, .ref g2, .ref g3, .long zl1, .long zl2, .long zl3, .long zl4, .int zpb, .ref pa, .ref ru, .ref tx, .int zln, .int zat, .int zrk, .int zrv, .int zre, .int zwr, .int zrm, .int zrs, .int zis, .int zss, .int zsc, .ref dk, .ref dv, .ref ek, .ref ev, .ref er, .ref es, .ref et])), (ak, .inl (g.2.1.1, 152, .inl fk)), (av, .inl (g.2.1.1, 152, .inl fv)), (bk, .inl (g.2.1.1, 24, .inl ck)), (bv, .inl (g.2.1.1, 24, .inl cv)), (br, .inl (g.2.1.1, 24, .inl cr))] H := hP
    have hD : va_D A [(h, .inr (9, [.int zth, .int (nI nA), .int (nI nB), .ref ak, .ref av, .ref bk, .ref bv, .ref br, .ref a_s, .ref a_t, .int zsg, .ref g1, .ref g2, .ref g3, .long zl1, .long zl2, .long zl3, .long zl4, .int zpb, .ref pa, .ref ru, .ref tx, .int zln, .int zat, .int zrk, .int zrv, .int zre, .int zwr, .int zrm, .int zrs, .int zis, .int zss, .int zsc, .ref dk, .ref dv, .ref ek, .ref ev, .ref er, .ref es, .ref et])), (ak, .inl (g.2.1.1, 152, .inl fk)), (av, .inl (g.2.1.1, 152, .inl fv)), (bk, .inl (g.2.1.1, 24, .inl ck)), (bv, .inl (g.2.1.1, 24, .inl cv)), (br, .inl (g.2.1.1, 24, .inl cr))] := hD
    refine lv_if_eq (tgt := 25) hx hb dX7_neighbor_18 (by decide) (fun c_18 => ?_) (fun c_18 => ?_)
    · skip
      have hls : (lkp (gat M C) x).isSome = false := by rw [gat_lkp M C hIM.1 hIC.1, ← hasS_rsl]; exact (kbool_eq _).mp c_18
      refine lv_iconst (v := 0) hx hb dX7_neighbor_25 (by decide) ?_
      refine lv_istore (lv' := [(4, .int 0), (3, .int (nI (rnkS (gat M C) x))), (0, .ref h), (1, .int x), (2, .int b)]) hx hb dX7_neighbor_26 hl (by decide) rfl (fun ls hl => ?_)
      refine lv_iload_n hx hb dX7_neighbor_28 rfl (lv_at hl 4 rfl) ?_
      refine lv_if_ne (tgt := 37) hx hb dX7_neighbor_29 (by decide) (fun c_29 => ?_) (fun c_29 => ?_)
      · skip
        refine lv_iload_n hx hb dX7_neighbor_37 rfl (lv_at hl 1 rfl) ?_
        refine lv_goto (tgt := 44) hx hb dX7_neighbor_38 (by decide) ?_
        have hni : nbrI (gat M C) x b = (rnkS (gat M C) x : Int) := by rw [nbrI, if_pos (Or.inl c_29)]
        refine lv_topi (fun v44 e_v44 => ?_)
        rw [show (v44 : Int32) = kI (nbrI (gat M C) x b) from e_v44.trans (by rw [hni, kI_nI])]
        refine lv_istore (lv' := [(5, .int (kI (nbrI (gat M C) x b))), (4, .int 0), (3, .int (nI (rnkS (gat M C) x))), (0, .ref h), (1, .int x), (2, .int b)]) hx hb dX7_neighbor_44 hl (by decide) rfl (fun ls hl => ?_)
        refine lv_aload_n hx hb dX7_neighbor_46 rfl (lv_at hl 3 rfl) ?_
        refine lv_iconst (v := 1) hx hb dX7_neighbor_47 (by decide) ?_
        refine lv_iload hx hb dX7_neighbor_48 (lv_at hl 0 rfl) ?_
        refine lv_iconst (v := 0) hx hb dX7_neighbor_50 (by decide) ?_
        refine lv_aload_n hx hb dX7_neighbor_51 rfl (lv_at hl 3 rfl) ?_
        refine kcalli (wc := [(h, .inr (9, [.int zth, .int (nI nA), .int (nI nB), .ref ak, .ref av, .ref bk, .ref bv, .ref br, .ref a_s, .ref a_t, .int zsg, .ref g1, .ref g2, .ref g3, .long zl1, .long zl2, .long zl3, .long zl4, .int zpb, .ref pa, .ref ru, .ref tx, .int zln, .int zat, .int zrk, .int zrv, .int zre, .int zwr, .int zrm, .int zrs, .int zis, .int zss, .int zsc, .ref dk, .ref dv, .ref ek, .ref ev, .ref er, .ref es, .ref et])), (ak, .inl (g.2.1.1, 152, .inl fk)), (av, .inl (g.2.1.1, 152, .inl fv)), (bk, .inl (g.2.1.1, 24, .inl ck)), (bv, .inl (g.2.1.1, 24, .inl cv)), (br, .inl (g.2.1.1, 24, .inl cr))]) [0, 1, 2, 3, 4, 5] (va_runV (C := RX7) (As := []) (rest := [.int 0, .int (kI (nbrI (gat M C) x b)), .int 1, .ref h]) ⟨hx, hb, hml, hown, hts⟩ ((c_X7_countEntries l g h zth zsg zl1 zl2 zl3 zl4 zpb zln zat zrk zrv zre zwr zrm zrs zis zss zsc ak av bk bv br a_s a_t g1 g2 g3 pa ru tx dk dv ek ev er es et nA fk fv nB ck cv cr M C hMM) _) (cwV 0 hts gX7_neighbor_X7_countEntries rfl rfl rfl (by decide +kernel) ⟨Nat.le_of_ble_eq_true rfl, Nat.le_of_ble_eq_true rfl⟩) (kpreV (wc := [(h, .inr (9, [.int zth, .int (nI nA), .int (nI nB), .ref ak, .ref av, .ref bk, .ref bv, .ref br, .ref a_s, .ref a_t, .int zsg, .ref g1, .ref g2, .ref g3, .long zl1, .long zl2, .long zl3, .long zl4, .int zpb, .ref pa, .ref ru, .ref tx, .int zln, .int zat, .int zrk, .int zrv, .int zre, .int zwr, .int zrm, .int zrs, .int zis, .int zss, .int zsc, .ref dk, .ref dv, .ref ek, .ref ev, .ref er, .ref es, .ref et])), (ak, .inl (g.2.1.1, 152, .inl fk)), (av, .inl (g.2.1.1, 152, .inl fv)), (bk, .inl (g.2.1.1, 24, .inl ck)), (bv, .inl (g.2.1.1, 24, .inl cv)), (br, .inl (g.2.1.1, 24, .inl cr))]) (ci := 9) hK hP hD hS hA hE [0, 1, 2, 3, 4, 5] rfl rfl rfl rfl) rfl rfl hl.1 rfl (lv_room (Nat.le_of_ble_eq_true rfl)) dX7_neighbor_52 ⟨Nat.zero_le _, Nat.zero_le _⟩) hP hD hS hA rfl (fun r_14 w_14 H locs hp hP hD hS => ?_)
        obtain ⟨rfl, rfl⟩ := hp
        have hP : va_P g.1 vwCl [(h, .inr (9, [.int zth, .int (nI nA), .int (nI nB), .ref ak, .ref av, .ref bk, .ref bv, .ref br, .ref a_s, .ref a_t, .int zsg, .ref g1, .ref g2, .ref g3, .long zl1, .long zl2, .long zl3, .long zl4, .int zpb, .ref pa, .ref ru, .ref tx, .int zln, .int zat, .int zrk, .int zrv, .int zre, .int zwr, .int zrm, .int zrs, .int zis, .int zss, .int zsc, .ref dk, .ref dv, .ref ek, .ref ev, .ref er, .ref es, .ref et])), (ak, .inl (g.2.1.1, 152, .inl fk)), (av, .inl (g.2.1.1, 152, .inl fv)), (bk, .inl (g.2.1.1, 24, .inl ck)), (bv, .inl (g.2.1.1, 24, .inl cv)), (br, .inl (g.2.1.1, 24, .inl cr))] H := hP
        have hD : va_D A [(h, .inr (9, [.int zth, .int (nI nA), .int (nI nB), .ref ak, .ref av, .ref bk, .ref bv, .ref br, .ref a_s, .ref a_t, .int zsg, .ref g1, .ref g2, .ref g3, .long zl1, .long zl2, .long zl3, .long zl4, .int zpb, .ref pa, .ref ru, .ref tx, .int zln, .int zat, .int zrk, .int zrv, .int zre, .int zwr, .int zrm, .int zrs, .int zis, .int zss, .int zsc, .ref dk, .ref dv, .ref ek, .ref ev, .ref er, .ref es, .ref et])), (ak, .inl (g.2.1.1, 152, .inl fk)), (av, .inl (g.2.1.1, 152, .inl fv)), (bk, .inl (g.2.1.1, 24, .inl ck)), (bv, .inl (g.2.1.1, 24, .inl cv)), (br, .inl (g.2.1.1, 24, .inl cr))] := hD
        refine lv_iconst (v := 1) hx hb dX7_neighbor_55 (by decide) ?_
        refine lv_isub hx hb dX7_neighbor_56 ?_
        rw [show ((nI (gat M C).length) - 1 : Int32) = kH (gat M C).length from kH_sub _]
        refine kcalli (wc := []) [] (va_runS (As := [.int (kI (nbrI (gat M C) x b)), .int 0, .int (kH (gat M C).length)]) (rest := [.int 1, .ref h]) ⟨hx, hb, hml, hown, hts⟩ ((c_X7_isBetween l g (kI (nbrI (gat M C) x b)) 0 (kH (gat M C).length)) _) (va_cwS 3 hts gX7_neighbor_X7_isBetween rfl rfl rfl (by decide +kernel) ⟨Nat.le_of_ble_eq_true rfl, Nat.le_of_ble_eq_true rfl⟩) (kpreS (wc := []) hK hP hD hS hA hE [] rfl rfl) rfl rfl hl.1 rfl (lv_room (Nat.le_of_ble_eq_true rfl)) dX7_neighbor_57 ⟨Nat.zero_le _, Nat.zero_le _⟩) hP hD hS hA rfl (fun r_15 w_15 H locs hp hP hD hS => ?_)
        obtain ⟨rfl, rfl⟩ := hp
        have hP : va_P g.1 vwCl [(h, .inr (9, [.int zth, .int (nI nA), .int (nI nB), .ref ak, .ref av, .ref bk, .ref bv, .ref br, .ref a_s, .ref a_t, .int zsg, .ref g1, .ref g2, .ref g3, .long zl1, .long zl2, .long zl3, .long zl4, .int zpb, .ref pa, .ref ru, .ref tx, .int zln, .int zat, .int zrk, .int zrv, .int zre, .int zwr, .int zrm, .int zrs, .int zis, .int zss, .int zsc, .ref dk, .ref dv, .ref ek, .ref ev, .ref er, .ref es, .ref et])), (ak, .inl (g.2.1.1, 152, .inl fk)), (av, .inl (g.2.1.1, 152, .inl fv)), (bk, .inl (g.2.1.1, 24, .inl ck)), (bv, .inl (g.2.1.1, 24, .inl cv)), (br, .inl (g.2.1.1, 24, .inl cr))] H := hP
        have hD : va_D A [(h, .inr (9, [.int zth, .int (nI nA), .int (nI nB), .ref ak, .ref av, .ref bk, .ref bv, .ref br, .ref a_s, .ref a_t, .int zsg, .ref g1, .ref g2, .ref g3, .long zl1, .long zl2, .long zl3, .long zl4, .int zpb, .ref pa, .ref ru, .ref tx, .int zln, .int zat, .int zrk, .int zrv, .int zre, .int zwr, .int zrm, .int zrs, .int zis, .int zss, .int zsc, .ref dk, .ref dv, .ref ek, .ref ev, .ref er, .ref es, .ref et])), (ak, .inl (g.2.1.1, 152, .inl fk)), (av, .inl (g.2.1.1, 152, .inl fv)), (bk, .inl (g.2.1.1, 24, .inl ck)), (bv, .inl (g.2.1.1, 24, .inl cv)), (br, .inl (g.2.1.1, 24, .inl cr))] := hD
        have hti : (kI (nbrI (gat M C) x b)).toInt = nbrI (gat M C) x b := kI_toInt (by omega) (by omega)
        refine lv_if_ne (tgt := 67) hx hb dX7_neighbor_60 (by decide) (fun c_60 => ?_) (fun c_60 => ?_)
        · skip
          obtain ⟨hy1, hy2, hy3⟩ := isB_rng (by omega) c_60
          rw [hti] at hy1 hy2 hy3
          have hk9 : nbrK (gat M C) x b = 0 := by rw [nbrK, if_pos ⟨hy2, by omega⟩]
          refine lv_iconst (v := 0) hx hb dX7_neighbor_67 (by decide) ?_
          refine kcalli (wc := [(h, .inr (9, [.int zth, .int (nI nA), .int (nI nB), .ref ak, .ref av, .ref bk, .ref bv, .ref br, .ref a_s, .ref a_t, .int zsg, .ref g1, .ref g2, .ref g3, .long zl1, .long zl2, .long zl3, .long zl4, .int zpb, .ref pa, .ref ru, .ref tx, .int zln, .int zat, .int zrk, .int zrv, .int zre, .int zwr, .int zrm, .int zrs, .int zis, .int zss, .int zsc, .ref dk, .ref dv, .ref ek, .ref ev, .ref er, .ref es, .ref et]))]) [0] (va_runV (C := RX7) (As := [.int 1, .int 0]) (rest := []) ⟨hx, hb, hml, hown, hts⟩ ((c_X7_fails0 l g h zth (nI nA) (nI nB) zsg zl1 zl2 zl3 zl4 zpb zln zat zrk zrv zre zwr zrm zrs zis zss zsc ak av bk bv br a_s a_t g1 g2 g3 pa ru tx dk dv ek ev er es et 1) _) (cwV 2 hts gX7_neighbor_X7_fails rfl rfl rfl (by decide +kernel) ⟨Nat.le_of_ble_eq_true rfl, Nat.le_of_ble_eq_true rfl⟩) (kpreV (wc := [(h, .inr (9, [.int zth, .int (nI nA), .int (nI nB), .ref ak, .ref av, .ref bk, .ref bv, .ref br, .ref a_s, .ref a_t, .int zsg, .ref g1, .ref g2, .ref g3, .long zl1, .long zl2, .long zl3, .long zl4, .int zpb, .ref pa, .ref ru, .ref tx, .int zln, .int zat, .int zrk, .int zrv, .int zre, .int zwr, .int zrm, .int zrs, .int zis, .int zss, .int zsc, .ref dk, .ref dv, .ref ek, .ref ev, .ref er, .ref es, .ref et]))]) (ci := 9) hK hP hD hS hA hE [0] rfl rfl rfl rfl) rfl rfl hl.1 rfl (lv_room (Nat.le_of_ble_eq_true rfl)) dX7_neighbor_68 ⟨Nat.zero_le _, Nat.zero_le _⟩) hP hD hS hA rfl (fun r_16 w_16 H locs hp hP hD hS => ?_)
          obtain ⟨rfl, rfl⟩ := hp
          have hP : va_P g.1 vwCl [(h, .inr (9, [.int 0, .int (nI nA), .int (nI nB), .ref ak, .ref av, .ref bk, .ref bv, .ref br, .ref a_s, .ref a_t, .int zsg, .ref g1, .ref g2, .ref g3, .long zl1, .long zl2, .long zl3, .long zl4, .int zpb, .ref pa, .ref ru, .ref tx, .int zln, .int zat, .int zrk, .int zrv, .int zre, .int zwr, .int zrm, .int zrs, .int zis, .int zss, .int zsc, .ref dk, .ref dv, .ref ek, .ref ev, .ref er, .ref es, .ref et])), (ak, .inl (g.2.1.1, 152, .inl fk)), (av, .inl (g.2.1.1, 152, .inl fv)), (bk, .inl (g.2.1.1, 24, .inl ck)), (bv, .inl (g.2.1.1, 24, .inl cv)), (br, .inl (g.2.1.1, 24, .inl cr))] H := hP
          have hD : va_D A [(h, .inr (9, [.int 0, .int (nI nA), .int (nI nB), .ref ak, .ref av, .ref bk, .ref bv, .ref br, .ref a_s, .ref a_t, .int zsg, .ref g1, .ref g2, .ref g3, .long zl1, .long zl2, .long zl3, .long zl4, .int zpb, .ref pa, .ref ru, .ref tx, .int zln, .int zat, .int zrk, .int zrv, .int zre, .int zwr, .int zrm, .int zrs, .int zis, .int zss, .int zsc, .ref dk, .ref dv, .ref ek, .ref ev, .ref er, .ref es, .ref et])), (ak, .inl (g.2.1.1, 152, .inl fk)), (av, .inl (g.2.1.1, 152, .inl fv)), (bk, .inl (g.2.1.1, 24, .inl ck)), (bv, .inl (g.2.1.1, 24, .inl cv)), (br, .inl (g.2.1.1, 24, .inl cr))] := hD
          refine lv_if_eq (tgt := 78) hx hb dX7_neighbor_71 (by decide) (fun c_71 => ?_) (fun c_71 => absurd (by decide) c_71)
          refine lv_aload_n hx hb dX7_neighbor_78 rfl (lv_at hl 3 rfl) ?_
          refine lv_iload hx hb dX7_neighbor_79 (lv_at hl 0 rfl) ?_
          rw [show (kI (nbrI (gat M C) x b) : Int32) = nI (nbrI (gat M C) x b).toNat from hy1]
          refine kcalli (wc := [(h, .inr (9, [.int 0, .int (nI nA), .int (nI nB), .ref ak, .ref av, .ref bk, .ref bv, .ref br, .ref a_s, .ref a_t, .int zsg, .ref g1, .ref g2, .ref g3, .long zl1, .long zl2, .long zl3, .long zl4, .int zpb, .ref pa, .ref ru, .ref tx, .int zln, .int zat, .int zrk, .int zrv, .int zre, .int zwr, .int zrm, .int zrs, .int zis, .int zss, .int zsc, .ref dk, .ref dv, .ref ek, .ref ev, .ref er, .ref es, .ref et])), (ak, .inl (g.2.1.1, 152, .inl fk)), (av, .inl (g.2.1.1, 152, .inl fv)), (bk, .inl (g.2.1.1, 24, .inl ck)), (bv, .inl (g.2.1.1, 24, .inl cv)), (br, .inl (g.2.1.1, 24, .inl cr))]) [0, 1, 2, 3, 4, 5] (va_runV (C := RX7) (As := [.int (nI (nbrI (gat M C) x b).toNat)]) (rest := []) ⟨hx, hb, hml, hown, hts⟩ ((c_X7_keyOfRank l g h 0 zsg zl1 zl2 zl3 zl4 zpb zln zat zrk zrv zre zwr zrm zrs zis zss zsc ak av bk bv br a_s a_t g1 g2 g3 pa ru tx dk dv ek ev er es et nA fk fv nB ck cv cr M C ((nbrI (gat M C) x b).toNat) hMM hy3) _) (cwV 1 hts gX7_neighbor_X7_keyOfRank rfl rfl rfl (by decide +kernel) ⟨Nat.le_of_ble_eq_true rfl, Nat.le_of_ble_eq_true rfl⟩) (kpreV (wc := [(h, .inr (9, [.int 0, .int (nI nA), .int (nI nB), .ref ak, .ref av, .ref bk, .ref bv, .ref br, .ref a_s, .ref a_t, .int zsg, .ref g1, .ref g2, .ref g3, .long zl1, .long zl2, .long zl3, .long zl4, .int zpb, .ref pa, .ref ru, .ref tx, .int zln, .int zat, .int zrk, .int zrv, .int zre, .int zwr, .int zrm, .int zrs, .int zis, .int zss, .int zsc, .ref dk, .ref dv, .ref ek, .ref ev, .ref er, .ref es, .ref et])), (ak, .inl (g.2.1.1, 152, .inl fk)), (av, .inl (g.2.1.1, 152, .inl fv)), (bk, .inl (g.2.1.1, 24, .inl ck)), (bv, .inl (g.2.1.1, 24, .inl cv)), (br, .inl (g.2.1.1, 24, .inl cr))]) (ci := 9) hK hP hD hS hA hE [0, 1, 2, 3, 4, 5] rfl rfl rfl rfl) rfl rfl hl.1 rfl (lv_room (Nat.le_of_ble_eq_true rfl)) dX7_neighbor_81 ⟨Nat.zero_le _, Nat.zero_le _⟩) hP hD hS hA rfl (fun r_17 w_17 H locs hp hP hD hS => ?_)
          obtain ⟨rfl, rfl⟩ := hp
          have hP : va_P g.1 vwCl [(h, .inr (9, [.int 0, .int (nI nA), .int (nI nB), .ref ak, .ref av, .ref bk, .ref bv, .ref br, .ref a_s, .ref a_t, .int zsg, .ref g1, .ref g2, .ref g3, .long zl1, .long zl2, .long zl3, .long zl4, .int zpb, .ref pa, .ref ru, .ref tx, .int zln, .int zat, .int zrk, .int zrv, .int zre, .int zwr, .int zrm, .int zrs, .int zis, .int zss, .int zsc, .ref dk, .ref dv, .ref ek, .ref ev, .ref er, .ref es, .ref et])), (ak, .inl (g.2.1.1, 152, .inl fk)), (av, .inl (g.2.1.1, 152, .inl fv)), (bk, .inl (g.2.1.1, 24, .inl ck)), (bv, .inl (g.2.1.1, 24, .inl cv)), (br, .inl (g.2.1.1, 24, .inl cr))] H := hP
          have hD : va_D A [(h, .inr (9, [.int 0, .int (nI nA), .int (nI nB), .ref ak, .ref av, .ref bk, .ref bv, .ref br, .ref a_s, .ref a_t, .int zsg, .ref g1, .ref g2, .ref g3, .long zl1, .long zl2, .long zl3, .long zl4, .int zpb, .ref pa, .ref ru, .ref tx, .int zln, .int zat, .int zrk, .int zrv, .int zre, .int zwr, .int zrm, .int zrs, .int zis, .int zss, .int zsc, .ref dk, .ref dv, .ref ek, .ref ev, .ref er, .ref es, .ref et])), (ak, .inl (g.2.1.1, 152, .inl fk)), (av, .inl (g.2.1.1, 152, .inl fv)), (bk, .inl (g.2.1.1, 24, .inl ck)), (bv, .inl (g.2.1.1, 24, .inl cv)), (br, .inl (g.2.1.1, 24, .inl cr))] := hD
          exact kreti hx hb hRt hlk hK hP hD hS rfl dX7_neighbor_84 (⟨by rw [hk9, if_pos rfl, nbrV], by rw [hk9]⟩)
        · skip
          have hk9 : nbrK (gat M C) x b = 1 := by rw [nbrK, if_neg (fun z => isB_nrng (by omega) c_60 (by rw [inR, hti]; exact ⟨z.1, by omega⟩))]
          refine lv_iconst (v := 1) hx hb dX7_neighbor_63 (by decide) ?_
          refine lv_goto (tgt := 68) hx hb dX7_neighbor_64 (by decide) ?_
          refine kcalli (wc := [(h, .inr (9, [.int zth, .int (nI nA), .int (nI nB), .ref ak, .ref av, .ref bk, .ref bv, .ref br, .ref a_s, .ref a_t, .int zsg, .ref g1, .ref g2, .ref g3, .long zl1, .long zl2, .long zl3, .long zl4, .int zpb, .ref pa, .ref ru, .ref tx, .int zln, .int zat, .int zrk, .int zrv, .int zre, .int zwr, .int zrm, .int zrs, .int zis, .int zss, .int zsc, .ref dk, .ref dv, .ref ek, .ref ev, .ref er, .ref es, .ref et]))]) [0] (va_runV (C := RX7) (As := [.int 1, .int 1]) (rest := []) ⟨hx, hb, hml, hown, hts⟩ ((c_X7_fails1 l g h zth (nI nA) (nI nB) zsg zl1 zl2 zl3 zl4 zpb zln zat zrk zrv zre zwr zrm zrs zis zss zsc ak av bk bv br a_s a_t g1 g2 g3 pa ru tx dk dv ek ev er es et 1) _) (cwV 2 hts gX7_neighbor_X7_fails rfl rfl rfl (by decide +kernel) ⟨Nat.le_of_ble_eq_true rfl, Nat.le_of_ble_eq_true rfl⟩) (kpreV (wc := [(h, .inr (9, [.int zth, .int (nI nA), .int (nI nB), .ref ak, .ref av, .ref bk, .ref bv, .ref br, .ref a_s, .ref a_t, .int zsg, .ref g1, .ref g2, .ref g3, .long zl1, .long zl2, .long zl3, .long zl4, .int zpb, .ref pa, .ref ru, .ref tx, .int zln, .int zat, .int zrk, .int zrv, .int zre, .int zwr, .int zrm, .int zrs, .int zis, .int zss, .int zsc, .ref dk, .ref dv, .ref ek, .ref ev, .ref er, .ref es, .ref et]))]) (ci := 9) hK hP hD hS hA hE [0] rfl rfl rfl rfl) rfl rfl hl.1 rfl (lv_room (Nat.le_of_ble_eq_true rfl)) dX7_neighbor_68 ⟨Nat.zero_le _, Nat.zero_le _⟩) hP hD hS hA rfl (fun r_18 w_18 H locs hp hP hD hS => ?_)
          obtain ⟨rfl, rfl⟩ := hp
          have hP : va_P g.1 vwCl [(h, .inr (9, [.int 1, .int (nI nA), .int (nI nB), .ref ak, .ref av, .ref bk, .ref bv, .ref br, .ref a_s, .ref a_t, .int zsg, .ref g1, .ref g2, .ref g3, .long zl1, .long zl2, .long zl3, .long zl4, .int zpb, .ref pa, .ref ru, .ref tx, .int zln, .int zat, .int zrk, .int zrv, .int zre, .int zwr, .int zrm, .int zrs, .int zis, .int zss, .int zsc, .ref dk, .ref dv, .ref ek, .ref ev, .ref er, .ref es, .ref et])), (ak, .inl (g.2.1.1, 152, .inl fk)), (av, .inl (g.2.1.1, 152, .inl fv)), (bk, .inl (g.2.1.1, 24, .inl ck)), (bv, .inl (g.2.1.1, 24, .inl cv)), (br, .inl (g.2.1.1, 24, .inl cr))] H := hP
          have hD : va_D A [(h, .inr (9, [.int 1, .int (nI nA), .int (nI nB), .ref ak, .ref av, .ref bk, .ref bv, .ref br, .ref a_s, .ref a_t, .int zsg, .ref g1, .ref g2, .ref g3, .long zl1, .long zl2, .long zl3, .long zl4, .int zpb, .ref pa, .ref ru, .ref tx, .int zln, .int zat, .int zrk, .int zrv, .int zre, .int zwr, .int zrm, .int zrs, .int zis, .int zss, .int zsc, .ref dk, .ref dv, .ref ek, .ref ev, .ref er, .ref es, .ref et])), (ak, .inl (g.2.1.1, 152, .inl fk)), (av, .inl (g.2.1.1, 152, .inl fv)), (bk, .inl (g.2.1.1, 24, .inl ck)), (bv, .inl (g.2.1.1, 24, .inl cv)), (br, .inl (g.2.1.1, 24, .inl cr))] := hD
          refine lv_if_eq (tgt := 78) hx hb dX7_neighbor_71 (by decide) (fun c_71 => absurd c_71 (by decide)) (fun c_71 => ?_)
          refine lv_iconst (v := 0) hx hb dX7_neighbor_74 (by decide) ?_
          refine lv_goto (tgt := 84) hx hb dX7_neighbor_75 (by decide) ?_
          exact kreti hx hb hRt hlk hK hP hD hS rfl dX7_neighbor_84 (⟨by rw [hk9]; rfl, by rw [hk9]⟩)
      · skip
        refine lv_iload hx hb dX7_neighbor_32 (lv_at hl 0 rfl) ?_
        refine lv_if_eq (tgt := 41) hx hb dX7_neighbor_34 (by decide) (fun c_34 => ?_) (fun c_34 => absurd (by decide) c_34)
        refine lv_iload_n hx hb dX7_neighbor_41 rfl (lv_at hl 1 rfl) ?_
        refine lv_iconst (v := 1) hx hb dX7_neighbor_42 (by decide) ?_
        refine lv_isub hx hb dX7_neighbor_43 ?_
        have hni : nbrI (gat M C) x b = (rnkS (gat M C) x : Int) - 1 := by rw [nbrI, if_neg (fun z => z.elim (fun z => z c_29) (fun z => by rw [hls] at z; cases z))]
        refine lv_topi (fun v44 e_v44 => ?_)
        rw [show (v44 : Int32) = kI (nbrI (gat M C) x b) from e_v44.trans (by rw [hni, kI_nI, show (1 : Int32) = kI 1 from rfl, kI_sub])]
        refine lv_istore (lv' := [(5, .int (kI (nbrI (gat M C) x b))), (4, .int 0), (3, .int (nI (rnkS (gat M C) x))), (0, .ref h), (1, .int x), (2, .int b)]) hx hb dX7_neighbor_44 hl (by decide) rfl (fun ls hl => ?_)
        refine lv_aload_n hx hb dX7_neighbor_46 rfl (lv_at hl 3 rfl) ?_
        refine lv_iconst (v := 1) hx hb dX7_neighbor_47 (by decide) ?_
        refine lv_iload hx hb dX7_neighbor_48 (lv_at hl 0 rfl) ?_
        refine lv_iconst (v := 0) hx hb dX7_neighbor_50 (by decide) ?_
        refine lv_aload_n hx hb dX7_neighbor_51 rfl (lv_at hl 3 rfl) ?_
        refine kcalli (wc := [(h, .inr (9, [.int zth, .int (nI nA), .int (nI nB), .ref ak, .ref av, .ref bk, .ref bv, .ref br, .ref a_s, .ref a_t, .int zsg, .ref g1, .ref g2, .ref g3, .long zl1, .long zl2, .long zl3, .long zl4, .int zpb, .ref pa, .ref ru, .ref tx, .int zln, .int zat, .int zrk, .int zrv, .int zre, .int zwr, .int zrm, .int zrs, .int zis, .int zss, .int zsc, .ref dk, .ref dv, .ref ek, .ref ev, .ref er, .ref es, .ref et])), (ak, .inl (g.2.1.1, 152, .inl fk)), (av, .inl (g.2.1.1, 152, .inl fv)), (bk, .inl (g.2.1.1, 24, .inl ck)), (bv, .inl (g.2.1.1, 24, .inl cv)), (br, .inl (g.2.1.1, 24, .inl cr))]) [0, 1, 2, 3, 4, 5] (va_runV (C := RX7) (As := []) (rest := [.int 0, .int (kI (nbrI (gat M C) x b)), .int 1, .ref h]) ⟨hx, hb, hml, hown, hts⟩ ((c_X7_countEntries l g h zth zsg zl1 zl2 zl3 zl4 zpb zln zat zrk zrv zre zwr zrm zrs zis zss zsc ak av bk bv br a_s a_t g1 g2 g3 pa ru tx dk dv ek ev er es et nA fk fv nB ck cv cr M C hMM) _) (cwV 0 hts gX7_neighbor_X7_countEntries rfl rfl rfl (by decide +kernel) ⟨Nat.le_of_ble_eq_true rfl, Nat.le_of_ble_eq_true rfl⟩) (kpreV (wc := [(h, .inr (9, [.int zth, .int (nI nA), .int (nI nB), .ref ak, .ref av, .ref bk, .ref bv, .ref br, .ref a_s, .ref a_t, .int zsg, .ref g1, .ref g2, .ref g3, .long zl1, .long zl2, .long zl3, .long zl4, .int zpb, .ref pa, .ref ru, .ref tx, .int zln, .int zat, .int zrk, .int zrv, .int zre, .int zwr, .int zrm, .int zrs, .int zis, .int zss, .int zsc, .ref dk, .ref dv, .ref ek, .ref ev, .ref er, .ref es, .ref et])), (ak, .inl (g.2.1.1, 152, .inl fk)), (av, .inl (g.2.1.1, 152, .inl fv)), (bk, .inl (g.2.1.1, 24, .inl ck)), (bv, .inl (g.2.1.1, 24, .inl cv)), (br, .inl (g.2.1.1, 24, .inl cr))]) (ci := 9) hK hP hD hS hA hE [0, 1, 2, 3, 4, 5] rfl rfl rfl rfl) rfl rfl hl.1 rfl (lv_room (Nat.le_of_ble_eq_true rfl)) dX7_neighbor_52 ⟨Nat.zero_le _, Nat.zero_le _⟩) hP hD hS hA rfl (fun r_19 w_19 H locs hp hP hD hS => ?_)
        obtain ⟨rfl, rfl⟩ := hp
        have hP : va_P g.1 vwCl [(h, .inr (9, [.int zth, .int (nI nA), .int (nI nB), .ref ak, .ref av, .ref bk, .ref bv, .ref br, .ref a_s, .ref a_t, .int zsg, .ref g1, .ref g2, .ref g3, .long zl1, .long zl2, .long zl3, .long zl4, .int zpb, .ref pa, .ref ru, .ref tx, .int zln, .int zat, .int zrk, .int zrv, .int zre, .int zwr, .int zrm, .int zrs, .int zis, .int zss, .int zsc, .ref dk, .ref dv, .ref ek, .ref ev, .ref er, .ref es, .ref et])), (ak, .inl (g.2.1.1, 152, .inl fk)), (av, .inl (g.2.1.1, 152, .inl fv)), (bk, .inl (g.2.1.1, 24, .inl ck)), (bv, .inl (g.2.1.1, 24, .inl cv)), (br, .inl (g.2.1.1, 24, .inl cr))] H := hP
        have hD : va_D A [(h, .inr (9, [.int zth, .int (nI nA), .int (nI nB), .ref ak, .ref av, .ref bk, .ref bv, .ref br, .ref a_s, .ref a_t, .int zsg, .ref g1, .ref g2, .ref g3, .long zl1, .long zl2, .long zl3, .long zl4, .int zpb, .ref pa, .ref ru, .ref tx, .int zln, .int zat, .int zrk, .int zrv, .int zre, .int zwr, .int zrm, .int zrs, .int zis, .int zss, .int zsc, .ref dk, .ref dv, .ref ek, .ref ev, .ref er, .ref es, .ref et])), (ak, .inl (g.2.1.1, 152, .inl fk)), (av, .inl (g.2.1.1, 152, .inl fv)), (bk, .inl (g.2.1.1, 24, .inl ck)), (bv, .inl (g.2.1.1, 24, .inl cv)), (br, .inl (g.2.1.1, 24, .inl cr))] := hD
        refine lv_iconst (v := 1) hx hb dX7_neighbor_55 (by decide) ?_
        refine lv_isub hx hb dX7_neighbor_56 ?_
        rw [show ((nI (gat M C).length) - 1 : Int32) = kH (gat M C).length from kH_sub _]
        refine kcalli (wc := []) [] (va_runS (As := [.int (kI (nbrI (gat M C) x b)), .int 0, .int (kH (gat M C).length)]) (rest := [.int 1, .ref h]) ⟨hx, hb, hml, hown, hts⟩ ((c_X7_isBetween l g (kI (nbrI (gat M C) x b)) 0 (kH (gat M C).length)) _) (va_cwS 3 hts gX7_neighbor_X7_isBetween rfl rfl rfl (by decide +kernel) ⟨Nat.le_of_ble_eq_true rfl, Nat.le_of_ble_eq_true rfl⟩) (kpreS (wc := []) hK hP hD hS hA hE [] rfl rfl) rfl rfl hl.1 rfl (lv_room (Nat.le_of_ble_eq_true rfl)) dX7_neighbor_57 ⟨Nat.zero_le _, Nat.zero_le _⟩) hP hD hS hA rfl (fun r_20 w_20 H locs hp hP hD hS => ?_)
        obtain ⟨rfl, rfl⟩ := hp
        have hP : va_P g.1 vwCl [(h, .inr (9, [.int zth, .int (nI nA), .int (nI nB), .ref ak, .ref av, .ref bk, .ref bv, .ref br, .ref a_s, .ref a_t, .int zsg, .ref g1, .ref g2, .ref g3, .long zl1, .long zl2, .long zl3, .long zl4, .int zpb, .ref pa, .ref ru, .ref tx, .int zln, .int zat, .int zrk, .int zrv, .int zre, .int zwr, .int zrm, .int zrs, .int zis, .int zss, .int zsc, .ref dk, .ref dv, .ref ek, .ref ev, .ref er, .ref es, .ref et])), (ak, .inl (g.2.1.1, 152, .inl fk)), (av, .inl (g.2.1.1, 152, .inl fv)), (bk, .inl (g.2.1.1, 24, .inl ck)), (bv, .inl (g.2.1.1, 24, .inl cv)), (br, .inl (g.2.1.1, 24, .inl cr))] H := hP
        have hD : va_D A [(h, .inr (9, [.int zth, .int (nI nA), .int (nI nB), .ref ak, .ref av, .ref bk, .ref bv, .ref br, .ref a_s, .ref a_t, .int zsg, .ref g1, .ref g2, .ref g3, .long zl1, .long zl2, .long zl3, .long zl4, .int zpb, .ref pa, .ref ru, .ref tx, .int zln, .int zat, .int zrk, .int zrv, .int zre, .int zwr, .int zrm, .int zrs, .int zis, .int zss, .int zsc, .ref dk, .ref dv, .ref ek, .ref ev, .ref er, .ref es, .ref et])), (ak, .inl (g.2.1.1, 152, .inl fk)), (av, .inl (g.2.1.1, 152, .inl fv)), (bk, .inl (g.2.1.1, 24, .inl ck)), (bv, .inl (g.2.1.1, 24, .inl cv)), (br, .inl (g.2.1.1, 24, .inl cr))] := hD
        have hti : (kI (nbrI (gat M C) x b)).toInt = nbrI (gat M C) x b := kI_toInt (by omega) (by omega)
        refine lv_if_ne (tgt := 67) hx hb dX7_neighbor_60 (by decide) (fun c_60 => ?_) (fun c_60 => ?_)
        · skip
          obtain ⟨hy1, hy2, hy3⟩ := isB_rng (by omega) c_60
          rw [hti] at hy1 hy2 hy3
          have hk9 : nbrK (gat M C) x b = 0 := by rw [nbrK, if_pos ⟨hy2, by omega⟩]
          refine lv_iconst (v := 0) hx hb dX7_neighbor_67 (by decide) ?_
          refine kcalli (wc := [(h, .inr (9, [.int zth, .int (nI nA), .int (nI nB), .ref ak, .ref av, .ref bk, .ref bv, .ref br, .ref a_s, .ref a_t, .int zsg, .ref g1, .ref g2, .ref g3, .long zl1, .long zl2, .long zl3, .long zl4, .int zpb, .ref pa, .ref ru, .ref tx, .int zln, .int zat, .int zrk, .int zrv, .int zre, .int zwr, .int zrm, .int zrs, .int zis, .int zss, .int zsc, .ref dk, .ref dv, .ref ek, .ref ev, .ref er, .ref es, .ref et]))]) [0] (va_runV (C := RX7) (As := [.int 1, .int 0]) (rest := []) ⟨hx, hb, hml, hown, hts⟩ ((c_X7_fails0 l g h zth (nI nA) (nI nB) zsg zl1 zl2 zl3 zl4 zpb zln zat zrk zrv zre zwr zrm zrs zis zss zsc ak av bk bv br a_s a_t g1 g2 g3 pa ru tx dk dv ek ev er es et 1) _) (cwV 2 hts gX7_neighbor_X7_fails rfl rfl rfl (by decide +kernel) ⟨Nat.le_of_ble_eq_true rfl, Nat.le_of_ble_eq_true rfl⟩) (kpreV (wc := [(h, .inr (9, [.int zth, .int (nI nA), .int (nI nB), .ref ak, .ref av, .ref bk, .ref bv, .ref br, .ref a_s, .ref a_t, .int zsg, .ref g1, .ref g2, .ref g3, .long zl1, .long zl2, .long zl3, .long zl4, .int zpb, .ref pa, .ref ru, .ref tx, .int zln, .int zat, .int zrk, .int zrv, .int zre, .int zwr, .int zrm, .int zrs, .int zis, .int zss, .int zsc, .ref dk, .ref dv, .ref ek, .ref ev, .ref er, .ref es, .ref et]))]) (ci := 9) hK hP hD hS hA hE [0] rfl rfl rfl rfl) rfl rfl hl.1 rfl (lv_room (Nat.le_of_ble_eq_true rfl)) dX7_neighbor_68 ⟨Nat.zero_le _, Nat.zero_le _⟩) hP hD hS hA rfl (fun r_21 w_21 H locs hp hP hD hS => ?_)
          obtain ⟨rfl, rfl⟩ := hp
          have hP : va_P g.1 vwCl [(h, .inr (9, [.int 0, .int (nI nA), .int (nI nB), .ref ak, .ref av, .ref bk, .ref bv, .ref br, .ref a_s, .ref a_t, .int zsg, .ref g1, .ref g2, .ref g3, .long zl1, .long zl2, .long zl3, .long zl4, .int zpb, .ref pa, .ref ru, .ref tx, .int zln, .int zat, .int zrk, .int zrv, .int zre, .int zwr, .int zrm, .int zrs, .int zis, .int zss, .int zsc, .ref dk, .ref dv, .ref ek, .ref ev, .ref er, .ref es, .ref et])), (ak, .inl (g.2.1.1, 152, .inl fk)), (av, .inl (g.2.1.1, 152, .inl fv)), (bk, .inl (g.2.1.1, 24, .inl ck)), (bv, .inl (g.2.1.1, 24, .inl cv)), (br, .inl (g.2.1.1, 24, .inl cr))] H := hP
          have hD : va_D A [(h, .inr (9, [.int 0, .int (nI nA), .int (nI nB), .ref ak, .ref av, .ref bk, .ref bv, .ref br, .ref a_s, .ref a_t, .int zsg, .ref g1, .ref g2, .ref g3, .long zl1, .long zl2, .long zl3, .long zl4, .int zpb, .ref pa, .ref ru, .ref tx, .int zln, .int zat, .int zrk, .int zrv, .int zre, .int zwr, .int zrm, .int zrs, .int zis, .int zss, .int zsc, .ref dk, .ref dv, .ref ek, .ref ev, .ref er, .ref es, .ref et])), (ak, .inl (g.2.1.1, 152, .inl fk)), (av, .inl (g.2.1.1, 152, .inl fv)), (bk, .inl (g.2.1.1, 24, .inl ck)), (bv, .inl (g.2.1.1, 24, .inl cv)), (br, .inl (g.2.1.1, 24, .inl cr))] := hD
          refine lv_if_eq (tgt := 78) hx hb dX7_neighbor_71 (by decide) (fun c_71 => ?_) (fun c_71 => absurd (by decide) c_71)
          refine lv_aload_n hx hb dX7_neighbor_78 rfl (lv_at hl 3 rfl) ?_
          refine lv_iload hx hb dX7_neighbor_79 (lv_at hl 0 rfl) ?_
          rw [show (kI (nbrI (gat M C) x b) : Int32) = nI (nbrI (gat M C) x b).toNat from hy1]
          refine kcalli (wc := [(h, .inr (9, [.int 0, .int (nI nA), .int (nI nB), .ref ak, .ref av, .ref bk, .ref bv, .ref br, .ref a_s, .ref a_t, .int zsg, .ref g1, .ref g2, .ref g3, .long zl1, .long zl2, .long zl3, .long zl4, .int zpb, .ref pa, .ref ru, .ref tx, .int zln, .int zat, .int zrk, .int zrv, .int zre, .int zwr, .int zrm, .int zrs, .int zis, .int zss, .int zsc, .ref dk, .ref dv, .ref ek, .ref ev, .ref er, .ref es, .ref et])), (ak, .inl (g.2.1.1, 152, .inl fk)), (av, .inl (g.2.1.1, 152, .inl fv)), (bk, .inl (g.2.1.1, 24, .inl ck)), (bv, .inl (g.2.1.1, 24, .inl cv)), (br, .inl (g.2.1.1, 24, .inl cr))]) [0, 1, 2, 3, 4, 5] (va_runV (C := RX7) (As := [.int (nI (nbrI (gat M C) x b).toNat)]) (rest := []) ⟨hx, hb, hml, hown, hts⟩ ((c_X7_keyOfRank l g h 0 zsg zl1 zl2 zl3 zl4 zpb zln zat zrk zrv zre zwr zrm zrs zis zss zsc ak av bk bv br a_s a_t g1 g2 g3 pa ru tx dk dv ek ev er es et nA fk fv nB ck cv cr M C ((nbrI (gat M C) x b).toNat) hMM hy3) _) (cwV 1 hts gX7_neighbor_X7_keyOfRank rfl rfl rfl (by decide +kernel) ⟨Nat.le_of_ble_eq_true rfl, Nat.le_of_ble_eq_true rfl⟩) (kpreV (wc := [(h, .inr (9, [.int 0, .int (nI nA), .int (nI nB), .ref ak, .ref av, .ref bk, .ref bv, .ref br, .ref a_s, .ref a_t, .int zsg, .ref g1, .ref g2, .ref g3, .long zl1, .long zl2, .long zl3, .long zl4, .int zpb, .ref pa, .ref ru, .ref tx, .int zln, .int zat, .int zrk, .int zrv, .int zre, .int zwr, .int zrm, .int zrs, .int zis, .int zss, .int zsc, .ref dk, .ref dv, .ref ek, .ref ev, .ref er, .ref es, .ref et])), (ak, .inl (g.2.1.1, 152, .inl fk)), (av, .inl (g.2.1.1, 152, .inl fv)), (bk, .inl (g.2.1.1, 24, .inl ck)), (bv, .inl (g.2.1.1, 24, .inl cv)), (br, .inl (g.2.1.1, 24, .inl cr))]) (ci := 9) hK hP hD hS hA hE [0, 1, 2, 3, 4, 5] rfl rfl rfl rfl) rfl rfl hl.1 rfl (lv_room (Nat.le_of_ble_eq_true rfl)) dX7_neighbor_81 ⟨Nat.zero_le _, Nat.zero_le _⟩) hP hD hS hA rfl (fun r_22 w_22 H locs hp hP hD hS => ?_)
          obtain ⟨rfl, rfl⟩ := hp
          have hP : va_P g.1 vwCl [(h, .inr (9, [.int 0, .int (nI nA), .int (nI nB), .ref ak, .ref av, .ref bk, .ref bv, .ref br, .ref a_s, .ref a_t, .int zsg, .ref g1, .ref g2, .ref g3, .long zl1, .long zl2, .long zl3, .long zl4, .int zpb, .ref pa, .ref ru, .ref tx, .int zln, .int zat, .int zrk, .int zrv, .int zre, .int zwr, .int zrm, .int zrs, .int zis, .int zss, .int zsc, .ref dk, .ref dv, .ref ek, .ref ev, .ref er, .ref es, .ref et])), (ak, .inl (g.2.1.1, 152, .inl fk)), (av, .inl (g.2.1.1, 152, .inl fv)), (bk, .inl (g.2.1.1, 24, .inl ck)), (bv, .inl (g.2.1.1, 24, .inl cv)), (br, .inl (g.2.1.1, 24, .inl cr))] H := hP
          have hD : va_D A [(h, .inr (9, [.int 0, .int (nI nA), .int (nI nB), .ref ak, .ref av, .ref bk, .ref bv, .ref br, .ref a_s, .ref a_t, .int zsg, .ref g1, .ref g2, .ref g3, .long zl1, .long zl2, .long zl3, .long zl4, .int zpb, .ref pa, .ref ru, .ref tx, .int zln, .int zat, .int zrk, .int zrv, .int zre, .int zwr, .int zrm, .int zrs, .int zis, .int zss, .int zsc, .ref dk, .ref dv, .ref ek, .ref ev, .ref er, .ref es, .ref et])), (ak, .inl (g.2.1.1, 152, .inl fk)), (av, .inl (g.2.1.1, 152, .inl fv)), (bk, .inl (g.2.1.1, 24, .inl ck)), (bv, .inl (g.2.1.1, 24, .inl cv)), (br, .inl (g.2.1.1, 24, .inl cr))] := hD
          exact kreti hx hb hRt hlk hK hP hD hS rfl dX7_neighbor_84 (⟨by rw [hk9, if_pos rfl, nbrV], by rw [hk9]⟩)
        · skip
          have hk9 : nbrK (gat M C) x b = 1 := by rw [nbrK, if_neg (fun z => isB_nrng (by omega) c_60 (by rw [inR, hti]; exact ⟨z.1, by omega⟩))]
          refine lv_iconst (v := 1) hx hb dX7_neighbor_63 (by decide) ?_
          refine lv_goto (tgt := 68) hx hb dX7_neighbor_64 (by decide) ?_
          refine kcalli (wc := [(h, .inr (9, [.int zth, .int (nI nA), .int (nI nB), .ref ak, .ref av, .ref bk, .ref bv, .ref br, .ref a_s, .ref a_t, .int zsg, .ref g1, .ref g2, .ref g3, .long zl1, .long zl2, .long zl3, .long zl4, .int zpb, .ref pa, .ref ru, .ref tx, .int zln, .int zat, .int zrk, .int zrv, .int zre, .int zwr, .int zrm, .int zrs, .int zis, .int zss, .int zsc, .ref dk, .ref dv, .ref ek, .ref ev, .ref er, .ref es, .ref et]))]) [0] (va_runV (C := RX7) (As := [.int 1, .int 1]) (rest := []) ⟨hx, hb, hml, hown, hts⟩ ((c_X7_fails1 l g h zth (nI nA) (nI nB) zsg zl1 zl2 zl3 zl4 zpb zln zat zrk zrv zre zwr zrm zrs zis zss zsc ak av bk bv br a_s a_t g1 g2 g3 pa ru tx dk dv ek ev er es et 1) _) (cwV 2 hts gX7_neighbor_X7_fails rfl rfl rfl (by decide +kernel) ⟨Nat.le_of_ble_eq_true rfl, Nat.le_of_ble_eq_true rfl⟩) (kpreV (wc := [(h, .inr (9, [.int zth, .int (nI nA), .int (nI nB), .ref ak, .ref av, .ref bk, .ref bv, .ref br, .ref a_s, .ref a_t, .int zsg, .ref g1, .ref g2, .ref g3, .long zl1, .long zl2, .long zl3, .long zl4, .int zpb, .ref pa, .ref ru, .ref tx, .int zln, .int zat, .int zrk, .int zrv, .int zre, .int zwr, .int zrm, .int zrs, .int zis, .int zss, .int zsc, .ref dk, .ref dv, .ref ek, .ref ev, .ref er, .ref es, .ref et]))]) (ci := 9) hK hP hD hS hA hE [0] rfl rfl rfl rfl) rfl rfl hl.1 rfl (lv_room (Nat.le_of_ble_eq_true rfl)) dX7_neighbor_68 ⟨Nat.zero_le _, Nat.zero_le _⟩) hP hD hS hA rfl (fun r_23 w_23 H locs hp hP hD hS => ?_)
          obtain ⟨rfl, rfl⟩ := hp
          have hP : va_P g.1 vwCl [(h, .inr (9, [.int 1, .int (nI nA), .int (nI nB), .ref ak, .ref av, .ref bk, .ref bv, .ref br, .ref a_s, .ref a_t, .int zsg, .ref g1, .ref g2, .ref g3, .long zl1, .long zl2, .long zl3, .long zl4, .int zpb, .ref pa, .ref ru, .ref tx, .int zln, .int zat, .int zrk, .int zrv, .int zre, .int zwr, .int zrm, .int zrs, .int zis, .int zss, .int zsc, .ref dk, .ref dv, .ref ek, .ref ev, .ref er, .ref es, .ref et])), (ak, .inl (g.2.1.1, 152, .inl fk)), (av, .inl (g.2.1.1, 152, .inl fv)), (bk, .inl (g.2.1.1, 24, .inl ck)), (bv, .inl (g.2.1.1, 24, .inl cv)), (br, .inl (g.2.1.1, 24, .inl cr))] H := hP
          have hD : va_D A [(h, .inr (9, [.int 1, .int (nI nA), .int (nI nB), .ref ak, .ref av, .ref bk, .ref bv, .ref br, .ref a_s, .ref a_t, .int zsg, .ref g1, .ref g2, .ref g3, .long zl1, .long zl2, .long zl3, .long zl4, .int zpb, .ref pa, .ref ru, .ref tx, .int zln, .int zat, .int zrk, .int zrv, .int zre, .int zwr, .int zrm, .int zrs, .int zis, .int zss, .int zsc, .ref dk, .ref dv, .ref ek, .ref ev, .ref er, .ref es, .ref et])), (ak, .inl (g.2.1.1, 152, .inl fk)), (av, .inl (g.2.1.1, 152, .inl fv)), (bk, .inl (g.2.1.1, 24, .inl ck)), (bv, .inl (g.2.1.1, 24, .inl cv)), (br, .inl (g.2.1.1, 24, .inl cr))] := hD
          refine lv_if_eq (tgt := 78) hx hb dX7_neighbor_71 (by decide) (fun c_71 => absurd c_71 (by decide)) (fun c_71 => ?_)
          refine lv_iconst (v := 0) hx hb dX7_neighbor_74 (by decide) ?_
          refine lv_goto (tgt := 84) hx hb dX7_neighbor_75 (by decide) ?_
          exact kreti hx hb hRt hlk hK hP hD hS rfl dX7_neighbor_84 (⟨by rw [hk9]; rfl, by rw [hk9]⟩)
    · skip
      have hls : (lkp (gat M C) x).isSome = true := by rw [gat_lkp M C hIM.1 hIC.1, ← hasS_rsl]; exact (kbool_ne _).mp c_18
      refine lv_iconst (v := 1) hx hb dX7_neighbor_21 (by decide) ?_
      refine lv_goto (tgt := 26) hx hb dX7_neighbor_22 (by decide) ?_
      refine lv_istore (lv' := [(4, .int 1), (3, .int (nI (rnkS (gat M C) x))), (0, .ref h), (1, .int x), (2, .int b)]) hx hb dX7_neighbor_26 hl (by decide) rfl (fun ls hl => ?_)
      refine lv_iload_n hx hb dX7_neighbor_28 rfl (lv_at hl 4 rfl) ?_
      refine lv_if_ne (tgt := 37) hx hb dX7_neighbor_29 (by decide) (fun c_29 => ?_) (fun c_29 => ?_)
      · skip
        refine lv_iload_n hx hb dX7_neighbor_37 rfl (lv_at hl 1 rfl) ?_
        refine lv_goto (tgt := 44) hx hb dX7_neighbor_38 (by decide) ?_
        have hni : nbrI (gat M C) x b = (rnkS (gat M C) x : Int) := by rw [nbrI, if_pos (Or.inl c_29)]
        refine lv_topi (fun v44 e_v44 => ?_)
        rw [show (v44 : Int32) = kI (nbrI (gat M C) x b) from e_v44.trans (by rw [hni, kI_nI])]
        refine lv_istore (lv' := [(5, .int (kI (nbrI (gat M C) x b))), (4, .int 1), (3, .int (nI (rnkS (gat M C) x))), (0, .ref h), (1, .int x), (2, .int b)]) hx hb dX7_neighbor_44 hl (by decide) rfl (fun ls hl => ?_)
        refine lv_aload_n hx hb dX7_neighbor_46 rfl (lv_at hl 3 rfl) ?_
        refine lv_iconst (v := 1) hx hb dX7_neighbor_47 (by decide) ?_
        refine lv_iload hx hb dX7_neighbor_48 (lv_at hl 0 rfl) ?_
        refine lv_iconst (v := 0) hx hb dX7_neighbor_50 (by decide) ?_
        refine lv_aload_n hx hb dX7_neighbor_51 rfl (lv_at hl 3 rfl) ?_
        refine kcalli (wc := [(h, .inr (9, [.int zth, .int (nI nA), .int (nI nB), .ref ak, .ref av, .ref bk, .ref bv, .ref br, .ref a_s, .ref a_t, .int zsg, .ref g1, .ref g2, .ref g3, .long zl1, .long zl2, .long zl3, .long zl4, .int zpb, .ref pa, .ref ru, .ref tx, .int zln, .int zat, .int zrk, .int zrv, .int zre, .int zwr, .int zrm, .int zrs, .int zis, .int zss, .int zsc, .ref dk, .ref dv, .ref ek, .ref ev, .ref er, .ref es, .ref et])), (ak, .inl (g.2.1.1, 152, .inl fk)), (av, .inl (g.2.1.1, 152, .inl fv)), (bk, .inl (g.2.1.1, 24, .inl ck)), (bv, .inl (g.2.1.1, 24, .inl cv)), (br, .inl (g.2.1.1, 24, .inl cr))]) [0, 1, 2, 3, 4, 5] (va_runV (C := RX7) (As := []) (rest := [.int 0, .int (kI (nbrI (gat M C) x b)), .int 1, .ref h]) ⟨hx, hb, hml, hown, hts⟩ ((c_X7_countEntries l g h zth zsg zl1 zl2 zl3 zl4 zpb zln zat zrk zrv zre zwr zrm zrs zis zss zsc ak av bk bv br a_s a_t g1 g2 g3 pa ru tx dk dv ek ev er es et nA fk fv nB ck cv cr M C hMM) _) (cwV 0 hts gX7_neighbor_X7_countEntries rfl rfl rfl (by decide +kernel) ⟨Nat.le_of_ble_eq_true rfl, Nat.le_of_ble_eq_true rfl⟩) (kpreV (wc := [(h, .inr (9, [.int zth, .int (nI nA), .int (nI nB), .ref ak, .ref av, .ref bk, .ref bv, .ref br, .ref a_s, .ref a_t, .int zsg, .ref g1, .ref g2, .ref g3, .long zl1, .long zl2, .long zl3, .long zl4, .int zpb, .ref pa, .ref ru, .ref tx, .int zln, .int zat, .int zrk, .int zrv, .int zre, .int zwr, .int zrm, .int zrs, .int zis, .int zss, .int zsc, .ref dk, .ref dv, .ref ek, .ref ev, .ref er, .ref es, .ref et])), (ak, .inl (g.2.1.1, 152, .inl fk)), (av, .inl (g.2.1.1, 152, .inl fv)), (bk, .inl (g.2.1.1, 24, .inl ck)), (bv, .inl (g.2.1.1, 24, .inl cv)), (br, .inl (g.2.1.1, 24, .inl cr))]) (ci := 9) hK hP hD hS hA hE [0, 1, 2, 3, 4, 5] rfl rfl rfl rfl) rfl rfl hl.1 rfl (lv_room (Nat.le_of_ble_eq_true rfl)) dX7_neighbor_52 ⟨Nat.zero_le _, Nat.zero_le _⟩) hP hD hS hA rfl (fun r_24 w_24 H locs hp hP hD hS => ?_)
        obtain ⟨rfl, rfl⟩ := hp
        have hP : va_P g.1 vwCl [(h, .inr (9, [.int zth, .int (nI nA), .int (nI nB), .ref ak, .ref av, .ref bk, .ref bv, .ref br, .ref a_s, .ref a_t, .int zsg, .ref g1, .ref g2, .ref g3, .long zl1, .long zl2, .long zl3, .long zl4, .int zpb, .ref pa, .ref ru, .ref tx, .int zln, .int zat, .int zrk, .int zrv, .int zre, .int zwr, .int zrm, .int zrs, .int zis, .int zss, .int zsc, .ref dk, .ref dv, .ref ek, .ref ev, .ref er, .ref es, .ref et])), (ak, .inl (g.2.1.1, 152, .inl fk)), (av, .inl (g.2.1.1, 152, .inl fv)), (bk, .inl (g.2.1.1, 24, .inl ck)), (bv, .inl (g.2.1.1, 24, .inl cv)), (br, .inl (g.2.1.1, 24, .inl cr))] H := hP
        have hD : va_D A [(h, .inr (9, [.int zth, .int (nI nA), .int (nI nB), .ref ak, .ref av, .ref bk, .ref bv, .ref br, .ref a_s, .ref a_t, .int zsg, .ref g1, .ref g2, .ref g3, .long zl1, .long zl2, .long zl3, .long zl4, .int zpb, .ref pa, .ref ru, .ref tx, .int zln, .int zat, .int zrk, .int zrv, .int zre, .int zwr, .int zrm, .int zrs, .int zis, .int zss, .int zsc, .ref dk, .ref dv, .ref ek, .ref ev, .ref er, .ref es, .ref et])), (ak, .inl (g.2.1.1, 152, .inl fk)), (av, .inl (g.2.1.1, 152, .inl fv)), (bk, .inl (g.2.1.1, 24, .inl ck)), (bv, .inl (g.2.1.1, 24, .inl cv)), (br, .inl (g.2.1.1, 24, .inl cr))] := hD
        refine lv_iconst (v := 1) hx hb dX7_neighbor_55 (by decide) ?_
        refine lv_isub hx hb dX7_neighbor_56 ?_
        rw [show ((nI (gat M C).length) - 1 : Int32) = kH (gat M C).length from kH_sub _]
        refine kcalli (wc := []) [] (va_runS (As := [.int (kI (nbrI (gat M C) x b)), .int 0, .int (kH (gat M C).length)]) (rest := [.int 1, .ref h]) ⟨hx, hb, hml, hown, hts⟩ ((c_X7_isBetween l g (kI (nbrI (gat M C) x b)) 0 (kH (gat M C).length)) _) (va_cwS 3 hts gX7_neighbor_X7_isBetween rfl rfl rfl (by decide +kernel) ⟨Nat.le_of_ble_eq_true rfl, Nat.le_of_ble_eq_true rfl⟩) (kpreS (wc := []) hK hP hD hS hA hE [] rfl rfl) rfl rfl hl.1 rfl (lv_room (Nat.le_of_ble_eq_true rfl)) dX7_neighbor_57 ⟨Nat.zero_le _, Nat.zero_le _⟩) hP hD hS hA rfl (fun r_25 w_25 H locs hp hP hD hS => ?_)
        obtain ⟨rfl, rfl⟩ := hp
        have hP : va_P g.1 vwCl [(h, .inr (9, [.int zth, .int (nI nA), .int (nI nB), .ref ak, .ref av, .ref bk, .ref bv, .ref br, .ref a_s, .ref a_t, .int zsg, .ref g1, .ref g2, .ref g3, .long zl1, .long zl2, .long zl3, .long zl4, .int zpb, .ref pa, .ref ru, .ref tx, .int zln, .int zat, .int zrk, .int zrv, .int zre, .int zwr, .int zrm, .int zrs, .int zis, .int zss, .int zsc, .ref dk, .ref dv, .ref ek, .ref ev, .ref er, .ref es, .ref et])), (ak, .inl (g.2.1.1, 152, .inl fk)), (av, .inl (g.2.1.1, 152, .inl fv)), (bk, .inl (g.2.1.1, 24, .inl ck)), (bv, .inl (g.2.1.1, 24, .inl cv)), (br, .inl (g.2.1.1, 24, .inl cr))] H := hP
        have hD : va_D A [(h, .inr (9, [.int zth, .int (nI nA), .int (nI nB), .ref ak, .ref av, .ref bk, .ref bv, .ref br, .ref a_s, .ref a_t, .int zsg, .ref g1, .ref g2, .ref g3, .long zl1, .long zl2, .long zl3, .long zl4, .int zpb, .ref pa, .ref ru, .ref tx, .int zln, .int zat, .int zrk, .int zrv, .int zre, .int zwr, .int zrm, .int zrs, .int zis, .int zss, .int zsc, .ref dk, .ref dv, .ref ek, .ref ev, .ref er, .ref es, .ref et])), (ak, .inl (g.2.1.1, 152, .inl fk)), (av, .inl (g.2.1.1, 152, .inl fv)), (bk, .inl (g.2.1.1, 24, .inl ck)), (bv, .inl (g.2.1.1, 24, .inl cv)), (br, .inl (g.2.1.1, 24, .inl cr))] := hD
        have hti : (kI (nbrI (gat M C) x b)).toInt = nbrI (gat M C) x b := kI_toInt (by omega) (by omega)
        refine lv_if_ne (tgt := 67) hx hb dX7_neighbor_60 (by decide) (fun c_60 => ?_) (fun c_60 => ?_)
        · skip
          obtain ⟨hy1, hy2, hy3⟩ := isB_rng (by omega) c_60
          rw [hti] at hy1 hy2 hy3
          have hk9 : nbrK (gat M C) x b = 0 := by rw [nbrK, if_pos ⟨hy2, by omega⟩]
          refine lv_iconst (v := 0) hx hb dX7_neighbor_67 (by decide) ?_
          refine kcalli (wc := [(h, .inr (9, [.int zth, .int (nI nA), .int (nI nB), .ref ak, .ref av, .ref bk, .ref bv, .ref br, .ref a_s, .ref a_t, .int zsg, .ref g1, .ref g2, .ref g3, .long zl1, .long zl2, .long zl3, .long zl4, .int zpb, .ref pa, .ref ru, .ref tx, .int zln, .int zat, .int zrk, .int zrv, .int zre, .int zwr, .int zrm, .int zrs, .int zis, .int zss, .int zsc, .ref dk, .ref dv, .ref ek, .ref ev, .ref er, .ref es, .ref et]))]) [0] (va_runV (C := RX7) (As := [.int 1, .int 0]) (rest := []) ⟨hx, hb, hml, hown, hts⟩ ((c_X7_fails0 l g h zth (nI nA) (nI nB) zsg zl1 zl2 zl3 zl4 zpb zln zat zrk zrv zre zwr zrm zrs zis zss zsc ak av bk bv br a_s a_t g1 g2 g3 pa ru tx dk dv ek ev er es et 1) _) (cwV 2 hts gX7_neighbor_X7_fails rfl rfl rfl (by decide +kernel) ⟨Nat.le_of_ble_eq_true rfl, Nat.le_of_ble_eq_true rfl⟩) (kpreV (wc := [(h, .inr (9, [.int zth, .int (nI nA), .int (nI nB), .ref ak, .ref av, .ref bk, .ref bv, .ref br, .ref a_s, .ref a_t, .int zsg, .ref g1, .ref g2, .ref g3, .long zl1, .long zl2, .long zl3, .long zl4, .int zpb, .ref pa, .ref ru, .ref tx, .int zln, .int zat, .int zrk, .int zrv, .int zre, .int zwr, .int zrm, .int zrs, .int zis, .int zss, .int zsc, .ref dk, .ref dv, .ref ek, .ref ev, .ref er, .ref es, .ref et]))]) (ci := 9) hK hP hD hS hA hE [0] rfl rfl rfl rfl) rfl rfl hl.1 rfl (lv_room (Nat.le_of_ble_eq_true rfl)) dX7_neighbor_68 ⟨Nat.zero_le _, Nat.zero_le _⟩) hP hD hS hA rfl (fun r_26 w_26 H locs hp hP hD hS => ?_)
          obtain ⟨rfl, rfl⟩ := hp
          have hP : va_P g.1 vwCl [(h, .inr (9, [.int 0, .int (nI nA), .int (nI nB), .ref ak, .ref av, .ref bk, .ref bv, .ref br, .ref a_s, .ref a_t, .int zsg, .ref g1, .ref g2, .ref g3, .long zl1, .long zl2, .long zl3, .long zl4, .int zpb, .ref pa, .ref ru, .ref tx, .int zln, .int zat, .int zrk, .int zrv, .int zre, .int zwr, .int zrm, .int zrs, .int zis, .int zss, .int zsc, .ref dk, .ref dv, .ref ek, .ref ev, .ref er, .ref es, .ref et])), (ak, .inl (g.2.1.1, 152, .inl fk)), (av, .inl (g.2.1.1, 152, .inl fv)), (bk, .inl (g.2.1.1, 24, .inl ck)), (bv, .inl (g.2.1.1, 24, .inl cv)), (br, .inl (g.2.1.1, 24, .inl cr))] H := hP
          have hD : va_D A [(h, .inr (9, [.int 0, .int (nI nA), .int (nI nB), .ref ak, .ref av, .ref bk, .ref bv, .ref br, .ref a_s, .ref a_t, .int zsg, .ref g1, .ref g2, .ref g3, .long zl1, .long zl2, .long zl3, .long zl4, .int zpb, .ref pa, .ref ru, .ref tx, .int zln, .int zat, .int zrk, .int zrv, .int zre, .int zwr, .int zrm, .int zrs, .int zis, .int zss, .int zsc, .ref dk, .ref dv, .ref ek, .ref ev, .ref er, .ref es, .ref et])), (ak, .inl (g.2.1.1, 152, .inl fk)), (av, .inl (g.2.1.1, 152, .inl fv)), (bk, .inl (g.2.1.1, 24, .inl ck)), (bv, .inl (g.2.1.1, 24, .inl cv)), (br, .inl (g.2.1.1, 24, .inl cr))] := hD
          refine lv_if_eq (tgt := 78) hx hb dX7_neighbor_71 (by decide) (fun c_71 => ?_) (fun c_71 => absurd (by decide) c_71)
          refine lv_aload_n hx hb dX7_neighbor_78 rfl (lv_at hl 3 rfl) ?_
          refine lv_iload hx hb dX7_neighbor_79 (lv_at hl 0 rfl) ?_
          rw [show (kI (nbrI (gat M C) x b) : Int32) = nI (nbrI (gat M C) x b).toNat from hy1]
          refine kcalli (wc := [(h, .inr (9, [.int 0, .int (nI nA), .int (nI nB), .ref ak, .ref av, .ref bk, .ref bv, .ref br, .ref a_s, .ref a_t, .int zsg, .ref g1, .ref g2, .ref g3, .long zl1, .long zl2, .long zl3, .long zl4, .int zpb, .ref pa, .ref ru, .ref tx, .int zln, .int zat, .int zrk, .int zrv, .int zre, .int zwr, .int zrm, .int zrs, .int zis, .int zss, .int zsc, .ref dk, .ref dv, .ref ek, .ref ev, .ref er, .ref es, .ref et])), (ak, .inl (g.2.1.1, 152, .inl fk)), (av, .inl (g.2.1.1, 152, .inl fv)), (bk, .inl (g.2.1.1, 24, .inl ck)), (bv, .inl (g.2.1.1, 24, .inl cv)), (br, .inl (g.2.1.1, 24, .inl cr))]) [0, 1, 2, 3, 4, 5] (va_runV (C := RX7) (As := [.int (nI (nbrI (gat M C) x b).toNat)]) (rest := []) ⟨hx, hb, hml, hown, hts⟩ ((c_X7_keyOfRank l g h 0 zsg zl1 zl2 zl3 zl4 zpb zln zat zrk zrv zre zwr zrm zrs zis zss zsc ak av bk bv br a_s a_t g1 g2 g3 pa ru tx dk dv ek ev er es et nA fk fv nB ck cv cr M C ((nbrI (gat M C) x b).toNat) hMM hy3) _) (cwV 1 hts gX7_neighbor_X7_keyOfRank rfl rfl rfl (by decide +kernel) ⟨Nat.le_of_ble_eq_true rfl, Nat.le_of_ble_eq_true rfl⟩) (kpreV (wc := [(h, .inr (9, [.int 0, .int (nI nA), .int (nI nB), .ref ak, .ref av, .ref bk, .ref bv, .ref br, .ref a_s, .ref a_t, .int zsg, .ref g1, .ref g2, .ref g3, .long zl1, .long zl2, .long zl3, .long zl4, .int zpb, .ref pa, .ref ru, .ref tx, .int zln, .int zat, .int zrk, .int zrv, .int zre, .int zwr, .int zrm, .int zrs, .int zis, .int zss, .int zsc, .ref dk, .ref dv, .ref ek, .ref ev, .ref er, .ref es, .ref et])), (ak, .inl (g.2.1.1, 152, .inl fk)), (av, .inl (g.2.1.1, 152, .inl fv)), (bk, .inl (g.2.1.1, 24, .inl ck)), (bv, .inl (g.2.1.1, 24, .inl cv)), (br, .inl (g.2.1.1, 24, .inl cr))]) (ci := 9) hK hP hD hS hA hE [0, 1, 2, 3, 4, 5] rfl rfl rfl rfl) rfl rfl hl.1 rfl (lv_room (Nat.le_of_ble_eq_true rfl)) dX7_neighbor_81 ⟨Nat.zero_le _, Nat.zero_le _⟩) hP hD hS hA rfl (fun r_27 w_27 H locs hp hP hD hS => ?_)
          obtain ⟨rfl, rfl⟩ := hp
          have hP : va_P g.1 vwCl [(h, .inr (9, [.int 0, .int (nI nA), .int (nI nB), .ref ak, .ref av, .ref bk, .ref bv, .ref br, .ref a_s, .ref a_t, .int zsg, .ref g1, .ref g2, .ref g3, .long zl1, .long zl2, .long zl3, .long zl4, .int zpb, .ref pa, .ref ru, .ref tx, .int zln, .int zat, .int zrk, .int zrv, .int zre, .int zwr, .int zrm, .int zrs, .int zis, .int zss, .int zsc, .ref dk, .ref dv, .ref ek, .ref ev, .ref er, .ref es, .ref et])), (ak, .inl (g.2.1.1, 152, .inl fk)), (av, .inl (g.2.1.1, 152, .inl fv)), (bk, .inl (g.2.1.1, 24, .inl ck)), (bv, .inl (g.2.1.1, 24, .inl cv)), (br, .inl (g.2.1.1, 24, .inl cr))] H := hP
          have hD : va_D A [(h, .inr (9, [.int 0, .int (nI nA), .int (nI nB), .ref ak, .ref av, .ref bk, .ref bv, .ref br, .ref a_s, .ref a_t, .int zsg, .ref g1, .ref g2, .ref g3, .long zl1, .long zl2, .long zl3, .long zl4, .int zpb, .ref pa, .ref ru, .ref tx, .int zln, .int zat, .int zrk, .int zrv, .int zre, .int zwr, .int zrm, .int zrs, .int zis, .int zss, .int zsc, .ref dk, .ref dv, .ref ek, .ref ev, .ref er, .ref es, .ref et])), (ak, .inl (g.2.1.1, 152, .inl fk)), (av, .inl (g.2.1.1, 152, .inl fv)), (bk, .inl (g.2.1.1, 24, .inl ck)), (bv, .inl (g.2.1.1, 24, .inl cv)), (br, .inl (g.2.1.1, 24, .inl cr))] := hD
          exact kreti hx hb hRt hlk hK hP hD hS rfl dX7_neighbor_84 (⟨by rw [hk9, if_pos rfl, nbrV], by rw [hk9]⟩)
        · skip
          have hk9 : nbrK (gat M C) x b = 1 := by rw [nbrK, if_neg (fun z => isB_nrng (by omega) c_60 (by rw [inR, hti]; exact ⟨z.1, by omega⟩))]
          refine lv_iconst (v := 1) hx hb dX7_neighbor_63 (by decide) ?_
          refine lv_goto (tgt := 68) hx hb dX7_neighbor_64 (by decide) ?_
          refine kcalli (wc := [(h, .inr (9, [.int zth, .int (nI nA), .int (nI nB), .ref ak, .ref av, .ref bk, .ref bv, .ref br, .ref a_s, .ref a_t, .int zsg, .ref g1, .ref g2, .ref g3, .long zl1, .long zl2, .long zl3, .long zl4, .int zpb, .ref pa, .ref ru, .ref tx, .int zln, .int zat, .int zrk, .int zrv, .int zre, .int zwr, .int zrm, .int zrs, .int zis, .int zss, .int zsc, .ref dk, .ref dv, .ref ek, .ref ev, .ref er, .ref es, .ref et]))]) [0] (va_runV (C := RX7) (As := [.int 1, .int 1]) (rest := []) ⟨hx, hb, hml, hown, hts⟩ ((c_X7_fails1 l g h zth (nI nA) (nI nB) zsg zl1 zl2 zl3 zl4 zpb zln zat zrk zrv zre zwr zrm zrs zis zss zsc ak av bk bv br a_s a_t g1 g2 g3 pa ru tx dk dv ek ev er es et 1) _) (cwV 2 hts gX7_neighbor_X7_fails rfl rfl rfl (by decide +kernel) ⟨Nat.le_of_ble_eq_true rfl, Nat.le_of_ble_eq_true rfl⟩) (kpreV (wc := [(h, .inr (9, [.int zth, .int (nI nA), .int (nI nB), .ref ak, .ref av, .ref bk, .ref bv, .ref br, .ref a_s, .ref a_t, .int zsg, .ref g1, .ref g2, .ref g3, .long zl1, .long zl2, .long zl3, .long zl4, .int zpb, .ref pa, .ref ru, .ref tx, .int zln, .int zat, .int zrk, .int zrv, .int zre, .int zwr, .int zrm, .int zrs, .int zis, .int zss, .int zsc, .ref dk, .ref dv, .ref ek, .ref ev, .ref er, .ref es, .ref et]))]) (ci := 9) hK hP hD hS hA hE [0] rfl rfl rfl rfl) rfl rfl hl.1 rfl (lv_room (Nat.le_of_ble_eq_true rfl)) dX7_neighbor_68 ⟨Nat.zero_le _, Nat.zero_le _⟩) hP hD hS hA rfl (fun r_28 w_28 H locs hp hP hD hS => ?_)
          obtain ⟨rfl, rfl⟩ := hp
          have hP : va_P g.1 vwCl [(h, .inr (9, [.int 1, .int (nI nA), .int (nI nB), .ref ak, .ref av, .ref bk, .ref bv, .ref br, .ref a_s, .ref a_t, .int zsg, .ref g1, .ref g2, .ref g3, .long zl1, .long zl2, .long zl3, .long zl4, .int zpb, .ref pa, .ref ru, .ref tx, .int zln, .int zat, .int zrk, .int zrv, .int zre, .int zwr, .int zrm, .int zrs, .int zis, .int zss, .int zsc, .ref dk, .ref dv, .ref ek, .ref ev, .ref er, .ref es, .ref et])), (ak, .inl (g.2.1.1, 152, .inl fk)), (av, .inl (g.2.1.1, 152, .inl fv)), (bk, .inl (g.2.1.1, 24, .inl ck)), (bv, .inl (g.2.1.1, 24, .inl cv)), (br, .inl (g.2.1.1, 24, .inl cr))] H := hP
          have hD : va_D A [(h, .inr (9, [.int 1, .int (nI nA), .int (nI nB), .ref ak, .ref av, .ref bk, .ref bv, .ref br, .ref a_s, .ref a_t, .int zsg, .ref g1, .ref g2, .ref g3, .long zl1, .long zl2, .long zl3, .long zl4, .int zpb, .ref pa, .ref ru, .ref tx, .int zln, .int zat, .int zrk, .int zrv, .int zre, .int zwr, .int zrm, .int zrs, .int zis, .int zss, .int zsc, .ref dk, .ref dv, .ref ek, .ref ev, .ref er, .ref es, .ref et])), (ak, .inl (g.2.1.1, 152, .inl fk)), (av, .inl (g.2.1.1, 152, .inl fv)), (bk, .inl (g.2.1.1, 24, .inl ck)), (bv, .inl (g.2.1.1, 24, .inl cv)), (br, .inl (g.2.1.1, 24, .inl cr))] := hD
          refine lv_if_eq (tgt := 78) hx hb dX7_neighbor_71 (by decide) (fun c_71 => absurd c_71 (by decide)) (fun c_71 => ?_)
          refine lv_iconst (v := 0) hx hb dX7_neighbor_74 (by decide) ?_
          refine lv_goto (tgt := 84) hx hb dX7_neighbor_75 (by decide) ?_
          exact kreti hx hb hRt hlk hK hP hD hS rfl dX7_neighbor_84 (⟨by rw [hk9]; rfl, by rw [hk9]⟩)
      · skip
        refine lv_iload hx hb dX7_neighbor_32 (lv_at hl 0 rfl) ?_
        refine lv_if_eq (tgt := 41) hx hb dX7_neighbor_34 (by decide) (fun c_34 => absurd c_34 (by decide)) (fun c_34 => ?_)
        refine lv_iload_n hx hb dX7_neighbor_37 rfl (lv_at hl 1 rfl) ?_
        refine lv_goto (tgt := 44) hx hb dX7_neighbor_38 (by decide) ?_
        have hni : nbrI (gat M C) x b = (rnkS (gat M C) x : Int) := by rw [nbrI, if_pos (Or.inr hls)]
        refine lv_topi (fun v44 e_v44 => ?_)
        rw [show (v44 : Int32) = kI (nbrI (gat M C) x b) from e_v44.trans (by rw [hni, kI_nI])]
        refine lv_istore (lv' := [(5, .int (kI (nbrI (gat M C) x b))), (4, .int 1), (3, .int (nI (rnkS (gat M C) x))), (0, .ref h), (1, .int x), (2, .int b)]) hx hb dX7_neighbor_44 hl (by decide) rfl (fun ls hl => ?_)
        refine lv_aload_n hx hb dX7_neighbor_46 rfl (lv_at hl 3 rfl) ?_
        refine lv_iconst (v := 1) hx hb dX7_neighbor_47 (by decide) ?_
        refine lv_iload hx hb dX7_neighbor_48 (lv_at hl 0 rfl) ?_
        refine lv_iconst (v := 0) hx hb dX7_neighbor_50 (by decide) ?_
        refine lv_aload_n hx hb dX7_neighbor_51 rfl (lv_at hl 3 rfl) ?_
        refine kcalli (wc := [(h, .inr (9, [.int zth, .int (nI nA), .int (nI nB), .ref ak, .ref av, .ref bk, .ref bv, .ref br, .ref a_s, .ref a_t, .int zsg, .ref g1, .ref g2, .ref g3, .long zl1, .long zl2, .long zl3, .long zl4, .int zpb, .ref pa, .ref ru, .ref tx, .int zln, .int zat, .int zrk, .int zrv, .int zre, .int zwr, .int zrm, .int zrs, .int zis, .int zss, .int zsc, .ref dk, .ref dv, .ref ek, .ref ev, .ref er, .ref es, .ref et])), (ak, .inl (g.2.1.1, 152, .inl fk)), (av, .inl (g.2.1.1, 152, .inl fv)), (bk, .inl (g.2.1.1, 24, .inl ck)), (bv, .inl (g.2.1.1, 24, .inl cv)), (br, .inl (g.2.1.1, 24, .inl cr))]) [0, 1, 2, 3, 4, 5] (va_runV (C := RX7) (As := []) (rest := [.int 0, .int (kI (nbrI (gat M C) x b)), .int 1, .ref h]) ⟨hx, hb, hml, hown, hts⟩ ((c_X7_countEntries l g h zth zsg zl1 zl2 zl3 zl4 zpb zln zat zrk zrv zre zwr zrm zrs zis zss zsc ak av bk bv br a_s a_t g1 g2 g3 pa ru tx dk dv ek ev er es et nA fk fv nB ck cv cr M C hMM) _) (cwV 0 hts gX7_neighbor_X7_countEntries rfl rfl rfl (by decide +kernel) ⟨Nat.le_of_ble_eq_true rfl, Nat.le_of_ble_eq_true rfl⟩) (kpreV (wc := [(h, .inr (9, [.int zth, .int (nI nA), .int (nI nB), .ref ak, .ref av, .ref bk, .ref bv, .ref br, .ref a_s, .ref a_t, .int zsg, .ref g1, .ref g2, .ref g3, .long zl1, .long zl2, .long zl3, .long zl4, .int zpb, .ref pa, .ref ru, .ref tx, .int zln, .int zat, .int zrk, .int zrv, .int zre, .int zwr, .int zrm, .int zrs, .int zis, .int zss, .int zsc, .ref dk, .ref dv, .ref ek, .ref ev, .ref er, .ref es, .ref et])), (ak, .inl (g.2.1.1, 152, .inl fk)), (av, .inl (g.2.1.1, 152, .inl fv)), (bk, .inl (g.2.1.1, 24, .inl ck)), (bv, .inl (g.2.1.1, 24, .inl cv)), (br, .inl (g.2.1.1, 24, .inl cr))]) (ci := 9) hK hP hD hS hA hE [0, 1, 2, 3, 4, 5] rfl rfl rfl rfl) rfl rfl hl.1 rfl (lv_room (Nat.le_of_ble_eq_true rfl)) dX7_neighbor_52 ⟨Nat.zero_le _, Nat.zero_le _⟩) hP hD hS hA rfl (fun r_29 w_29 H locs hp hP hD hS => ?_)
        obtain ⟨rfl, rfl⟩ := hp
        have hP : va_P g.1 vwCl [(h, .inr (9, [.int zth, .int (nI nA), .int (nI nB), .ref ak, .ref av, .ref bk, .ref bv, .ref br, .ref a_s, .ref a_t, .int zsg, .ref g1, .ref g2, .ref g3, .long zl1, .long zl2, .long zl3, .long zl4, .int zpb, .ref pa, .ref ru, .ref tx, .int zln, .int zat, .int zrk, .int zrv, .int zre, .int zwr, .int zrm, .int zrs, .int zis, .int zss, .int zsc, .ref dk, .ref dv, .ref ek, .ref ev, .ref er, .ref es, .ref et])), (ak, .inl (g.2.1.1, 152, .inl fk)), (av, .inl (g.2.1.1, 152, .inl fv)), (bk, .inl (g.2.1.1, 24, .inl ck)), (bv, .inl (g.2.1.1, 24, .inl cv)), (br, .inl (g.2.1.1, 24, .inl cr))] H := hP
        have hD : va_D A [(h, .inr (9, [.int zth, .int (nI nA), .int (nI nB), .ref ak, .ref av, .ref bk, .ref bv, .ref br, .ref a_s, .ref a_t, .int zsg, .ref g1, .ref g2, .ref g3, .long zl1, .long zl2, .long zl3, .long zl4, .int zpb, .ref pa, .ref ru, .ref tx, .int zln, .int zat, .int zrk, .int zrv, .int zre, .int zwr, .int zrm, .int zrs, .int zis, .int zss, .int zsc, .ref dk, .ref dv, .ref ek, .ref ev, .ref er, .ref es, .ref et])), (ak, .inl (g.2.1.1, 152, .inl fk)), (av, .inl (g.2.1.1, 152, .inl fv)), (bk, .inl (g.2.1.1, 24, .inl ck)), (bv, .inl (g.2.1.1, 24, .inl cv)), (br, .inl (g.2.1.1, 24, .inl cr))] := hD
        refine lv_iconst (v := 1) hx hb dX7_neighbor_55 (by decide) ?_
        refine lv_isub hx hb dX7_neighbor_56 ?_
        rw [show ((nI (gat M C).length) - 1 : Int32) = kH (gat M C).length from kH_sub _]
        refine kcalli (wc := []) [] (va_runS (As := [.int (kI (nbrI (gat M C) x b)), .int 0, .int (kH (gat M C).length)]) (rest := [.int 1, .ref h]) ⟨hx, hb, hml, hown, hts⟩ ((c_X7_isBetween l g (kI (nbrI (gat M C) x b)) 0 (kH (gat M C).length)) _) (va_cwS 3 hts gX7_neighbor_X7_isBetween rfl rfl rfl (by decide +kernel) ⟨Nat.le_of_ble_eq_true rfl, Nat.le_of_ble_eq_true rfl⟩) (kpreS (wc := []) hK hP hD hS hA hE [] rfl rfl) rfl rfl hl.1 rfl (lv_room (Nat.le_of_ble_eq_true rfl)) dX7_neighbor_57 ⟨Nat.zero_le _, Nat.zero_le _⟩) hP hD hS hA rfl (fun r_30 w_30 H locs hp hP hD hS => ?_)
        obtain ⟨rfl, rfl⟩ := hp
        have hP : va_P g.1 vwCl [(h, .inr (9, [.int zth, .int (nI nA), .int (nI nB), .ref ak, .ref av, .ref bk, .ref bv, .ref br, .ref a_s, .ref a_t, .int zsg, .ref g1, .ref g2, .ref g3, .long zl1, .long zl2, .long zl3, .long zl4, .int zpb, .ref pa, .ref ru, .ref tx, .int zln, .int zat, .int zrk, .int zrv, .int zre, .int zwr, .int zrm, .int zrs, .int zis, .int zss, .int zsc, .ref dk, .ref dv, .ref ek, .ref ev, .ref er, .ref es, .ref et])), (ak, .inl (g.2.1.1, 152, .inl fk)), (av, .inl (g.2.1.1, 152, .inl fv)), (bk, .inl (g.2.1.1, 24, .inl ck)), (bv, .inl (g.2.1.1, 24, .inl cv)), (br, .inl (g.2.1.1, 24, .inl cr))] H := hP
        have hD : va_D A [(h, .inr (9, [.int zth, .int (nI nA), .int (nI nB), .ref ak, .ref av, .ref bk, .ref bv, .ref br, .ref a_s, .ref a_t, .int zsg, .ref g1, .ref g2, .ref g3, .long zl1, .long zl2, .long zl3, .long zl4, .int zpb, .ref pa, .ref ru, .ref tx, .int zln, .int zat, .int zrk, .int zrv, .int zre, .int zwr, .int zrm, .int zrs, .int zis, .int zss, .int zsc, .ref dk, .ref dv, .ref ek, .ref ev, .ref er, .ref es, .ref et])), (ak, .inl (g.2.1.1, 152, .inl fk)), (av, .inl (g.2.1.1, 152, .inl fv)), (bk, .inl (g.2.1.1, 24, .inl ck)), (bv, .inl (g.2.1.1, 24, .inl cv)), (br, .inl (g.2.1.1, 24, .inl cr))] := hD
        have hti : (kI (nbrI (gat M C) x b)).toInt = nbrI (gat M C) x b := kI_toInt (by omega) (by omega)
        refine lv_if_ne (tgt := 67) hx hb dX7_neighbor_60 (by decide) (fun c_60 => ?_) (fun c_60 => ?_)
        · skip
          obtain ⟨hy1, hy2, hy3⟩ := isB_rng (by omega) c_60
          rw [hti] at hy1 hy2 hy3
          have hk9 : nbrK (gat M C) x b = 0 := by rw [nbrK, if_pos ⟨hy2, by omega⟩]
          refine lv_iconst (v := 0) hx hb dX7_neighbor_67 (by decide) ?_
          refine kcalli (wc := [(h, .inr (9, [.int zth, .int (nI nA), .int (nI nB), .ref ak, .ref av, .ref bk, .ref bv, .ref br, .ref a_s, .ref a_t, .int zsg, .ref g1, .ref g2, .ref g3, .long zl1, .long zl2, .long zl3, .long zl4, .int zpb, .ref pa, .ref ru, .ref tx, .int zln, .int zat, .int zrk, .int zrv, .int zre, .int zwr, .int zrm, .int zrs, .int zis, .int zss, .int zsc, .ref dk, .ref dv, .ref ek, .ref ev, .ref er, .ref es, .ref et]))]) [0] (va_runV (C := RX7) (As := [.int 1, .int 0]) (rest := []) ⟨hx, hb, hml, hown, hts⟩ ((c_X7_fails0 l g h zth (nI nA) (nI nB) zsg zl1 zl2 zl3 zl4 zpb zln zat zrk zrv zre zwr zrm zrs zis zss zsc ak av bk bv br a_s a_t g1 g2 g3 pa ru tx dk dv ek ev er es et 1) _) (cwV 2 hts gX7_neighbor_X7_fails rfl rfl rfl (by decide +kernel) ⟨Nat.le_of_ble_eq_true rfl, Nat.le_of_ble_eq_true rfl⟩) (kpreV (wc := [(h, .inr (9, [.int zth, .int (nI nA), .int (nI nB), .ref ak, .ref av, .ref bk, .ref bv, .ref br, .ref a_s, .ref a_t, .int zsg, .ref g1, .ref g2, .ref g3, .long zl1, .long zl2, .long zl3, .long zl4, .int zpb, .ref pa, .ref ru, .ref tx, .int zln, .int zat, .int zrk, .int zrv, .int zre, .int zwr, .int zrm, .int zrs, .int zis, .int zss, .int zsc, .ref dk, .ref dv, .ref ek, .ref ev, .ref er, .ref es, .ref et]))]) (ci := 9) hK hP hD hS hA hE [0] rfl rfl rfl rfl) rfl rfl hl.1 rfl (lv_room (Nat.le_of_ble_eq_true rfl)) dX7_neighbor_68 ⟨Nat.zero_le _, Nat.zero_le _⟩) hP hD hS hA rfl (fun r_31 w_31 H locs hp hP hD hS => ?_)
          obtain ⟨rfl, rfl⟩ := hp
          have hP : va_P g.1 vwCl [(h, .inr (9, [.int 0, .int (nI nA), .int (nI nB), .ref ak, .ref av, .ref bk, .ref bv, .ref br, .ref a_s, .ref a_t, .int zsg, .ref g1, .ref g2, .ref g3, .long zl1, .long zl2, .long zl3, .long zl4, .int zpb, .ref pa, .ref ru, .ref tx, .int zln, .int zat, .int zrk, .int zrv, .int zre, .int zwr, .int zrm, .int zrs, .int zis, .int zss, .int zsc, .ref dk, .ref dv, .ref ek, .ref ev, .ref er, .ref es, .ref et])), (ak, .inl (g.2.1.1, 152, .inl fk)), (av, .inl (g.2.1.1, 152, .inl fv)), (bk, .inl (g.2.1.1, 24, .inl ck)), (bv, .inl (g.2.1.1, 24, .inl cv)), (br, .inl (g.2.1.1, 24, .inl cr))] H := hP
          have hD : va_D A [(h, .inr (9, [.int 0, .int (nI nA), .int (nI nB), .ref ak, .ref av, .ref bk, .ref bv, .ref br, .ref a_s, .ref a_t, .int zsg, .ref g1, .ref g2, .ref g3, .long zl1, .long zl2, .long zl3, .long zl4, .int zpb, .ref pa, .ref ru, .ref tx, .int zln, .int zat, .int zrk, .int zrv, .int zre, .int zwr, .int zrm, .int zrs, .int zis, .int zss, .int zsc, .ref dk, .ref dv, .ref ek, .ref ev, .ref er, .ref es, .ref et])), (ak, .inl (g.2.1.1, 152, .inl fk)), (av, .inl (g.2.1.1, 152, .inl fv)), (bk, .inl (g.2.1.1, 24, .inl ck)), (bv, .inl (g.2.1.1, 24, .inl cv)), (br, .inl (g.2.1.1, 24, .inl cr))] := hD
          refine lv_if_eq (tgt := 78) hx hb dX7_neighbor_71 (by decide) (fun c_71 => ?_) (fun c_71 => absurd (by decide) c_71)
          refine lv_aload_n hx hb dX7_neighbor_78 rfl (lv_at hl 3 rfl) ?_
          refine lv_iload hx hb dX7_neighbor_79 (lv_at hl 0 rfl) ?_
          rw [show (kI (nbrI (gat M C) x b) : Int32) = nI (nbrI (gat M C) x b).toNat from hy1]
          refine kcalli (wc := [(h, .inr (9, [.int 0, .int (nI nA), .int (nI nB), .ref ak, .ref av, .ref bk, .ref bv, .ref br, .ref a_s, .ref a_t, .int zsg, .ref g1, .ref g2, .ref g3, .long zl1, .long zl2, .long zl3, .long zl4, .int zpb, .ref pa, .ref ru, .ref tx, .int zln, .int zat, .int zrk, .int zrv, .int zre, .int zwr, .int zrm, .int zrs, .int zis, .int zss, .int zsc, .ref dk, .ref dv, .ref ek, .ref ev, .ref er, .ref es, .ref et])), (ak, .inl (g.2.1.1, 152, .inl fk)), (av, .inl (g.2.1.1, 152, .inl fv)), (bk, .inl (g.2.1.1, 24, .inl ck)), (bv, .inl (g.2.1.1, 24, .inl cv)), (br, .inl (g.2.1.1, 24, .inl cr))]) [0, 1, 2, 3, 4, 5] (va_runV (C := RX7) (As := [.int (nI (nbrI (gat M C) x b).toNat)]) (rest := []) ⟨hx, hb, hml, hown, hts⟩ ((c_X7_keyOfRank l g h 0 zsg zl1 zl2 zl3 zl4 zpb zln zat zrk zrv zre zwr zrm zrs zis zss zsc ak av bk bv br a_s a_t g1 g2 g3 pa ru tx dk dv ek ev er es et nA fk fv nB ck cv cr M C ((nbrI (gat M C) x b).toNat) hMM hy3) _) (cwV 1 hts gX7_neighbor_X7_keyOfRank rfl rfl rfl (by decide +kernel) ⟨Nat.le_of_ble_eq_true rfl, Nat.le_of_ble_eq_true rfl⟩) (kpreV (wc := [(h, .inr (9, [.int 0, .int (nI nA), .int (nI nB), .ref ak, .ref av, .ref bk, .ref bv, .ref br, .ref a_s, .ref a_t, .int zsg, .ref g1, .ref g2, .ref g3, .long zl1, .long zl2, .long zl3, .long zl4, .int zpb, .ref pa, .ref ru, .ref tx, .int zln, .int zat, .int zrk, .int zrv, .int zre, .int zwr, .int zrm, .int zrs, .int zis, .int zss, .int zsc, .ref dk, .ref dv, .ref ek, .ref ev, .ref er, .ref es, .ref et])), (ak, .inl (g.2.1.1, 152, .inl fk)), (av, .inl (g.2.1.1, 152, .inl fv)), (bk, .inl (g.2.1.1, 24, .inl ck)), (bv, .inl (g.2.1.1, 24, .inl cv)), (br, .inl (g.2.1.1, 24, .inl cr))]) (ci := 9) hK hP hD hS hA hE [0, 1, 2, 3, 4, 5] rfl rfl rfl rfl) rfl rfl hl.1 rfl (lv_room (Nat.le_of_ble_eq_true rfl)) dX7_neighbor_81 ⟨Nat.zero_le _, Nat.zero_le _⟩) hP hD hS hA rfl (fun r_32 w_32 H locs hp hP hD hS => ?_)
          obtain ⟨rfl, rfl⟩ := hp
          have hP : va_P g.1 vwCl [(h, .inr (9, [.int 0, .int (nI nA), .int (nI nB), .ref ak, .ref av, .ref bk, .ref bv, .ref br, .ref a_s, .ref a_t, .int zsg, .ref g1, .ref g2, .ref g3, .long zl1, .long zl2, .long zl3, .long zl4, .int zpb, .ref pa, .ref ru, .ref tx, .int zln, .int zat, .int zrk, .int zrv, .int zre, .int zwr, .int zrm, .int zrs, .int zis, .int zss, .int zsc, .ref dk, .ref dv, .ref ek, .ref ev, .ref er, .ref es, .ref et])), (ak, .inl (g.2.1.1, 152, .inl fk)), (av, .inl (g.2.1.1, 152, .inl fv)), (bk, .inl (g.2.1.1, 24, .inl ck)), (bv, .inl (g.2.1.1, 24, .inl cv)), (br, .inl (g.2.1.1, 24, .inl cr))] H := hP
          have hD : va_D A [(h, .inr (9, [.int 0, .int (nI nA), .int (nI nB), .ref ak, .ref av, .ref bk, .ref bv, .ref br, .ref a_s, .ref a_t, .int zsg, .ref g1, .ref g2, .ref g3, .long zl1, .long zl2, .long zl3, .long zl4, .int zpb, .ref pa, .ref ru, .ref tx, .int zln, .int zat, .int zrk, .int zrv, .int zre, .int zwr, .int zrm, .int zrs, .int zis, .int zss, .int zsc, .ref dk, .ref dv, .ref ek, .ref ev, .ref er, .ref es, .ref et])), (ak, .inl (g.2.1.1, 152, .inl fk)), (av, .inl (g.2.1.1, 152, .inl fv)), (bk, .inl (g.2.1.1, 24, .inl ck)), (bv, .inl (g.2.1.1, 24, .inl cv)), (br, .inl (g.2.1.1, 24, .inl cr))] := hD
          exact kreti hx hb hRt hlk hK hP hD hS rfl dX7_neighbor_84 (⟨by rw [hk9, if_pos rfl, nbrV], by rw [hk9]⟩)
        · skip
          have hk9 : nbrK (gat M C) x b = 1 := by rw [nbrK, if_neg (fun z => isB_nrng (by omega) c_60 (by rw [inR, hti]; exact ⟨z.1, by omega⟩))]
          refine lv_iconst (v := 1) hx hb dX7_neighbor_63 (by decide) ?_
          refine lv_goto (tgt := 68) hx hb dX7_neighbor_64 (by decide) ?_
          refine kcalli (wc := [(h, .inr (9, [.int zth, .int (nI nA), .int (nI nB), .ref ak, .ref av, .ref bk, .ref bv, .ref br, .ref a_s, .ref a_t, .int zsg, .ref g1, .ref g2, .ref g3, .long zl1, .long zl2, .long zl3, .long zl4, .int zpb, .ref pa, .ref ru, .ref tx, .int zln, .int zat, .int zrk, .int zrv, .int zre, .int zwr, .int zrm, .int zrs, .int zis, .int zss, .int zsc, .ref dk, .ref dv, .ref ek, .ref ev, .ref er, .ref es, .ref et]))]) [0] (va_runV (C := RX7) (As := [.int 1, .int 1]) (rest := []) ⟨hx, hb, hml, hown, hts⟩ ((c_X7_fails1 l g h zth (nI nA) (nI nB) zsg zl1 zl2 zl3 zl4 zpb zln zat zrk zrv zre zwr zrm zrs zis zss zsc ak av bk bv br a_s a_t g1 g2 g3 pa ru tx dk dv ek ev er es et 1) _) (cwV 2 hts gX7_neighbor_X7_fails rfl rfl rfl (by decide +kernel) ⟨Nat.le_of_ble_eq_true rfl, Nat.le_of_ble_eq_true rfl⟩) (kpreV (wc := [(h, .inr (9, [.int zth, .int (nI nA), .int (nI nB), .ref ak, .ref av, .ref bk, .ref bv, .ref br, .ref a_s, .ref a_t, .int zsg, .ref g1, .ref g2, .ref g3, .long zl1, .long zl2, .long zl3, .long zl4, .int zpb, .ref pa, .ref ru, .ref tx, .int zln, .int zat, .int zrk, .int zrv, .int zre, .int zwr, .int zrm, .int zrs, .int zis, .int zss, .int zsc, .ref dk, .ref dv, .ref ek, .ref ev, .ref er, .ref es, .ref et]))]) (ci := 9) hK hP hD hS hA hE [0] rfl rfl rfl rfl) rfl rfl hl.1 rfl (lv_room (Nat.le_of_ble_eq_true rfl)) dX7_neighbor_68 ⟨Nat.zero_le _, Nat.zero_le _⟩) hP hD hS hA rfl (fun r_33 w_33 H locs hp hP hD hS => ?_)
          obtain ⟨rfl, rfl⟩ := hp
          have hP : va_P g.1 vwCl [(h, .inr (9, [.int 1, .int (nI nA), .int (nI nB), .ref ak, .ref av, .ref bk, .ref bv, .ref br, .ref a_s, .ref a_t, .int zsg, .ref g1, .ref g2, .ref g3, .long zl1, .long zl2, .long zl3, .long zl4, .int zpb, .ref pa, .ref ru, .ref tx, .int zln, .int zat, .int zrk, .int zrv, .int zre, .int zwr, .int zrm, .int zrs, .int zis, .int zss, .int zsc, .ref dk, .ref dv, .ref ek, .ref ev, .ref er, .ref es, .ref et])), (ak, .inl (g.2.1.1, 152, .inl fk)), (av, .inl (g.2.1.1, 152, .inl fv)), (bk, .inl (g.2.1.1, 24, .inl ck)), (bv, .inl (g.2.1.1, 24, .inl cv)), (br, .inl (g.2.1.1, 24, .inl cr))] H := hP
          have hD : va_D A [(h, .inr (9, [.int 1, .int (nI nA), .int (nI nB), .ref ak, .ref av, .ref bk, .ref bv, .ref br, .ref a_s, .ref a_t, .int zsg, .ref g1, .ref g2, .ref g3, .long zl1, .long zl2, .long zl3, .long zl4, .int zpb, .ref pa, .ref ru, .ref tx, .int zln, .int zat, .int zrk, .int zrv, .int zre, .int zwr, .int zrm, .int zrs, .int zis, .int zss, .int zsc, .ref dk, .ref dv, .ref ek, .ref ev, .ref er, .ref es, .ref et])), (ak, .inl (g.2.1.1, 152, .inl fk)), (av, .inl (g.2.1.1, 152, .inl fv)), (bk, .inl (g.2.1.1, 24, .inl ck)), (bv, .inl (g.2.1.1, 24, .inl cv)), (br, .inl (g.2.1.1, 24, .inl cr))] := hD
          refine lv_if_eq (tgt := 78) hx hb dX7_neighbor_71 (by decide) (fun c_71 => absurd c_71 (by decide)) (fun c_71 => ?_)
          refine lv_iconst (v := 0) hx hb dX7_neighbor_74 (by decide) ?_
          refine lv_goto (tgt := 84) hx hb dX7_neighbor_75 (by decide) ?_
          exact kreti hx hb hRt hlk hK hP hD hS rfl dX7_neighbor_84 (⟨by rw [hk9]; rfl, by rw [hk9]⟩)
