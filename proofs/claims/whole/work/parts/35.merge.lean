/-! ===== the model: merging ===== -/
def isRm (c : kE3) : Bool := decide (c.2.2 = 1)
def isNv (c : kE3) : Bool := decide (¬ c.2.2 = 1)
theorem appG_z {G : List kE3} {e : kE3} (h : ∀ m ∈ G, m.2.2 = 0) : ∀ m ∈ appG G e, m.2.2 = 0 := by
  intro m hm
  unfold appG at hm
  split at hm
  · exact h m (List.mem_filter.mp hm).1
  · rcases kput_keys _ _ _ hm with rfl | hm
    · rfl
    · exact h m hm
theorem fold_z : ∀ (L G : List kE3), (∀ m ∈ G, m.2.2 = 0) → ∀ m ∈ L.foldl appG G, m.2.2 = 0
  | [], _, h => h
  | e :: L, G, h => fold_z L (appG G e) (appG_z h)
theorem lkp_mapz {G : List kE3} (h : ∀ m ∈ G, m.2.2 = 0) (x : Int32) : (lkp G x).map (fun m => (m.1, m.2.1, (0 : Int32))) = lkp G x := by
  cases hc : lkp G x with
  | none => rfl
  | some m =>
    have h1 := h m (lkp_some hc).1
    obtain ⟨a, b, c⟩ := m
    simp only at h1
    simp [h1]
/-- one change after the other is all of them -/
theorem fold_lkp : ∀ (C M : List kE3), kSo M → kSo C → (∀ m ∈ M, m.2.2 = 0) → ∀ x, lkp (C.foldl appG M) x = rsl M C x
  | [], M, _, _, hz, x => by
    rw [List.foldl_nil, rsl]
    exact (lkp_mapz hz x).symm
  | c :: C, M, h1, h2, hz, x => by
    rw [List.foldl_cons, fold_lkp C (appG M c) (appG_so c h1) (kSo_c h2).2 (appG_z hz) x, rsl, rsl, lkp_cons]
    by_cases e : c.1 = x
    · have hn : lkp C x = none := lkp_gt (fun d hd => by rw [← e]; exact (kSo_c h2).1 d hd)
      rw [if_pos e, hn]
      simp only
      rw [lkp_mapz (appG_z hz), appG_lkp _ _ h1, if_pos e]
    · rw [if_neg e]
      cases hc : lkp C x with
      | some d => rfl
      | none =>
        simp only
        rw [lkp_mapz (appG_z hz), lkp_mapz hz, appG_lkp _ _ h1, if_neg e]
theorem fold_gat {C M : List kE3} (h1 : kSo M) (h2 : kSo C) (hz : ∀ m ∈ M, m.2.2 = 0) : C.foldl appG M = gat M C :=
  kSo_ext (fold_so C M h1) (gat_so M C h1 h2) (fun x => by rw [fold_lkp C M h1 h2 hz x, gat_lkp M C h1 h2 x])
theorem flt2_so {L : List kE3} (f : kE3 → Bool) (h : kSo L) : kSo (L.filter f) := List.Pairwise.filter _ h
theorem lkp_flt {L : List kE3} (f : kE3 → Bool) (h : kSo L) (x : Int32) : lkp (L.filter f) x = (lkp L x).filter f := by
  cases hc : lkp L x with
  | none =>
    cases hd : lkp (L.filter f) x with
    | none => rfl
    | some d => exact absurd (lkp_some hd).2 (lkp_none hc d (List.mem_filter.mp (lkp_some hd).1).1)
  | some d =>
    obtain ⟨h1, h2⟩ := lkp_some hc
    by_cases e : f d = true
    · have h3 : d ∈ L.filter f := List.mem_filter.mpr ⟨h1, e⟩
      have h4 := lkp_of (flt2_so f h) h3
      rw [h2] at h4
      rw [h4]; simp [Option.filter, e]
    · cases hd : lkp (L.filter f) x with
      | none => simp [Option.filter, e]
      | some d' =>
        obtain ⟨g1, g2⟩ := lkp_some hd
        obtain ⟨g3, g4⟩ := List.mem_filter.mp g1
        have : d' = d := kSo_inj h g3 h1 (g2.trans h2.symm)
        rw [this] at g4
        exact absurd g4 e
/-- removals first, then what is new -/
theorem fold_two {C M : List kE3} (h1 : kSo M) (h2 : kSo C) (hz : ∀ m ∈ M, m.2.2 = 0) : (C.filter isNv).foldl appG ((C.filter isRm).foldl appG M) = gat M C := by
  have hz2 := fold_z (C.filter isRm) M hz
  have hs1 := fold_so (C.filter isRm) M h1
  refine kSo_ext (fold_so _ _ hs1) (gat_so M C h1 h2) (fun x => ?_)
  rw [fold_lkp _ _ hs1 (flt2_so _ h2) hz2, gat_lkp M C h1 h2 x, rsl, rsl, lkp_flt isNv h2]
  cases hc : lkp C x with
  | none =>
    simp only [Option.filter]
    rw [lkp_mapz hz2, lkp_mapz hz, fold_lkp _ _ h1 (flt2_so _ h2) hz, rsl, lkp_flt isRm h2, hc]
    simp only [Option.filter]
    exact lkp_mapz hz x
  | some c =>
    by_cases e : c.2.2 = 1
    · have : isNv c = false := by simp [isNv, e]
      simp only [Option.filter, this]
      rw [if_neg (by decide)]
      simp only [if_pos e]
      rw [lkp_mapz hz2, fold_lkp _ _ h1 (flt2_so _ h2) hz, rsl, lkp_flt isRm h2, hc]
      have : isRm c = true := by simp [isRm, e]
      simp [Option.filter, this, e]
    · have : isNv c = true := by simp [isNv, e]
      simp only [Option.filter, this]
      simp [e]
theorem flt_take {C : List kE3} {f : kE3 → Bool} {j : Nat} {c : kE3} (h : C[j]? = some c) : (C.take (j + 1)).filter f = (C.take j).filter f ++ (if f c = true then [c] else []) := by
  rw [List.take_add_one, h, Option.toList_some, List.filter_append]
  congr 1
  by_cases e : f c = true
  · rw [if_pos e, List.filter_cons_of_pos e]; rfl
  · rw [if_neg e, List.filter_cons_of_neg e]; rfl
theorem flt_take_no {C : List kE3} (f : kE3 → Bool) (h : kSo C) {j : Nat} {c : kE3} (hc : C[j]? = some c) : lkp ((C.take j).filter f) c.1 = none := by
  cases hd : lkp ((C.take j).filter f) c.1 with
  | none => rfl
  | some d =>
    exfalso
    obtain ⟨g1, g2⟩ := lkp_some hd
    obtain ⟨k, hk, rfl⟩ := List.getElem_of_mem (List.mem_filter.mp g1).1
    rw [List.length_take] at hk
    obtain ⟨hj, e⟩ := List.getElem?_eq_some_iff.mp hc
    have h5 := List.pairwise_iff_getElem.mp h k j (by omega) hj (by omega)
    rw [List.getElem_take] at g2
    rw [e, g2] at h5
    exact Int32.lt_irrefl h5
theorem take_so {C : List kE3} (h : kSo C) (j : Nat) : kSo (C.take j) := List.Pairwise.sublist (List.take_sublist _ _) h
theorem fold_len : ∀ (L G : List kE3), kSo G → (∀ e ∈ L, ¬ e.2.2 = 1) → G.length ≤ (L.foldl appG G).length
  | [], _, _, _ => Nat.le_refl _
  | e :: L, G, hs, h => by
    have h1 := appG_len e hs
    rw [if_neg (h e List.mem_cons_self)] at h1
    have h2 := fold_len L (appG G e) (appG_so e hs) (fun d hd => h d (List.mem_cons_of_mem _ hd))
    rw [List.foldl_cons]
    refine Nat.le_trans ?_ h2
    rw [h1]
    split <;> omega
theorem fold_le : ∀ (L G : List kE3), kSo G → (∀ e ∈ L, e.2.2 = 1) → (L.foldl appG G).length ≤ G.length
  | [], _, _, _ => Nat.le_refl _
  | e :: L, G, hs, h => by
    have h1 : (appG G e).length ≤ G.length := by
      unfold appG
      rw [if_pos (h e List.mem_cons_self)]
      exact List.length_filter_le _ _
    exact Nat.le_trans (fold_le L (appG G e) (appG_so e hs) (fun d hd => h d (List.mem_cons_of_mem _ hd))) h1
theorem fold_part {C G : List kE3} (hs : kSo G) (j : Nat) : (((C.take j).filter isNv).foldl appG G).length ≤ ((C.filter isNv).foldl appG G).length := by
  have e : C.filter isNv = (C.take j).filter isNv ++ (C.drop j).filter isNv := by rw [← List.filter_append, List.take_append_drop]
  rw [e, List.foldl_append]
  exact fold_len _ _ (fold_so _ _ hs) (fun d hd => of_decide_eq_true (List.mem_filter.mp hd).2)
theorem put_old {n : Nat} {fk fv : Nat → Int32} {x v : Int32} {i : Nat} (h : kfst n fk x i) (hi : i < n) (hx : fk i = x) : EL n fk (upd fv i v) fz0 = kput (x, v, 0) (EL n fk fv fz0) := by
  have h9 := enter_old (fv := fv) (fr := fz0) (v := v) (b := 0) h hi hx
  rw [upd_fz, show upd fk i x = fk from funext fun j => by simp only [upd]; split; (rename_i z; rw [z, hx]); rfl] at h9
  exact h9
/-- the number of entries -/
def cntM (M : List kE3) (C : List kE3) : Int := (M.length : Int) + (C.map (fun c => if c.2.2 = 1 then (-1 : Int) else if (lkp M c.1).isSome then 0 else 1)).sum
theorem cntM_gat : ∀ (C M : List kE3), kSo M → kSo C → (∀ m ∈ M, m.2.2 = 0) → (∀ c ∈ C, c.2.2 = 1 → (lkp M c.1).isSome = true) → cntM M C = ((gat M C).length : Int)
  | [], M, h1, h2, hz, _ => by rw [gat_nilC M hz]; simp [cntM]
  | c :: C, M, h1, h2, hz, hr => by
    have hg : gat M (c :: C) = gat (appG M c) C := by
      rw [← fold_gat h1 h2 hz, ← fold_gat (appG_so c h1) (kSo_c h2).2 (appG_z hz)]; rfl
    have hne : ∀ d ∈ C, ¬ c.1 = d.1 := fun d hd => k_ne ((kSo_c h2).1 d hd)
    have hl : ∀ d ∈ C, lkp (appG M c) d.1 = lkp M d.1 := fun d hd => by rw [appG_lkp _ _ h1, if_neg (hne d hd)]
    have ih := cntM_gat C (appG M c) (appG_so c h1) (kSo_c h2).2 (appG_z hz) (fun d hd e => by rw [hl d hd]; exact hr d (List.mem_cons_of_mem _ hd) e)
    rw [hg, ← ih]
    unfold cntM
    rw [List.map_cons, List.sum_cons]
    have hm : C.map (fun d => if d.2.2 = 1 then (-1 : Int) else if (lkp (appG M c) d.1).isSome then 0 else 1) = C.map (fun d => if d.2.2 = 1 then (-1 : Int) else if (lkp M d.1).isSome then 0 else 1) :=
      List.map_congr_left (fun d hd => by rw [hl d hd])
    rw [hm]
    have hal := appG_len c h1
    by_cases e : c.2.2 = 1
    · have hs := hr c List.mem_cons_self e
      rw [if_pos e, if_pos hs] at hal
      rw [if_pos e]
      have : 0 < M.length := by obtain ⟨d, hd, -⟩ := lkp_isSome_iff.mp hs; exact List.length_pos_of_mem hd
      omega
    · rw [if_neg e] at hal
      rw [if_neg e]
      by_cases e2 : (lkp M c.1).isSome = true
      · rw [if_pos e2] at hal; rw [if_pos e2]; omega
      · rw [if_neg e2] at hal; rw [if_neg e2]; omega
/-- the model's state -/
def kMX (nA : Nat) (fk fv : Nat → Int32) (nB : Nat) (ck cv cr fS fT : Nat → Int32) (mS : Nat) (y1 y2 y3 : Nat → Int32) (M C : List kE3) (S T : Nat → Int32) : Prop :=
  kMM nA fk fv nB ck cv cr M C ∧ (∀ j, j < 4 → fS j = S j) ∧ (∀ j, j < 5 → fT j = T j) ∧ kSt S ∧ ∃ v2 v3, SG mS y1 v2 v3 y2 y3 = (ksegs M S).map (sgc (kap M))
theorem kMX_mrg {nA : Nat} {fk fv : Nat → Int32} {nB : Nat} {ck cv cr fS fT : Nat → Int32} {mS : Nat} {y1 y2 y3 : Nat → Int32} {M C : List kE3} {S T : Nat → Int32} (h : kMX nA fk fv nB ck cv cr fS fT mS y1 y2 y3 M C S T)
    {n2 : Nat} {fk2 fv2 t2 : Nat → Int32} {m2 : Nat} {x1 x2 x3 v2 v3 : Nat → Int32} (hO : EL n2 fk2 fv2 fz0 = gat M C) (ht : t2 = upd (upd fT 3 0) 4 (upd fT 3 0 4 + 1)) (hg : SG m2 x1 v2 v3 x2 x3 = (sgs (kap (gat M C)) n2 (S 0).toInt).map (sgc (kap (gat M C)))) :
    kMX n2 fk2 fv2 0 ck cv cr fS t2 m2 x1 x2 x3 (gat M C) [] S (mrgT T) := by
  obtain ⟨⟨⟨hM, hC⟩, ⟨hnM, hnC⟩, ⟨hIM, hIC⟩, hlen, hrem⟩, hS, hT, hK, -⟩ := h
  have hn2 : n2 = (gat M C).length := by rw [← hO, EL_len]
  refine ⟨⟨⟨hO, EL_nil⟩, ⟨by omega, by omega⟩, ⟨gat_iv hIM hIC, kIv_nil⟩, by rw [gat_nilC _ (gat_z hIM.1 hIC.1)]; exact hlen, fun c hc => by cases hc⟩, hS, fun j hj => ?_, hK, v2, v3, by rw [hg, ksegs, hn2]⟩
  rw [ht]
  have h4 := hT 4 (by decide)
  simp only [mrgT, upd]
  split
  · rw [if_neg (by decide), h4]
  · split
    · rfl
    · exact hT j hj

set_option maxRecDepth 20000 in
theorem ggX7_countEntries_X7_positionOf : GoodIn wsX7_countEntries wsX7_positionOf := goodIn_ca (goodIn_r _ [9, 1, 10, 11, 12, 13, 14, 15, 16, 17, 18, 19, 20, 21, 22, 23, 24, 25, 26, 27, 28, 29, 30, 31, 32, 33, 34, 35, 36, 37, 38, 39, 40, 41, 42, 43, 44, 45, 46, 47, 48, 49, 50] (by decide +kernel) (by decide +kernel)) (goodIn_sub (fun _ h => List.mem_cons_of_mem _ (List.mem_append_right _ h)) (by decide +kernel))
set_option maxRecDepth 20000 in
theorem gX7_countEntries_X7_positionOf : GoodIn wsX7_countEntries (wsV RX7 89 RX7 yX7_positionOf wsX7_positionOf) := goodIn_app (goodIn_of _ (by decide +kernel)) ggX7_countEntries_X7_positionOf
theorem dX7_countEntries_0 : decode cX7_countEntries 0 = .ok (.aload_n 0, 1) := by decide +kernel
theorem dX7_countEntries_1 : decode cX7_countEntries 1 = .ok (.getfield 79, 3) := by decide +kernel
theorem dX7_countEntries_4 : decode cX7_countEntries 4 = .ok (.istore_n 1, 1) := by decide +kernel
theorem dX7_countEntries_5 : decode cX7_countEntries 5 = .ok (.iconst 0, 1) := by decide +kernel
theorem dX7_countEntries_6 : decode cX7_countEntries 6 = .ok (.istore_n 2, 1) := by decide +kernel
theorem dX7_countEntries_7 : decode cX7_countEntries 7 = .ok (.iload_n 2, 1) := by decide +kernel
theorem dX7_countEntries_8 : decode cX7_countEntries 8 = .ok (.aload_n 0, 1) := by decide +kernel
theorem dX7_countEntries_9 : decode cX7_countEntries 9 = .ok (.getfield 82, 3) := by decide +kernel
theorem dX7_countEntries_12 : decode cX7_countEntries 12 = .ok (.if_icmp .ge 54, 3) := by decide +kernel
theorem dX7_countEntries_15 : decode cX7_countEntries 15 = .ok (.aload_n 0, 1) := by decide +kernel
theorem dX7_countEntries_16 : decode cX7_countEntries 16 = .ok (.aload_n 0, 1) := by decide +kernel
theorem dX7_countEntries_17 : decode cX7_countEntries 17 = .ok (.getfield 16, 3) := by decide +kernel
theorem dX7_countEntries_20 : decode cX7_countEntries 20 = .ok (.iload_n 2, 1) := by decide +kernel
theorem dX7_countEntries_21 : decode cX7_countEntries 21 = .ok (.iaload, 1) := by decide +kernel
theorem dX7_countEntries_22 : decode cX7_countEntries 22 = .ok (.invokevirtual 89, 3) := by decide +kernel
theorem dX7_countEntries_25 : decode cX7_countEntries 25 = .ok (.ifCond .lt 7, 3) := by decide +kernel
theorem dX7_countEntries_28 : decode cX7_countEntries 28 = .ok (.iconst 1, 1) := by decide +kernel
theorem dX7_countEntries_29 : decode cX7_countEntries 29 = .ok (.goto 4, 3) := by decide +kernel
theorem dX7_countEntries_32 : decode cX7_countEntries 32 = .ok (.iconst 0, 1) := by decide +kernel
theorem dX7_countEntries_33 : decode cX7_countEntries 33 = .ok (.istore_n 3, 1) := by decide +kernel
theorem dX7_countEntries_34 : decode cX7_countEntries 34 = .ok (.iload_n 1, 1) := by decide +kernel
theorem dX7_countEntries_35 : decode cX7_countEntries 35 = .ok (.aload_n 0, 1) := by decide +kernel
theorem dX7_countEntries_36 : decode cX7_countEntries 36 = .ok (.getfield 22, 3) := by decide +kernel
theorem dX7_countEntries_39 : decode cX7_countEntries 39 = .ok (.iload_n 2, 1) := by decide +kernel
theorem dX7_countEntries_40 : decode cX7_countEntries 40 = .ok (.iaload, 1) := by decide +kernel
theorem dX7_countEntries_41 : decode cX7_countEntries 41 = .ok (.iconst 1, 1) := by decide +kernel
theorem dX7_countEntries_42 : decode cX7_countEntries 42 = .ok (.if_icmp .ne 7, 3) := by decide +kernel
theorem dX7_countEntries_45 : decode cX7_countEntries 45 = .ok (.iconst (-1), 1) := by decide +kernel
theorem dX7_countEntries_46 : decode cX7_countEntries 46 = .ok (.goto 12, 3) := by decide +kernel
theorem dX7_countEntries_49 : decode cX7_countEntries 49 = .ok (.iload_n 3, 1) := by decide +kernel
theorem dX7_countEntries_50 : decode cX7_countEntries 50 = .ok (.ifCond .eq 7, 3) := by decide +kernel
theorem dX7_countEntries_53 : decode cX7_countEntries 53 = .ok (.iconst 0, 1) := by decide +kernel
theorem dX7_countEntries_54 : decode cX7_countEntries 54 = .ok (.goto 4, 3) := by decide +kernel
theorem dX7_countEntries_57 : decode cX7_countEntries 57 = .ok (.iconst 1, 1) := by decide +kernel
theorem dX7_countEntries_58 : decode cX7_countEntries 58 = .ok (.iadd, 1) := by decide +kernel
theorem dX7_countEntries_59 : decode cX7_countEntries 59 = .ok (.istore_n 1, 1) := by decide +kernel
theorem dX7_countEntries_60 : decode cX7_countEntries 60 = .ok (.iinc 2 1, 3) := by decide +kernel
theorem dX7_countEntries_63 : decode cX7_countEntries 63 = .ok (.goto (-56), 3) := by decide +kernel
theorem dX7_countEntries_66 : decode cX7_countEntries 66 = .ok (.iload_n 1, 1) := by decide +kernel
theorem dX7_countEntries_67 : decode cX7_countEntries 67 = .ok (.ireturn, 1) := by decide +kernel
def rm_X7_countEntries : Room := { frames := 1, cells := 0, slots := 0, locals := 22 }
abbrev p_X7_countEntries (g : kG) (h : Nat) (zth : Int32) (zsg : Int32) (zl1 : Int64) (zl2 : Int64) (zl3 : Int64) (zl4 : Int64) (zpb : Int32) (zln : Int32) (zat : Int32) (zrk : Int32) (zrv : Int32) (zre : Int32) (zwr : Int32) (zrm : Int32) (zrs : Int32) (zis : Int32) (zss : Int32) (zsc : Int32) (ak : Nat) (av : Nat) (bk : Nat) (bv : Nat) (br : Nat) (a_s : Nat) (a_t : Nat) (g1 : Nat) (g2 : Nat) (g3 : Nat) (pa : Nat) (ru : Nat) (tx : Nat) (dk : Nat) (dv : Nat) (ek : Nat) (ev : Nat) (er : Nat) (es : Nat) (et : Nat) (nA : Nat) (fk : Nat → Int32) (fv : Nat → Int32) (nB : Nat) (ck : Nat → Int32) (cv : Nat → Int32) (cr : Nat → Int32) (M : List kE3) (C : List kE3) : Int32 → va_W → Prop := fun r w1 => r = nI (gat M C).length ∧ w1 = [(h, .inr (9, [.int zth, .int (nI nA), .int (nI nB), .ref ak, .ref av, .ref bk, .ref bv, .ref br, .ref a_s, .ref a_t, .int zsg, .ref g1, .ref g2, .ref g3, .long zl1, .long zl2, .long zl3, .long zl4, .int zpb, .ref pa, .ref ru, .ref tx, .int zln, .int zat, .int zrk, .int zrv, .int zre, .int zwr, .int zrm, .int zrs, .int zis, .int zss, .int zsc, .ref dk, .ref dv, .ref ek, .ref ev, .ref er, .ref es, .ref et])), (ak, .inl (g.2.1.1, 152, .inl fk)), (av, .inl (g.2.1.1, 152, .inl fv)), (bk, .inl (g.2.1.1, 24, .inl ck)), (bv, .inl (g.2.1.1, 24, .inl cv)), (br, .inl (g.2.1.1, 24, .inl cr))]
set_option maxHeartbeats 4000000 in
set_option maxRecDepth 100000 in
theorem c_X7_countEntries (l : Launch) (g : kG) (h : Nat) (zth : Int32) (zsg : Int32) (zl1 : Int64) (zl2 : Int64) (zl3 : Int64) (zl4 : Int64) (zpb : Int32) (zln : Int32) (zat : Int32) (zrk : Int32) (zrv : Int32) (zre : Int32) (zwr : Int32) (zrm : Int32) (zrs : Int32) (zis : Int32) (zss : Int32) (zsc : Int32) (ak : Nat) (av : Nat) (bk : Nat) (bv : Nat) (br : Nat) (a_s : Nat) (a_t : Nat) (g1 : Nat) (g2 : Nat) (g3 : Nat) (pa : Nat) (ru : Nat) (tx : Nat) (dk : Nat) (dv : Nat) (ek : Nat) (ev : Nat) (er : Nat) (es : Nat) (et : Nat) (nA : Nat) (fk : Nat → Int32) (fv : Nat → Int32) (nB : Nat) (ck : Nat → Int32) (cv : Nat → Int32) (cr : Nat → Int32) (M : List kE3) (C : List kE3) (hMM : kMM nA fk fv nB ck cv cr M C) : KI l yX7_countEntries wsX7_countEntries rm_X7_countEntries g [.ref h] [(h, .inr (9, [.int zth, .int (nI nA), .int (nI nB), .ref ak, .ref av, .ref bk, .ref bv, .ref br, .ref a_s, .ref a_t, .int zsg, .ref g1, .ref g2, .ref g3, .long zl1, .long zl2, .long zl3, .long zl4, .int zpb, .ref pa, .ref ru, .ref tx, .int zln, .int zat, .int zrk, .int zrv, .int zre, .int zwr, .int zrm, .int zrs, .int zis, .int zss, .int zsc, .ref dk, .ref dv, .ref ek, .ref ev, .ref er, .ref es, .ref et])), (ak, .inl (g.2.1.1, 152, .inl fk)), (av, .inl (g.2.1.1, 152, .inl fv)), (bk, .inl (g.2.1.1, 24, .inl ck)), (bv, .inl (g.2.1.1, 24, .inl cv)), (br, .inl (g.2.1.1, 24, .inl cr))] (p_X7_countEntries g h zth zsg zl1 zl2 zl3 zl4 zpb zln zat zrk zrv zre zwr zrm zrs zis zss zsc ak av bk bv br a_s a_t g1 g2 g3 pa ru tx dk dv ek ev er es et nA fk fv nB ck cv cr M C) := by
  refine kbodyI (cc := cX7_countEntries) (n := 4) (k := 6) (own := RX7) (plainFor_of_name (by decide)) rfl rfl rfl rfl ?_
  intro p e s m below meth cd A ls hcx
  obtain ⟨hx, hb, hRt, hml, hts, hown, hlk, hA, hP, hK, hD, hE, hS, hl⟩ := hcx
  have hl : lv_has ls 4 [(0, .ref h)] := hl
  obtain ⟨⟨hM, hC⟩, ⟨hnM, hnC⟩, ⟨hIM, hIC⟩, hlen, hrem⟩ := id hMM
  have hsM : kSo (EL nA fk fv fz0) := by rw [hM]; exact hIM.1
  have hsC : kSo (EL nB ck cv cr) := by rw [hC]; exact hIC.1
  have hnl : nA = M.length := by rw [← hM, EL_len]
  have hcl : nB = C.length := by rw [← hC, EL_len]
  refine lv_aload_n hx hb dX7_countEntries_0 rfl (lv_at hl 0 rfl) ?_
  refine va_get (D := g.1) (ci := 9) (v := .int (nI nA)) (C := RX7) (T := TX7) (N := 40) hx hb hts (by decide +kernel) hown hK hP 0 rfl rfl 1 (by decide) (hts (.fieldLink RX7 79 "LearnedIndexModel" "size" "I") (by decide +kernel)) (fun _ h9 => h9) rfl dX7_countEntries_1 ?_
  rw [show (nI nA : Int32) = kI ((M.length : Int) + (((EL nB ck cv cr).take 0).map (fun c => if c.2.2 = 1 then (-1 : Int) else if (lkp M c.1).isSome then 0 else 1)).sum) from by rw [hnl, kI_nI]; first | (congr 1; done) | simp]
  refine lv_istore_n (lv' := [(1, .int (kI ((M.length : Int) + (((EL nB ck cv cr).take 0).map (fun c => if c.2.2 = 1 then (-1 : Int) else if (lkp M c.1).isSome then 0 else 1)).sum))), (0, .ref h)]) hx hb dX7_countEntries_4 rfl hl (by decide) rfl (fun ls hl => ?_)
  refine lv_iconst (v := 0) hx hb dX7_countEntries_5 (by decide) ?_
  refine lv_istore_n (lv' := [(2, .int 0), (1, .int (kI ((M.length : Int) + (((EL nB ck cv cr).take 0).map (fun c => if c.2.2 = 1 then (-1 : Int) else if (lkp M c.1).isSome then 0 else 1)).sum))), (0, .ref h)]) hx hb dX7_countEntries_6 rfl hl (by decide) rfl (fun ls hl => ?_)
  have L7 : ∀ (n9 : Nat) (j : Nat) (H : Heap) (locs : List Loc) (ls : Array Slot), (j ≤ nB) → nB - j < n9 → va_P g.1 vwCl [(h, .inr (9, [.int zth, .int (nI nA), .int (nI nB), .ref ak, .ref av, .ref bk, .ref bv, .ref br, .ref a_s, .ref a_t, .int zsg, .ref g1, .ref g2, .ref g3, .long zl1, .long zl2, .long zl3, .long zl4, .int zpb, .ref pa, .ref ru, .ref tx, .int zln, .int zat, .int zrk, .int zrv, .int zre, .int zwr, .int zrm, .int zrs, .int zis, .int zss, .int zsc, .ref dk, .ref dv, .ref ek, .ref ev, .ref er, .ref es, .ref et])), (ak, .inl (g.2.1.1, 152, .inl fk)), (av, .inl (g.2.1.1, 152, .inl fv)), (bk, .inl (g.2.1.1, 24, .inl ck)), (bv, .inl (g.2.1.1, 24, .inl cv)), (br, .inl (g.2.1.1, 24, .inl cr))] H → va_D A [(h, .inr (9, [.int zth, .int (nI nA), .int (nI nB), .ref ak, .ref av, .ref bk, .ref bv, .ref br, .ref a_s, .ref a_t, .int zsg, .ref g1, .ref g2, .ref g3, .long zl1, .long zl2, .long zl3, .long zl4, .int zpb, .ref pa, .ref ru, .ref tx, .int zln, .int zat, .int zrk, .int zrv, .int zre, .int zwr, .int zrm, .int zrs, .int zis, .int zss, .int zsc, .ref dk, .ref dv, .ref ek, .ref ev, .ref er, .ref es, .ref et])), (ak, .inl (g.2.1.1, 152, .inl fk)), (av, .inl (g.2.1.1, 152, .inl fv)), (bk, .inl (g.2.1.1, 24, .inl ck)), (bv, .inl (g.2.1.1, 24, .inl cv)), (br, .inl (g.2.1.1, 24, .inl cr))] → va_S A s.heap H locs → lv_has ls 4 [(2, .int (nI j)), (1, .int (kI ((M.length : Int) + (((EL nB ck cv cr).take j).map (fun c => if c.2.2 = 1 then (-1 : Int) else if (lkp M c.1).isSome then 0 else 1)).sum))), (0, .ref h)] → W p l e rm_X7_countEntries s m ([.ref h] : List Value).toArray below meth cd H locs 0 0 (kQi g 6 A (p_X7_countEntries g h zth zsg zl1 zl2 zl3 zl4 zpb zln zat zrk zrv zre zwr zrm zrs zis zss zsc ak av bk bv br a_s a_t g1 g2 g3 pa ru tx dk dv ek ev er es et nA fk fv nB ck cv cr M C) below ([.ref h] : List Value).toArray s) (F0 m 7 ls []) := by
    intro n9
    induction n9 with
    | zero => intro j H locs ls hj h9; exact absurd h9 (Nat.not_lt_zero _)
    | succ n9 ih7 =>
      intro j H locs ls hj hn7 hP hD hS hl
      refine lv_iload_n hx hb dX7_countEntries_7 rfl (lv_at hl 0 rfl) ?_
      refine lv_aload_n hx hb dX7_countEntries_8 rfl (lv_at hl 2 rfl) ?_
      refine va_get (D := g.1) (ci := 9) (v := .int (nI nB)) (C := RX7) (T := TX7) (N := 40) hx hb hts (by decide +kernel) hown hK hP 0 rfl rfl 2 (by decide) (hts (.fieldLink RX7 82 "LearnedIndexModel" "changes" "I") (by decide +kernel)) (fun _ h9 => h9) rfl dX7_countEntries_9 ?_
      refine lv_icmp_ge (tgt := 66) hx hb dX7_countEntries_12 (by decide) (fun c_12 => ?_) (fun c_12 => ?_)
      · skip
        have hjn : nB ≤ j := kg (by omega) (by omega) c_12
        refine lv_iload_n hx hb dX7_countEntries_66 rfl (lv_at hl 1 rfl) ?_
        exact kreti hx hb hRt hlk hK hP hD hS rfl dX7_countEntries_67 (⟨by rw [List.take_of_length_le (by rw [EL_len]; exact hjn), hC]; have h9 := cntM_gat C M hIM.1 hIC.1 (kMM_z hMM) hrem; unfold cntM at h9; rw [h9, kI_nI], rfl⟩)
      · skip
        have hjn : j < nB := kl (by omega) (by omega) c_12
        have hge : (EL nB ck cv cr)[j]? = some (ck j, cv j, cr j) := by rw [EL_get, if_pos hjn]
        have hcj := hIC.2 (ck j, cv j, cr j) (by rw [← hC]; exact EL_mem hjn)
        have hts9 : ((EL nB ck cv cr).take (j + 1)).map (fun c => if c.2.2 = 1 then (-1 : Int) else if (lkp M c.1).isSome then 0 else 1) = ((EL nB ck cv cr).take j).map (fun c => if c.2.2 = 1 then (-1 : Int) else if (lkp M c.1).isSome then 0 else 1) ++ [(fun c => if c.2.2 = 1 then (-1 : Int) else if (lkp M c.1).isSome then 0 else 1) (ck j, cv j, cr j)] := by rw [List.take_add_one, hge, Option.toList_some, List.map_append]; rfl
        refine lv_aload_n hx hb dX7_countEntries_15 rfl (lv_at hl 2 rfl) ?_
        refine lv_aload_n hx hb dX7_countEntries_16 rfl (lv_at hl 2 rfl) ?_
        refine va_get (D := g.1) (ci := 9) (v := .ref bk) (C := RX7) (T := TX7) (N := 40) hx hb hts (by decide +kernel) hown hK hP 0 rfl rfl 5 (by decide) (hts (.fieldLink RX7 16 "LearnedIndexModel" "changedKeys" "[I") (by decide +kernel)) (fun _ h9 => h9) rfl dX7_countEntries_17 ?_
        refine lv_iload_n hx hb dX7_countEntries_20 rfl (lv_at hl 0 rfl) ?_
        refine va_iald hx hb hK hP 3 0 rfl rfl (vp_in_nI (show j < 24 by omega) (by omega)) dX7_countEntries_21 ?_
        rw [show (nI j : Int32).toNatClampNeg = j from nI_clamp (n := j) (by omega)]
        refine kcalli (wc := [(h, .inr (9, [.int zth, .int (nI nA), .int (nI nB), .ref ak, .ref av, .ref bk, .ref bv, .ref br, .ref a_s, .ref a_t, .int zsg, .ref g1, .ref g2, .ref g3, .long zl1, .long zl2, .long zl3, .long zl4, .int zpb, .ref pa, .ref ru, .ref tx, .int zln, .int zat, .int zrk, .int zrv, .int zre, .int zwr, .int zrm, .int zrs, .int zis, .int zss, .int zsc, .ref dk, .ref dv, .ref ek, .ref ev, .ref er, .ref es, .ref et])), (ak, .inl (g.2.1.1, 152, .inl fk))]) [0, 1] (va_runV (C := RX7) (As := [.int (ck j)]) (rest := []) ⟨hx, hb, hml, hown, hts⟩ ((c_X7_positionOf l g h zth (nI nB) zsg zl1 zl2 zl3 zl4 zpb zln zat zrk zrv zre zwr zrm zrs zis zss zsc ak av bk bv br a_s a_t g1 g2 g3 pa ru tx dk dv ek ev er es et nA fk fv (ck j) hsM (by omega)) _) (cwV 1 hts gX7_countEntries_X7_positionOf rfl rfl rfl (by decide +kernel) ⟨Nat.le_of_ble_eq_true rfl, Nat.le_of_ble_eq_true rfl⟩) (kpreV (wc := [(h, .inr (9, [.int zth, .int (nI nA), .int (nI nB), .ref ak, .ref av, .ref bk, .ref bv, .ref br, .ref a_s, .ref a_t, .int zsg, .ref g1, .ref g2, .ref g3, .long zl1, .long zl2, .long zl3, .long zl4, .int zpb, .ref pa, .ref ru, .ref tx, .int zln, .int zat, .int zrk, .int zrv, .int zre, .int zwr, .int zrm, .int zrs, .int zis, .int zss, .int zsc, .ref dk, .ref dv, .ref ek, .ref ev, .ref er, .ref es, .ref et])), (ak, .inl (g.2.1.1, 152, .inl fk))]) (ci := 9) hK hP hD hS hA hE [0, 1] rfl rfl rfl rfl) rfl rfl hl.1 rfl (lv_room (Nat.le_of_ble_eq_true rfl)) dX7_countEntries_22 ⟨Nat.zero_le _, Nat.zero_le _⟩) hP hD hS hA rfl (fun r_1 w_1 H locs hp hP hD hS => ?_)
        obtain ⟨im, rfl, hfm, rfl⟩ := hp
        have hP : va_P g.1 vwCl [(h, .inr (9, [.int zth, .int (nI nA), .int (nI nB), .ref ak, .ref av, .ref bk, .ref bv, .ref br, .ref a_s, .ref a_t, .int zsg, .ref g1, .ref g2, .ref g3, .long zl1, .long zl2, .long zl3, .long zl4, .int zpb, .ref pa, .ref ru, .ref tx, .int zln, .int zat, .int zrk, .int zrv, .int zre, .int zwr, .int zrm, .int zrs, .int zis, .int zss, .int zsc, .ref dk, .ref dv, .ref ek, .ref ev, .ref er, .ref es, .ref et])), (ak, .inl (g.2.1.1, 152, .inl fk)), (av, .inl (g.2.1.1, 152, .inl fv)), (bk, .inl (g.2.1.1, 24, .inl ck)), (bv, .inl (g.2.1.1, 24, .inl cv)), (br, .inl (g.2.1.1, 24, .inl cr))] H := hP
        have hD : va_D A [(h, .inr (9, [.int zth, .int (nI nA), .int (nI nB), .ref ak, .ref av, .ref bk, .ref bv, .ref br, .ref a_s, .ref a_t, .int zsg, .ref g1, .ref g2, .ref g3, .long zl1, .long zl2, .long zl3, .long zl4, .int zpb, .ref pa, .ref ru, .ref tx, .int zln, .int zat, .int zrk, .int zrv, .int zre, .int zwr, .int zrm, .int zrs, .int zis, .int zss, .int zsc, .ref dk, .ref dv, .ref ek, .ref ev, .ref er, .ref es, .ref et])), (ak, .inl (g.2.1.1, 152, .inl fk)), (av, .inl (g.2.1.1, 152, .inl fv)), (bk, .inl (g.2.1.1, 24, .inl ck)), (bv, .inl (g.2.1.1, 24, .inl cv)), (br, .inl (g.2.1.1, 24, .inl cr))] := hD
        have hkm := kfnd_lkp (by omega) hsM hfm
        rw [hM] at hkm
        refine lv_if_lt (tgt := 32) hx hb dX7_countEntries_25 (by decide) (fun c_25 => ?_) (fun c_25 => ?_)
        · skip
          have hms : ¬ (lkp M (ck j)).isSome = true := fun z => hkm.2.mpr z c_25
          refine lv_iconst (v := 0) hx hb dX7_countEntries_32 (by decide) ?_
          refine lv_istore_n (lv' := [(3, .int 0), (2, .int (nI j)), (1, .int (kI ((M.length : Int) + (((EL nB ck cv cr).take j).map (fun c => if c.2.2 = 1 then (-1 : Int) else if (lkp M c.1).isSome then 0 else 1)).sum))), (0, .ref h)]) hx hb dX7_countEntries_33 rfl hl (by decide) rfl (fun ls hl => ?_)
          refine lv_iload_n hx hb dX7_countEntries_34 rfl (lv_at hl 2 rfl) ?_
          refine lv_aload_n hx hb dX7_countEntries_35 rfl (lv_at hl 3 rfl) ?_
          refine va_get (D := g.1) (ci := 9) (v := .ref br) (C := RX7) (T := TX7) (N := 40) hx hb hts (by decide +kernel) hown hK hP 0 rfl rfl 7 (by decide) (hts (.fieldLink RX7 22 "LearnedIndexModel" "changedKinds" "[I") (by decide +kernel)) (fun _ h9 => h9) rfl dX7_countEntries_36 ?_
          refine lv_iload_n hx hb dX7_countEntries_39 rfl (lv_at hl 1 rfl) ?_
          refine va_iald hx hb hK hP 5 0 rfl rfl (vp_in_nI (show j < 24 by omega) (by omega)) dX7_countEntries_40 ?_
          rw [show (nI j : Int32).toNatClampNeg = j from nI_clamp (n := j) (by omega)]
          refine lv_iconst (v := 1) hx hb dX7_countEntries_41 (by decide) ?_
          refine lv_icmp_ne (tgt := 49) hx hb dX7_countEntries_42 (by decide) (fun c_42 => ?_) (fun c_42 => ?_)
          · skip
            have hr1 : ¬ cr j = 1 := c_42
            refine lv_iload_n hx hb dX7_countEntries_49 rfl (lv_at hl 0 rfl) ?_
            refine lv_if_eq (tgt := 57) hx hb dX7_countEntries_50 (by decide) (fun c_50 => ?_) (fun c_50 => absurd rfl c_50)
            refine lv_iconst (v := 1) hx hb dX7_countEntries_57 (by decide) ?_
            refine lv_iadd hx hb dX7_countEntries_58 ?_
            refine lv_istore_n (lv' := [(1, .int ((kI ((M.length : Int) + (((EL nB ck cv cr).take j).map (fun c => if c.2.2 = 1 then (-1 : Int) else if (lkp M c.1).isSome then 0 else 1)).sum)) + 1)), (3, .int 0), (2, .int (nI j)), (0, .ref h)]) hx hb dX7_countEntries_59 rfl hl (by decide) rfl (fun ls hl => ?_)
            rw [show ((kI ((M.length : Int) + (((EL nB ck cv cr).take j).map (fun c => if c.2.2 = 1 then (-1 : Int) else if (lkp M c.1).isSome then 0 else 1)).sum)) + 1 : Int32) = kI ((M.length : Int) + (((EL nB ck cv cr).take (j + 1)).map (fun c => if c.2.2 = 1 then (-1 : Int) else if (lkp M c.1).isSome then 0 else 1)).sum) from by rw [hts9, List.sum_append, show ([(fun c => if c.2.2 = 1 then (-1 : Int) else if (lkp M c.1).isSome then 0 else 1) (ck j, cv j, cr j)] : List Int).sum = 1 from by simp [hr1, hms], show (1 : Int32) = kI (1) from rfl, kI_add]; congr 1; omega] at hl
            have hl : lv_has ls 4 [(1, .int (kI ((M.length : Int) + (((EL nB ck cv cr).take (j + 1)).map (fun c => if c.2.2 = 1 then (-1 : Int) else if (lkp M c.1).isSome then 0 else 1)).sum))), (3, .int 0), (2, .int (nI j)), (0, .ref h)] := hl
            refine lv_iinc (v := nI (j + 1)) (lv' := [(2, .int (nI (j + 1))), (1, .int (kI ((M.length : Int) + (((EL nB ck cv cr).take (j + 1)).map (fun c => if c.2.2 = 1 then (-1 : Int) else if (lkp M c.1).isSome then 0 else 1)).sum))), (3, .int 0), (0, .ref h)]) hx hb dX7_countEntries_60 hl (k := 2) rfl (nI_1 j) (by decide) rfl (fun ls hl => ?_)
            refine lv_goto (tgt := 7) hx hb dX7_countEntries_63 (by decide) ?_
            exact ih7 (j + 1) _ _ ls hjn (by omega) hP hD hS (lv_sub hl [0, 1, 3] rfl)
          · skip
            have hr1 : cr j = 1 := c_42
            refine lv_iconst (v := (-1)) hx hb dX7_countEntries_45 (by decide) ?_
            refine lv_goto (tgt := 58) hx hb dX7_countEntries_46 (by decide) ?_
            refine lv_iadd hx hb dX7_countEntries_58 ?_
            refine lv_istore_n (lv' := [(1, .int ((kI ((M.length : Int) + (((EL nB ck cv cr).take j).map (fun c => if c.2.2 = 1 then (-1 : Int) else if (lkp M c.1).isSome then 0 else 1)).sum)) + (-1))), (3, .int 0), (2, .int (nI j)), (0, .ref h)]) hx hb dX7_countEntries_59 rfl hl (by decide) rfl (fun ls hl => ?_)
            rw [show ((kI ((M.length : Int) + (((EL nB ck cv cr).take j).map (fun c => if c.2.2 = 1 then (-1 : Int) else if (lkp M c.1).isSome then 0 else 1)).sum)) + (-1) : Int32) = kI ((M.length : Int) + (((EL nB ck cv cr).take (j + 1)).map (fun c => if c.2.2 = 1 then (-1 : Int) else if (lkp M c.1).isSome then 0 else 1)).sum) from by rw [hts9, List.sum_append, show ([(fun c => if c.2.2 = 1 then (-1 : Int) else if (lkp M c.1).isSome then 0 else 1) (ck j, cv j, cr j)] : List Int).sum = -1 from by simp [hr1], show ((-1) : Int32) = kI (-1) from rfl, kI_add]; congr 1; omega] at hl
            have hl : lv_has ls 4 [(1, .int (kI ((M.length : Int) + (((EL nB ck cv cr).take (j + 1)).map (fun c => if c.2.2 = 1 then (-1 : Int) else if (lkp M c.1).isSome then 0 else 1)).sum))), (3, .int 0), (2, .int (nI j)), (0, .ref h)] := hl
            refine lv_iinc (v := nI (j + 1)) (lv' := [(2, .int (nI (j + 1))), (1, .int (kI ((M.length : Int) + (((EL nB ck cv cr).take (j + 1)).map (fun c => if c.2.2 = 1 then (-1 : Int) else if (lkp M c.1).isSome then 0 else 1)).sum))), (3, .int 0), (0, .ref h)]) hx hb dX7_countEntries_60 hl (k := 2) rfl (nI_1 j) (by decide) rfl (fun ls hl => ?_)
            refine lv_goto (tgt := 7) hx hb dX7_countEntries_63 (by decide) ?_
            exact ih7 (j + 1) _ _ ls hjn (by omega) hP hD hS (lv_sub hl [0, 1, 3] rfl)
        · skip
          have hms : (lkp M (ck j)).isSome = true := hkm.2.mp c_25
          refine lv_iconst (v := 1) hx hb dX7_countEntries_28 (by decide) ?_
          refine lv_goto (tgt := 33) hx hb dX7_countEntries_29 (by decide) ?_
          refine lv_istore_n (lv' := [(3, .int 1), (2, .int (nI j)), (1, .int (kI ((M.length : Int) + (((EL nB ck cv cr).take j).map (fun c => if c.2.2 = 1 then (-1 : Int) else if (lkp M c.1).isSome then 0 else 1)).sum))), (0, .ref h)]) hx hb dX7_countEntries_33 rfl hl (by decide) rfl (fun ls hl => ?_)
          refine lv_iload_n hx hb dX7_countEntries_34 rfl (lv_at hl 2 rfl) ?_
          refine lv_aload_n hx hb dX7_countEntries_35 rfl (lv_at hl 3 rfl) ?_
          refine va_get (D := g.1) (ci := 9) (v := .ref br) (C := RX7) (T := TX7) (N := 40) hx hb hts (by decide +kernel) hown hK hP 0 rfl rfl 7 (by decide) (hts (.fieldLink RX7 22 "LearnedIndexModel" "changedKinds" "[I") (by decide +kernel)) (fun _ h9 => h9) rfl dX7_countEntries_36 ?_
          refine lv_iload_n hx hb dX7_countEntries_39 rfl (lv_at hl 1 rfl) ?_
          refine va_iald hx hb hK hP 5 0 rfl rfl (vp_in_nI (show j < 24 by omega) (by omega)) dX7_countEntries_40 ?_
          rw [show (nI j : Int32).toNatClampNeg = j from nI_clamp (n := j) (by omega)]
          refine lv_iconst (v := 1) hx hb dX7_countEntries_41 (by decide) ?_
          refine lv_icmp_ne (tgt := 49) hx hb dX7_countEntries_42 (by decide) (fun c_42 => ?_) (fun c_42 => ?_)
          · skip
            have hr1 : ¬ cr j = 1 := c_42
            refine lv_iload_n hx hb dX7_countEntries_49 rfl (lv_at hl 0 rfl) ?_
            refine lv_if_eq (tgt := 57) hx hb dX7_countEntries_50 (by decide) (fun c_50 => absurd c_50 (by decide)) (fun c_50 => ?_)
            refine lv_iconst (v := 0) hx hb dX7_countEntries_53 (by decide) ?_
            refine lv_goto (tgt := 58) hx hb dX7_countEntries_54 (by decide) ?_
            refine lv_iadd hx hb dX7_countEntries_58 ?_
            refine lv_istore_n (lv' := [(1, .int ((kI ((M.length : Int) + (((EL nB ck cv cr).take j).map (fun c => if c.2.2 = 1 then (-1 : Int) else if (lkp M c.1).isSome then 0 else 1)).sum)) + 0)), (3, .int 1), (2, .int (nI j)), (0, .ref h)]) hx hb dX7_countEntries_59 rfl hl (by decide) rfl (fun ls hl => ?_)
            rw [show ((kI ((M.length : Int) + (((EL nB ck cv cr).take j).map (fun c => if c.2.2 = 1 then (-1 : Int) else if (lkp M c.1).isSome then 0 else 1)).sum)) + 0 : Int32) = kI ((M.length : Int) + (((EL nB ck cv cr).take (j + 1)).map (fun c => if c.2.2 = 1 then (-1 : Int) else if (lkp M c.1).isSome then 0 else 1)).sum) from by rw [hts9, List.sum_append, show ([(fun c => if c.2.2 = 1 then (-1 : Int) else if (lkp M c.1).isSome then 0 else 1) (ck j, cv j, cr j)] : List Int).sum = 0 from by simp [hr1, hms], show (0 : Int32) = kI (0) from rfl, kI_add]; congr 1; omega] at hl
            have hl : lv_has ls 4 [(1, .int (kI ((M.length : Int) + (((EL nB ck cv cr).take (j + 1)).map (fun c => if c.2.2 = 1 then (-1 : Int) else if (lkp M c.1).isSome then 0 else 1)).sum))), (3, .int 1), (2, .int (nI j)), (0, .ref h)] := hl
            refine lv_iinc (v := nI (j + 1)) (lv' := [(2, .int (nI (j + 1))), (1, .int (kI ((M.length : Int) + (((EL nB ck cv cr).take (j + 1)).map (fun c => if c.2.2 = 1 then (-1 : Int) else if (lkp M c.1).isSome then 0 else 1)).sum))), (3, .int 1), (0, .ref h)]) hx hb dX7_countEntries_60 hl (k := 2) rfl (nI_1 j) (by decide) rfl (fun ls hl => ?_)
            refine lv_goto (tgt := 7) hx hb dX7_countEntries_63 (by decide) ?_
            exact ih7 (j + 1) _ _ ls hjn (by omega) hP hD hS (lv_sub hl [0, 1, 3] rfl)
          · skip
            have hr1 : cr j = 1 := c_42
            refine lv_iconst (v := (-1)) hx hb dX7_countEntries_45 (by decide) ?_
            refine lv_goto (tgt := 58) hx hb dX7_countEntries_46 (by decide) ?_
            refine lv_iadd hx hb dX7_countEntries_58 ?_
            refine lv_istore_n (lv' := [(1, .int ((kI ((M.length : Int) + (((EL nB ck cv cr).take j).map (fun c => if c.2.2 = 1 then (-1 : Int) else if (lkp M c.1).isSome then 0 else 1)).sum)) + (-1))), (3, .int 1), (2, .int (nI j)), (0, .ref h)]) hx hb dX7_countEntries_59 rfl hl (by decide) rfl (fun ls hl => ?_)
            rw [show ((kI ((M.length : Int) + (((EL nB ck cv cr).take j).map (fun c => if c.2.2 = 1 then (-1 : Int) else if (lkp M c.1).isSome then 0 else 1)).sum)) + (-1) : Int32) = kI ((M.length : Int) + (((EL nB ck cv cr).take (j + 1)).map (fun c => if c.2.2 = 1 then (-1 : Int) else if (lkp M c.1).isSome then 0 else 1)).sum) from by rw [hts9, List.sum_append, show ([(fun c => if c.2.2 = 1 then (-1 : Int) else if (lkp M c.1).isSome then 0 else 1) (ck j, cv j, cr j)] : List Int).sum = -1 from by simp [hr1], show ((-1) : Int32) = kI (-1) from rfl, kI_add]; congr 1; omega] at hl
            have hl : lv_has ls 4 [(1, .int (kI ((M.length : Int) + (((EL nB ck cv cr).take (j + 1)).map (fun c => if c.2.2 = 1 then (-1 : Int) else if (lkp M c.1).isSome then 0 else 1)).sum))), (3, .int 1), (2, .int (nI j)), (0, .ref h)] := hl
            refine lv_iinc (v := nI (j + 1)) (lv' := [(2, .int (nI (j + 1))), (1, .int (kI ((M.length : Int) + (((EL nB ck cv cr).take (j + 1)).map (fun c => if c.2.2 = 1 then (-1 : Int) else if (lkp M c.1).isSome then 0 else 1)).sum))), (3, .int 1), (0, .ref h)]) hx hb dX7_countEntries_60 hl (k := 2) rfl (nI_1 j) (by decide) rfl (fun ls hl => ?_)
            refine lv_goto (tgt := 7) hx hb dX7_countEntries_63 (by decide) ?_
            exact ih7 (j + 1) _ _ ls hjn (by omega) hP hD hS (lv_sub hl [0, 1, 3] rfl)
  exact L7 _ 0 _ _ ls (Nat.zero_le _) (Nat.lt_succ_self _) hP hD hS (lv_sub hl [0, 1, 2] rfl)
