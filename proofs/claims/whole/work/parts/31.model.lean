/-! ===== the model: changes put in and taken out, the main part's entries put in and taken out, counts ===== -/
theorem kshl_fz (i n : Nat) : kshl fz0 i n = fz0 := by funext j; simp [kshl, fz0]
theorem kshr_fz (i n : Nat) : kshr fz0 i n = fz0 := by funext j; simp [kshr, fz0]
theorem upd_fz (i : Nat) : upd fz0 i 0 = fz0 := by funext j; simp [upd, fz0]
theorem kshr_t {f : Nat → Int32} {i n : Nat} (hi : 0 < i) (hn : i ≤ n) : upd (kshr f i n) i (kshr f i n (i - 1)) = kshr f (i - 1) n := by
  funext j
  by_cases h : j = i
  · subst h
    simp only [upd, kshr, ↓reduceIte]
    rw [if_neg (by omega), if_pos (by omega)]
  · simp only [upd, kshr]
    rw [if_neg h]
    by_cases h2 : i < j ∧ j ≤ n
    · rw [if_pos h2, if_pos (by omega)]
    · rw [if_neg h2, if_neg (by omega)]
theorem kshl_t {f : Nat → Int32} {i k : Nat} (hk : i ≤ k) : upd (kshl f i k) k (kshl f i k (k + 1)) = kshl f i (k + 1) := by
  funext j
  by_cases h : j = k
  · subst h
    simp only [upd, kshl, ↓reduceIte]
    rw [if_neg (by omega), if_pos (by omega)]
  · simp only [upd, kshl]
    rw [if_neg h]
    by_cases h2 : i ≤ j ∧ j < k
    · rw [if_pos h2, if_pos (by omega)]
    · rw [if_neg h2, if_neg (by omega)]
/-- the place found from the end, of a list in which the key isn't -/
theorem kfst_end {n : Nat} {fk fv fr : Nat → Int32} {x : Int32} {i i0 : Nat} (hs : kSo (EL n fk fv fr)) (hf : kfst n fk x i0) (hi : i ≤ n) (ha : ∀ j, i ≤ j → j < n → x < fk j) (hb : i = 0 ∨ ¬ x < fk (i - 1)) (hno : ∀ j, j < n → ¬ fk j = x) : i = i0 := by
  rcases Nat.lt_trichotomy i i0 with h | h | h
  · have h1 := hf.2.1 i h
    have h2 := ha i (Nat.le_refl i) (by have := hf.1; omega)
    exact absurd (Int32.lt_trans h1 h2) Int32.lt_irrefl
  · exact h
  · exfalso
    rcases hb with hb | hb
    · omega
    · have h3 : i - 1 < n := by omega
      have h4 : fk (i - 1) < x := by
        rcases Int32.lt_or_eq_of_le (Int32.not_lt.mp hb) with q | q
        · exact q
        · exact absurd q (hno _ h3)
      have h5 : ¬ fk i0 < x := hf.2.2 (by omega)
      by_cases e : i0 = i - 1
      · rw [e] at h5; exact h5 h4
      · exact h5 (Int32.lt_trans (EL_lt hs (show i0 < i - 1 by omega) h3) h4)
theorem kfnd_lt {n : Nat} {f : Nat → Int32} {x : Int32} {i : Nat} (hn : n < 1000) (h : ¬ 0 ≤ kfnd n f x i) : ¬ (i < n ∧ f i = x) := by
  intro z
  rw [kfnd, if_pos z] at h
  exact h (nI_pos' (by omega))
theorem kfnd_ge {n : Nat} {f : Nat → Int32} {x : Int32} {i : Nat} (h : 0 ≤ kfnd n f x i) : i < n ∧ f i = x := by
  refine Decidable.byContradiction (fun z => ?_)
  rw [kfnd, if_neg z] at h
  exact absurd h (by decide)
theorem kfst_no {n : Nat} {fk fv fr : Nat → Int32} {x : Int32} {i : Nat} (hs : kSo (EL n fk fv fr)) (hf : kfst n fk x i) (h : ¬ (i < n ∧ fk i = x)) : ∀ j, j < n → ¬ fk j = x := by
  intro j hj e
  have h2 := (kfst_at hs hj).1
  rw [e] at h2
  have h3 := kfst_uniq hf h2
  subst h3
  exact h ⟨hj, e⟩

set_option maxRecDepth 20000 in
theorem ggX7_putChange_X7_changeOf : GoodIn wsX7_putChange wsX7_changeOf := goodIn_ca (goodIn_r _ [9, 1, 2, 10, 11, 12, 13, 14, 15, 16, 17, 18, 19, 20, 21, 22, 23, 24, 25, 26, 27, 28, 29, 30, 31, 32, 33, 34, 35, 36, 37, 38, 39, 40, 41, 42, 43, 44, 45, 46, 47, 48, 49] (by decide +kernel) (by decide +kernel)) (goodIn_sub (fun _ h => List.mem_cons_of_mem _ (List.mem_append_right _ h)) (by decide +kernel))
set_option maxRecDepth 20000 in
theorem gX7_putChange_X7_changeOf : GoodIn wsX7_putChange (wsV RX7 85 RX7 yX7_changeOf wsX7_changeOf) := goodIn_app (goodIn_of _ (by decide +kernel)) ggX7_putChange_X7_changeOf
theorem dX7_putChange_0 : decode cX7_putChange 0 = .ok (.aload_n 0, 1) := by decide +kernel
theorem dX7_putChange_1 : decode cX7_putChange 1 = .ok (.iload_n 1, 1) := by decide +kernel
theorem dX7_putChange_2 : decode cX7_putChange 2 = .ok (.invokevirtual 85, 3) := by decide +kernel
theorem dX7_putChange_5 : decode cX7_putChange 5 = .ok (.istore 4, 2) := by decide +kernel
theorem dX7_putChange_7 : decode cX7_putChange 7 = .ok (.iload 4, 2) := by decide +kernel
theorem dX7_putChange_9 : decode cX7_putChange 9 = .ok (.ifCond .ge 91, 3) := by decide +kernel
theorem dX7_putChange_12 : decode cX7_putChange 12 = .ok (.aload_n 0, 1) := by decide +kernel
theorem dX7_putChange_13 : decode cX7_putChange 13 = .ok (.getfield 82, 3) := by decide +kernel
theorem dX7_putChange_16 : decode cX7_putChange 16 = .ok (.istore 4, 2) := by decide +kernel
theorem dX7_putChange_18 : decode cX7_putChange 18 = .ok (.iload 4, 2) := by decide +kernel
theorem dX7_putChange_20 : decode cX7_putChange 20 = .ok (.ifCond .le 70, 3) := by decide +kernel
theorem dX7_putChange_23 : decode cX7_putChange 23 = .ok (.aload_n 0, 1) := by decide +kernel
theorem dX7_putChange_24 : decode cX7_putChange 24 = .ok (.getfield 16, 3) := by decide +kernel
theorem dX7_putChange_27 : decode cX7_putChange 27 = .ok (.iload 4, 2) := by decide +kernel
theorem dX7_putChange_29 : decode cX7_putChange 29 = .ok (.iconst 1, 1) := by decide +kernel
theorem dX7_putChange_30 : decode cX7_putChange 30 = .ok (.isub, 1) := by decide +kernel
theorem dX7_putChange_31 : decode cX7_putChange 31 = .ok (.iaload, 1) := by decide +kernel
theorem dX7_putChange_32 : decode cX7_putChange 32 = .ok (.iload_n 1, 1) := by decide +kernel
theorem dX7_putChange_33 : decode cX7_putChange 33 = .ok (.if_icmp .le 57, 3) := by decide +kernel
theorem dX7_putChange_36 : decode cX7_putChange 36 = .ok (.aload_n 0, 1) := by decide +kernel
theorem dX7_putChange_37 : decode cX7_putChange 37 = .ok (.getfield 16, 3) := by decide +kernel
theorem dX7_putChange_40 : decode cX7_putChange 40 = .ok (.iload 4, 2) := by decide +kernel
theorem dX7_putChange_42 : decode cX7_putChange 42 = .ok (.aload_n 0, 1) := by decide +kernel
theorem dX7_putChange_43 : decode cX7_putChange 43 = .ok (.getfield 16, 3) := by decide +kernel
theorem dX7_putChange_46 : decode cX7_putChange 46 = .ok (.iload 4, 2) := by decide +kernel
theorem dX7_putChange_48 : decode cX7_putChange 48 = .ok (.iconst 1, 1) := by decide +kernel
theorem dX7_putChange_49 : decode cX7_putChange 49 = .ok (.isub, 1) := by decide +kernel
theorem dX7_putChange_50 : decode cX7_putChange 50 = .ok (.iaload, 1) := by decide +kernel
theorem dX7_putChange_51 : decode cX7_putChange 51 = .ok (.iastore, 1) := by decide +kernel
theorem dX7_putChange_52 : decode cX7_putChange 52 = .ok (.aload_n 0, 1) := by decide +kernel
theorem dX7_putChange_53 : decode cX7_putChange 53 = .ok (.getfield 22, 3) := by decide +kernel
theorem dX7_putChange_56 : decode cX7_putChange 56 = .ok (.iload 4, 2) := by decide +kernel
theorem dX7_putChange_58 : decode cX7_putChange 58 = .ok (.aload_n 0, 1) := by decide +kernel
theorem dX7_putChange_59 : decode cX7_putChange 59 = .ok (.getfield 22, 3) := by decide +kernel
theorem dX7_putChange_62 : decode cX7_putChange 62 = .ok (.iload 4, 2) := by decide +kernel
theorem dX7_putChange_64 : decode cX7_putChange 64 = .ok (.iconst 1, 1) := by decide +kernel
theorem dX7_putChange_65 : decode cX7_putChange 65 = .ok (.isub, 1) := by decide +kernel
theorem dX7_putChange_66 : decode cX7_putChange 66 = .ok (.iaload, 1) := by decide +kernel
theorem dX7_putChange_67 : decode cX7_putChange 67 = .ok (.iastore, 1) := by decide +kernel
theorem dX7_putChange_68 : decode cX7_putChange 68 = .ok (.aload_n 0, 1) := by decide +kernel
theorem dX7_putChange_69 : decode cX7_putChange 69 = .ok (.getfield 19, 3) := by decide +kernel
theorem dX7_putChange_72 : decode cX7_putChange 72 = .ok (.iload 4, 2) := by decide +kernel
theorem dX7_putChange_74 : decode cX7_putChange 74 = .ok (.aload_n 0, 1) := by decide +kernel
theorem dX7_putChange_75 : decode cX7_putChange 75 = .ok (.getfield 19, 3) := by decide +kernel
theorem dX7_putChange_78 : decode cX7_putChange 78 = .ok (.iload 4, 2) := by decide +kernel
theorem dX7_putChange_80 : decode cX7_putChange 80 = .ok (.iconst 1, 1) := by decide +kernel
theorem dX7_putChange_81 : decode cX7_putChange 81 = .ok (.isub, 1) := by decide +kernel
theorem dX7_putChange_82 : decode cX7_putChange 82 = .ok (.iaload, 1) := by decide +kernel
theorem dX7_putChange_83 : decode cX7_putChange 83 = .ok (.iastore, 1) := by decide +kernel
theorem dX7_putChange_84 : decode cX7_putChange 84 = .ok (.iinc 4 (-1), 3) := by decide +kernel
theorem dX7_putChange_87 : decode cX7_putChange 87 = .ok (.goto (-69), 3) := by decide +kernel
theorem dX7_putChange_90 : decode cX7_putChange 90 = .ok (.aload_n 0, 1) := by decide +kernel
theorem dX7_putChange_91 : decode cX7_putChange 91 = .ok (.dup, 1) := by decide +kernel
theorem dX7_putChange_92 : decode cX7_putChange 92 = .ok (.getfield 82, 3) := by decide +kernel
theorem dX7_putChange_95 : decode cX7_putChange 95 = .ok (.iconst 1, 1) := by decide +kernel
theorem dX7_putChange_96 : decode cX7_putChange 96 = .ok (.iadd, 1) := by decide +kernel
theorem dX7_putChange_97 : decode cX7_putChange 97 = .ok (.putfield 82, 3) := by decide +kernel
theorem dX7_putChange_100 : decode cX7_putChange 100 = .ok (.aload_n 0, 1) := by decide +kernel
theorem dX7_putChange_101 : decode cX7_putChange 101 = .ok (.getfield 16, 3) := by decide +kernel
theorem dX7_putChange_104 : decode cX7_putChange 104 = .ok (.iload 4, 2) := by decide +kernel
theorem dX7_putChange_106 : decode cX7_putChange 106 = .ok (.iload_n 1, 1) := by decide +kernel
theorem dX7_putChange_107 : decode cX7_putChange 107 = .ok (.iastore, 1) := by decide +kernel
theorem dX7_putChange_108 : decode cX7_putChange 108 = .ok (.aload_n 0, 1) := by decide +kernel
theorem dX7_putChange_109 : decode cX7_putChange 109 = .ok (.getfield 22, 3) := by decide +kernel
theorem dX7_putChange_112 : decode cX7_putChange 112 = .ok (.iload 4, 2) := by decide +kernel
theorem dX7_putChange_114 : decode cX7_putChange 114 = .ok (.iload_n 2, 1) := by decide +kernel
theorem dX7_putChange_115 : decode cX7_putChange 115 = .ok (.iastore, 1) := by decide +kernel
theorem dX7_putChange_116 : decode cX7_putChange 116 = .ok (.aload_n 0, 1) := by decide +kernel
theorem dX7_putChange_117 : decode cX7_putChange 117 = .ok (.getfield 19, 3) := by decide +kernel
theorem dX7_putChange_120 : decode cX7_putChange 120 = .ok (.iload 4, 2) := by decide +kernel
theorem dX7_putChange_122 : decode cX7_putChange 122 = .ok (.iload_n 3, 1) := by decide +kernel
theorem dX7_putChange_123 : decode cX7_putChange 123 = .ok (.iastore, 1) := by decide +kernel
theorem dX7_putChange_124 : decode cX7_putChange 124 = .ok (.return_, 1) := by decide +kernel
def rm_X7_putChange : Room := { frames := 1, cells := 0, slots := 0, locals := 22 }
abbrev p_X7_putChange (g : kG) (h : Nat) (zth : Int32) (zsz : Int32) (zsg : Int32) (zl1 : Int64) (zl2 : Int64) (zl3 : Int64) (zl4 : Int64) (zpb : Int32) (zln : Int32) (zat : Int32) (zrk : Int32) (zrv : Int32) (zre : Int32) (zwr : Int32) (zrm : Int32) (zrs : Int32) (zis : Int32) (zss : Int32) (zsc : Int32) (ak : Nat) (av : Nat) (bk : Nat) (bv : Nat) (br : Nat) (a_s : Nat) (a_t : Nat) (g1 : Nat) (g2 : Nat) (g3 : Nat) (pa : Nat) (ru : Nat) (tx : Nat) (dk : Nat) (dv : Nat) (ek : Nat) (ev : Nat) (er : Nat) (es : Nat) (et : Nat) (nB : Nat) (ck : Nat → Int32) (cv : Nat → Int32) (cr : Nat → Int32) (x : Int32) (b : Int32) (v : Int32) : va_W → Prop := fun w1 => ∃ (n2 : Nat), ∃ (ck2 : Nat → Int32), ∃ (cv2 : Nat → Int32), ∃ (cr2 : Nat → Int32), (EL n2 ck2 cv2 cr2 = kput (x, v, b) (EL nB ck cv cr)) ∧ w1 = [(h, .inr (9, [.int zth, .int zsz, .int (nI n2), .ref ak, .ref av, .ref bk, .ref bv, .ref br, .ref a_s, .ref a_t, .int zsg, .ref g1, .ref g2, .ref g3, .long zl1, .long zl2, .long zl3, .long zl4, .int zpb, .ref pa, .ref ru, .ref tx, .int zln, .int zat, .int zrk, .int zrv, .int zre, .int zwr, .int zrm, .int zrs, .int zis, .int zss, .int zsc, .ref dk, .ref dv, .ref ek, .ref ev, .ref er, .ref es, .ref et])), (bk, .inl (g.2.1.1, 24, .inl ck2)), (bv, .inl (g.2.1.1, 24, .inl cv2)), (br, .inl (g.2.1.1, 24, .inl cr2))]
set_option maxHeartbeats 4000000 in
set_option maxRecDepth 100000 in
theorem c_X7_putChange (l : Launch) (g : kG) (h : Nat) (zth : Int32) (zsz : Int32) (zsg : Int32) (zl1 : Int64) (zl2 : Int64) (zl3 : Int64) (zl4 : Int64) (zpb : Int32) (zln : Int32) (zat : Int32) (zrk : Int32) (zrv : Int32) (zre : Int32) (zwr : Int32) (zrm : Int32) (zrs : Int32) (zis : Int32) (zss : Int32) (zsc : Int32) (ak : Nat) (av : Nat) (bk : Nat) (bv : Nat) (br : Nat) (a_s : Nat) (a_t : Nat) (g1 : Nat) (g2 : Nat) (g3 : Nat) (pa : Nat) (ru : Nat) (tx : Nat) (dk : Nat) (dv : Nat) (ek : Nat) (ev : Nat) (er : Nat) (es : Nat) (et : Nat) (nB : Nat) (ck : Nat → Int32) (cv : Nat → Int32) (cr : Nat → Int32) (x : Int32) (b : Int32) (v : Int32) (hso : kSo (EL nB ck cv cr)) (hn : nB ≤ 22) : KV l yX7_putChange wsX7_putChange rm_X7_putChange g [.ref h, .int x, .int b, .int v] [(h, .inr (9, [.int zth, .int zsz, .int (nI nB), .ref ak, .ref av, .ref bk, .ref bv, .ref br, .ref a_s, .ref a_t, .int zsg, .ref g1, .ref g2, .ref g3, .long zl1, .long zl2, .long zl3, .long zl4, .int zpb, .ref pa, .ref ru, .ref tx, .int zln, .int zat, .int zrk, .int zrv, .int zre, .int zwr, .int zrm, .int zrs, .int zis, .int zss, .int zsc, .ref dk, .ref dv, .ref ek, .ref ev, .ref er, .ref es, .ref et])), (bk, .inl (g.2.1.1, 24, .inl ck)), (bv, .inl (g.2.1.1, 24, .inl cv)), (br, .inl (g.2.1.1, 24, .inl cr))] (p_X7_putChange g h zth zsz zsg zl1 zl2 zl3 zl4 zpb zln zat zrk zrv zre zwr zrm zrs zis zss zsc ak av bk bv br a_s a_t g1 g2 g3 pa ru tx dk dv ek ev er es et nB ck cv cr x b v) := by
  refine kbodyV (cc := cX7_putChange) (n := 5) (k := 4) (own := RX7) (plainFor_of_name (by decide)) rfl rfl rfl rfl ?_
  intro p e s m below meth cd A ls hcx
  obtain ⟨hx, hb, hRt, hml, hts, hown, hlk, hA, hP, hK, hD, hE, hS, hl⟩ := hcx
  have hl : lv_has ls 5 [(0, .ref h), (1, .int x), (2, .int b), (3, .int v)] := hl
  refine lv_aload_n hx hb dX7_putChange_0 rfl (lv_at hl 0 rfl) ?_
  refine lv_iload_n hx hb dX7_putChange_1 rfl (lv_at hl 1 rfl) ?_
  refine kcalli (wc := [(h, .inr (9, [.int zth, .int zsz, .int (nI nB), .ref ak, .ref av, .ref bk, .ref bv, .ref br, .ref a_s, .ref a_t, .int zsg, .ref g1, .ref g2, .ref g3, .long zl1, .long zl2, .long zl3, .long zl4, .int zpb, .ref pa, .ref ru, .ref tx, .int zln, .int zat, .int zrk, .int zrv, .int zre, .int zwr, .int zrm, .int zrs, .int zis, .int zss, .int zsc, .ref dk, .ref dv, .ref ek, .ref ev, .ref er, .ref es, .ref et])), (bk, .inl (g.2.1.1, 24, .inl ck))]) [0, 1] (va_runV (C := RX7) (As := [.int x]) (rest := []) ⟨hx, hb, hml, hown, hts⟩ ((c_X7_changeOf l g h zth zsz zsg zl1 zl2 zl3 zl4 zpb zln zat zrk zrv zre zwr zrm zrs zis zss zsc ak av bk bv br a_s a_t g1 g2 g3 pa ru tx dk dv ek ev er es et nB ck cv cr x hso (by omega)) _) (cwV 1 hts gX7_putChange_X7_changeOf rfl rfl rfl (by decide +kernel) ⟨Nat.le_of_ble_eq_true rfl, Nat.le_of_ble_eq_true rfl⟩) (kpreV (wc := [(h, .inr (9, [.int zth, .int zsz, .int (nI nB), .ref ak, .ref av, .ref bk, .ref bv, .ref br, .ref a_s, .ref a_t, .int zsg, .ref g1, .ref g2, .ref g3, .long zl1, .long zl2, .long zl3, .long zl4, .int zpb, .ref pa, .ref ru, .ref tx, .int zln, .int zat, .int zrk, .int zrv, .int zre, .int zwr, .int zrm, .int zrs, .int zis, .int zss, .int zsc, .ref dk, .ref dv, .ref ek, .ref ev, .ref er, .ref es, .ref et])), (bk, .inl (g.2.1.1, 24, .inl ck))]) (ci := 9) hK hP hD hS hA hE [0, 1] rfl rfl rfl rfl) rfl rfl hl.1 rfl (lv_room (Nat.le_of_ble_eq_true rfl)) dX7_putChange_2 ⟨Nat.zero_le _, Nat.zero_le _⟩) hP hD hS hA rfl (fun r_1 w_1 H locs hp hP hD hS => ?_)
  obtain ⟨ic, rfl, hfc, rfl⟩ := hp
  have hP : va_P g.1 vwCl [(h, .inr (9, [.int zth, .int zsz, .int (nI nB), .ref ak, .ref av, .ref bk, .ref bv, .ref br, .ref a_s, .ref a_t, .int zsg, .ref g1, .ref g2, .ref g3, .long zl1, .long zl2, .long zl3, .long zl4, .int zpb, .ref pa, .ref ru, .ref tx, .int zln, .int zat, .int zrk, .int zrv, .int zre, .int zwr, .int zrm, .int zrs, .int zis, .int zss, .int zsc, .ref dk, .ref dv, .ref ek, .ref ev, .ref er, .ref es, .ref et])), (bk, .inl (g.2.1.1, 24, .inl ck)), (bv, .inl (g.2.1.1, 24, .inl cv)), (br, .inl (g.2.1.1, 24, .inl cr))] H := hP
  have hD : va_D A [(h, .inr (9, [.int zth, .int zsz, .int (nI nB), .ref ak, .ref av, .ref bk, .ref bv, .ref br, .ref a_s, .ref a_t, .int zsg, .ref g1, .ref g2, .ref g3, .long zl1, .long zl2, .long zl3, .long zl4, .int zpb, .ref pa, .ref ru, .ref tx, .int zln, .int zat, .int zrk, .int zrv, .int zre, .int zwr, .int zrm, .int zrs, .int zis, .int zss, .int zsc, .ref dk, .ref dv, .ref ek, .ref ev, .ref er, .ref es, .ref et])), (bk, .inl (g.2.1.1, 24, .inl ck)), (bv, .inl (g.2.1.1, 24, .inl cv)), (br, .inl (g.2.1.1, 24, .inl cr))] := hD
  refine lv_istore (lv' := [(4, .int (kfnd nB ck x ic)), (0, .ref h), (1, .int x), (2, .int b), (3, .int v)]) hx hb dX7_putChange_5 hl (by decide) rfl (fun ls hl => ?_)
  refine lv_iload hx hb dX7_putChange_7 (lv_at hl 0 rfl) ?_
  refine lv_if_ge (tgt := 100) hx hb dX7_putChange_9 (by decide) (fun c_9 => ?_) (fun c_9 => ?_)
  · skip
    have hcf := kfnd_ge c_9
    rw [show (kfnd nB ck x ic : Int32) = nI ic from by rw [kfnd, if_pos hcf]] at hl
    have hl : lv_has ls 5 [(4, .int (nI ic)), (0, .ref h), (1, .int x), (2, .int b), (3, .int v)] := hl
    refine lv_aload_n hx hb dX7_putChange_100 rfl (lv_at hl 1 rfl) ?_
    refine va_get (D := g.1) (ci := 9) (v := .ref bk) (C := RX7) (T := TX7) (N := 40) hx hb hts (by decide +kernel) hown hK hP 0 rfl rfl 5 (by decide) (hts (.fieldLink RX7 16 "LearnedIndexModel" "changedKeys" "[I") (by decide +kernel)) (fun _ h9 => h9) rfl dX7_putChange_101 ?_
    refine lv_iload hx hb dX7_putChange_104 (lv_at hl 0 rfl) ?_
    refine lv_iload_n hx hb dX7_putChange_106 rfl (lv_at hl 2 rfl) ?_
    refine va_iast hx hb hK hP hD hS 1 0 rfl rfl (vp_in_nI (show ic < 24 by omega) (by omega)) dX7_putChange_107 (fun H locs hP hD hS => ?_)
    rw [show (nI ic : Int32).toNatClampNeg = ic from nI_clamp (n := ic) (by omega)] at hP hD
    have hP : va_P g.1 vwCl [(h, .inr (9, [.int zth, .int zsz, .int (nI nB), .ref ak, .ref av, .ref bk, .ref bv, .ref br, .ref a_s, .ref a_t, .int zsg, .ref g1, .ref g2, .ref g3, .long zl1, .long zl2, .long zl3, .long zl4, .int zpb, .ref pa, .ref ru, .ref tx, .int zln, .int zat, .int zrk, .int zrv, .int zre, .int zwr, .int zrm, .int zrs, .int zis, .int zss, .int zsc, .ref dk, .ref dv, .ref ek, .ref ev, .ref er, .ref es, .ref et])), (bk, .inl (g.2.1.1, 24, .inl (upd ck ic x))), (bv, .inl (g.2.1.1, 24, .inl cv)), (br, .inl (g.2.1.1, 24, .inl cr))] H := hP
    have hD : va_D A [(h, .inr (9, [.int zth, .int zsz, .int (nI nB), .ref ak, .ref av, .ref bk, .ref bv, .ref br, .ref a_s, .ref a_t, .int zsg, .ref g1, .ref g2, .ref g3, .long zl1, .long zl2, .long zl3, .long zl4, .int zpb, .ref pa, .ref ru, .ref tx, .int zln, .int zat, .int zrk, .int zrv, .int zre, .int zwr, .int zrm, .int zrs, .int zis, .int zss, .int zsc, .ref dk, .ref dv, .ref ek, .ref ev, .ref er, .ref es, .ref et])), (bk, .inl (g.2.1.1, 24, .inl (upd ck ic x))), (bv, .inl (g.2.1.1, 24, .inl cv)), (br, .inl (g.2.1.1, 24, .inl cr))] := hD
    refine lv_aload_n hx hb dX7_putChange_108 rfl (lv_at hl 1 rfl) ?_
    refine va_get (D := g.1) (ci := 9) (v := .ref br) (C := RX7) (T := TX7) (N := 40) hx hb hts (by decide +kernel) hown hK hP 0 rfl rfl 7 (by decide) (hts (.fieldLink RX7 22 "LearnedIndexModel" "changedKinds" "[I") (by decide +kernel)) (fun _ h9 => h9) rfl dX7_putChange_109 ?_
    refine lv_iload hx hb dX7_putChange_112 (lv_at hl 0 rfl) ?_
    refine lv_iload_n hx hb dX7_putChange_114 rfl (lv_at hl 3 rfl) ?_
    refine va_iast hx hb hK hP hD hS 3 0 rfl rfl (vp_in_nI (show ic < 24 by omega) (by omega)) dX7_putChange_115 (fun H locs hP hD hS => ?_)
    rw [show (nI ic : Int32).toNatClampNeg = ic from nI_clamp (n := ic) (by omega)] at hP hD
    have hP : va_P g.1 vwCl [(h, .inr (9, [.int zth, .int zsz, .int (nI nB), .ref ak, .ref av, .ref bk, .ref bv, .ref br, .ref a_s, .ref a_t, .int zsg, .ref g1, .ref g2, .ref g3, .long zl1, .long zl2, .long zl3, .long zl4, .int zpb, .ref pa, .ref ru, .ref tx, .int zln, .int zat, .int zrk, .int zrv, .int zre, .int zwr, .int zrm, .int zrs, .int zis, .int zss, .int zsc, .ref dk, .ref dv, .ref ek, .ref ev, .ref er, .ref es, .ref et])), (bk, .inl (g.2.1.1, 24, .inl (upd ck ic x))), (bv, .inl (g.2.1.1, 24, .inl cv)), (br, .inl (g.2.1.1, 24, .inl (upd cr ic b)))] H := hP
    have hD : va_D A [(h, .inr (9, [.int zth, .int zsz, .int (nI nB), .ref ak, .ref av, .ref bk, .ref bv, .ref br, .ref a_s, .ref a_t, .int zsg, .ref g1, .ref g2, .ref g3, .long zl1, .long zl2, .long zl3, .long zl4, .int zpb, .ref pa, .ref ru, .ref tx, .int zln, .int zat, .int zrk, .int zrv, .int zre, .int zwr, .int zrm, .int zrs, .int zis, .int zss, .int zsc, .ref dk, .ref dv, .ref ek, .ref ev, .ref er, .ref es, .ref et])), (bk, .inl (g.2.1.1, 24, .inl (upd ck ic x))), (bv, .inl (g.2.1.1, 24, .inl cv)), (br, .inl (g.2.1.1, 24, .inl (upd cr ic b)))] := hD
    refine lv_aload_n hx hb dX7_putChange_116 rfl (lv_at hl 1 rfl) ?_
    refine va_get (D := g.1) (ci := 9) (v := .ref bv) (C := RX7) (T := TX7) (N := 40) hx hb hts (by decide +kernel) hown hK hP 0 rfl rfl 6 (by decide) (hts (.fieldLink RX7 19 "LearnedIndexModel" "changedValues" "[I") (by decide +kernel)) (fun _ h9 => h9) rfl dX7_putChange_117 ?_
    refine lv_iload hx hb dX7_putChange_120 (lv_at hl 0 rfl) ?_
    refine lv_iload_n hx hb dX7_putChange_122 rfl (lv_at hl 4 rfl) ?_
    refine va_iast hx hb hK hP hD hS 2 0 rfl rfl (vp_in_nI (show ic < 24 by omega) (by omega)) dX7_putChange_123 (fun H locs hP hD hS => ?_)
    rw [show (nI ic : Int32).toNatClampNeg = ic from nI_clamp (n := ic) (by omega)] at hP hD
    have hP : va_P g.1 vwCl [(h, .inr (9, [.int zth, .int zsz, .int (nI nB), .ref ak, .ref av, .ref bk, .ref bv, .ref br, .ref a_s, .ref a_t, .int zsg, .ref g1, .ref g2, .ref g3, .long zl1, .long zl2, .long zl3, .long zl4, .int zpb, .ref pa, .ref ru, .ref tx, .int zln, .int zat, .int zrk, .int zrv, .int zre, .int zwr, .int zrm, .int zrs, .int zis, .int zss, .int zsc, .ref dk, .ref dv, .ref ek, .ref ev, .ref er, .ref es, .ref et])), (bk, .inl (g.2.1.1, 24, .inl (upd ck ic x))), (bv, .inl (g.2.1.1, 24, .inl (upd cv ic v))), (br, .inl (g.2.1.1, 24, .inl (upd cr ic b)))] H := hP
    have hD : va_D A [(h, .inr (9, [.int zth, .int zsz, .int (nI nB), .ref ak, .ref av, .ref bk, .ref bv, .ref br, .ref a_s, .ref a_t, .int zsg, .ref g1, .ref g2, .ref g3, .long zl1, .long zl2, .long zl3, .long zl4, .int zpb, .ref pa, .ref ru, .ref tx, .int zln, .int zat, .int zrk, .int zrv, .int zre, .int zwr, .int zrm, .int zrs, .int zis, .int zss, .int zsc, .ref dk, .ref dv, .ref ek, .ref ev, .ref er, .ref es, .ref et])), (bk, .inl (g.2.1.1, 24, .inl (upd ck ic x))), (bv, .inl (g.2.1.1, 24, .inl (upd cv ic v))), (br, .inl (g.2.1.1, 24, .inl (upd cr ic b)))] := hD
    exact kretv hx hb hRt hlk hK hP hD hS rfl dX7_putChange_124 (⟨nB, _, _, _, enter_old hfc hcf.1 hcf.2, rfl⟩)
  · skip
    have hcf := kfnd_lt (by omega) c_9
    have hno := kfst_no hso hfc hcf
    refine lv_aload_n hx hb dX7_putChange_12 rfl (lv_at hl 1 rfl) ?_
    refine va_get (D := g.1) (ci := 9) (v := .int (nI nB)) (C := RX7) (T := TX7) (N := 40) hx hb hts (by decide +kernel) hown hK hP 0 rfl rfl 2 (by decide) (hts (.fieldLink RX7 82 "LearnedIndexModel" "changes" "I") (by decide +kernel)) (fun _ h9 => h9) rfl dX7_putChange_13 ?_
    refine lv_istore (lv' := [(4, .int (nI nB)), (0, .ref h), (1, .int x), (2, .int b), (3, .int v)]) hx hb dX7_putChange_16 hl (by decide) rfl (fun ls hl => ?_)
    have L18 : ∀ (n9 : Nat) (q : Nat) (u : Nat → Int32) (w : Nat → Int32) (t : Nat → Int32) (H : Heap) (locs : List Loc) (ls : Array Slot), (q ≤ nB ∧ 0 = 0) → (∀ j, q ≤ j → j < nB → x < ck j) → (u = kshr ck q nB) → (w = kshr cv q nB) → (t = kshr cr q nB) → q < n9 → va_P g.1 vwCl [(h, .inr (9, [.int zth, .int zsz, .int (nI nB), .ref ak, .ref av, .ref bk, .ref bv, .ref br, .ref a_s, .ref a_t, .int zsg, .ref g1, .ref g2, .ref g3, .long zl1, .long zl2, .long zl3, .long zl4, .int zpb, .ref pa, .ref ru, .ref tx, .int zln, .int zat, .int zrk, .int zrv, .int zre, .int zwr, .int zrm, .int zrs, .int zis, .int zss, .int zsc, .ref dk, .ref dv, .ref ek, .ref ev, .ref er, .ref es, .ref et])), (bk, .inl (g.2.1.1, 24, .inl u)), (bv, .inl (g.2.1.1, 24, .inl w)), (br, .inl (g.2.1.1, 24, .inl t))] H → va_D A [(h, .inr (9, [.int zth, .int zsz, .int (nI nB), .ref ak, .ref av, .ref bk, .ref bv, .ref br, .ref a_s, .ref a_t, .int zsg, .ref g1, .ref g2, .ref g3, .long zl1, .long zl2, .long zl3, .long zl4, .int zpb, .ref pa, .ref ru, .ref tx, .int zln, .int zat, .int zrk, .int zrv, .int zre, .int zwr, .int zrm, .int zrs, .int zis, .int zss, .int zsc, .ref dk, .ref dv, .ref ek, .ref ev, .ref er, .ref es, .ref et])), (bk, .inl (g.2.1.1, 24, .inl u)), (bv, .inl (g.2.1.1, 24, .inl w)), (br, .inl (g.2.1.1, 24, .inl t))] → va_S A s.heap H locs → lv_has ls 5 [(4, .int (nI q)), (0, .ref h), (1, .int x), (2, .int b), (3, .int v)] → W p l e rm_X7_putChange s m ([.ref h, .int x, .int b, .int v] : List Value).toArray below meth cd H locs 0 0 (kQv g 4 A (p_X7_putChange g h zth zsz zsg zl1 zl2 zl3 zl4 zpb zln zat zrk zrv zre zwr zrm zrs zis zss zsc ak av bk bv br a_s a_t g1 g2 g3 pa ru tx dk dv ek ev er es et nB ck cv cr x b v) below ([.ref h, .int x, .int b, .int v] : List Value).toArray s) (F0 m 18 ls []) := by
      intro n9
      induction n9 with
      | zero => intro q u w t H locs ls hq hqa hu hw ht h9; exact absurd h9 (Nat.not_lt_zero _)
      | succ n9 ih18 =>
        intro q u w t H locs ls hq hqa hu hw ht hn18 hP hD hS hl
        refine lv_iload hx hb dX7_putChange_18 (lv_at hl 0 rfl) ?_
        refine lv_if_le (tgt := 90) hx hb dX7_putChange_20 (by decide) (fun c_20 => ?_) (fun c_20 => ?_)
        · skip
          have hq0 : q = 0 := by rw [show (0 : Int32) = nI 0 from rfl, nI_leI (by omega) (by decide)] at c_20; omega
          have hqe : q = ic := kfst_end hso hfc hq.1 hqa (Or.inl hq0) hno
          refine lv_aload_n hx hb dX7_putChange_90 rfl (lv_at hl 1 rfl) ?_
          refine lv_dup hx hb dX7_putChange_91 rfl ?_
          refine va_get (D := g.1) (ci := 9) (v := .int (nI nB)) (C := RX7) (T := TX7) (N := 40) hx hb hts (by decide +kernel) hown hK hP 0 rfl rfl 2 (by decide) (hts (.fieldLink RX7 82 "LearnedIndexModel" "changes" "I") (by decide +kernel)) (fun _ h9 => h9) rfl dX7_putChange_92 ?_
          refine lv_iconst (v := 1) hx hb dX7_putChange_95 (by decide) ?_
          refine lv_iadd hx hb dX7_putChange_96 ?_
          rw [show (nI nB) + 1 = nI (nB + 1) from nI_1 nB]
          refine va_put (D := g.1) (ci := 9) (v := .int (nI (nB + 1))) (ty := .int) (C := RX7) (T := TX7) (N := 40) hx hb hts (by decide +kernel) tyX7 tyX7_ok nmX7 hown hK hP hD hS 0 rfl rfl 2 (by decide) (hts (.fieldLink RX7 82 "LearnedIndexModel" "changes" "I") (by decide +kernel)) (fun _ h9 => h9) rfl (by decide +kernel) rfl rfl (Nat.le_of_ble_eq_true rfl) dX7_putChange_97 (fun H locs hP hD hS => ?_)
          have hP : va_P g.1 vwCl [(h, .inr (9, [.int zth, .int zsz, .int (nI (nB + 1)), .ref ak, .ref av, .ref bk, .ref bv, .ref br, .ref a_s, .ref a_t, .int zsg, .ref g1, .ref g2, .ref g3, .long zl1, .long zl2, .long zl3, .long zl4, .int zpb, .ref pa, .ref ru, .ref tx, .int zln, .int zat, .int zrk, .int zrv, .int zre, .int zwr, .int zrm, .int zrs, .int zis, .int zss, .int zsc, .ref dk, .ref dv, .ref ek, .ref ev, .ref er, .ref es, .ref et])), (bk, .inl (g.2.1.1, 24, .inl u)), (bv, .inl (g.2.1.1, 24, .inl w)), (br, .inl (g.2.1.1, 24, .inl t))] H := hP
          have hD : va_D A [(h, .inr (9, [.int zth, .int zsz, .int (nI (nB + 1)), .ref ak, .ref av, .ref bk, .ref bv, .ref br, .ref a_s, .ref a_t, .int zsg, .ref g1, .ref g2, .ref g3, .long zl1, .long zl2, .long zl3, .long zl4, .int zpb, .ref pa, .ref ru, .ref tx, .int zln, .int zat, .int zrk, .int zrv, .int zre, .int zwr, .int zrm, .int zrs, .int zis, .int zss, .int zsc, .ref dk, .ref dv, .ref ek, .ref ev, .ref er, .ref es, .ref et])), (bk, .inl (g.2.1.1, 24, .inl u)), (bv, .inl (g.2.1.1, 24, .inl w)), (br, .inl (g.2.1.1, 24, .inl t))] := hD
          refine lv_aload_n hx hb dX7_putChange_100 rfl (lv_at hl 1 rfl) ?_
          refine va_get (D := g.1) (ci := 9) (v := .ref bk) (C := RX7) (T := TX7) (N := 40) hx hb hts (by decide +kernel) hown hK hP 0 rfl rfl 5 (by decide) (hts (.fieldLink RX7 16 "LearnedIndexModel" "changedKeys" "[I") (by decide +kernel)) (fun _ h9 => h9) rfl dX7_putChange_101 ?_
          refine lv_iload hx hb dX7_putChange_104 (lv_at hl 0 rfl) ?_
          refine lv_iload_n hx hb dX7_putChange_106 rfl (lv_at hl 2 rfl) ?_
          refine va_iast hx hb hK hP hD hS 1 0 rfl rfl (vp_in_nI (show q < 24 by omega) (by omega)) dX7_putChange_107 (fun H locs hP hD hS => ?_)
          rw [show (nI q : Int32).toNatClampNeg = q from nI_clamp (n := q) (by omega)] at hP hD
          have hP : va_P g.1 vwCl [(h, .inr (9, [.int zth, .int zsz, .int (nI (nB + 1)), .ref ak, .ref av, .ref bk, .ref bv, .ref br, .ref a_s, .ref a_t, .int zsg, .ref g1, .ref g2, .ref g3, .long zl1, .long zl2, .long zl3, .long zl4, .int zpb, .ref pa, .ref ru, .ref tx, .int zln, .int zat, .int zrk, .int zrv, .int zre, .int zwr, .int zrm, .int zrs, .int zis, .int zss, .int zsc, .ref dk, .ref dv, .ref ek, .ref ev, .ref er, .ref es, .ref et])), (bk, .inl (g.2.1.1, 24, .inl (upd u q x))), (bv, .inl (g.2.1.1, 24, .inl w)), (br, .inl (g.2.1.1, 24, .inl t))] H := hP
          have hD : va_D A [(h, .inr (9, [.int zth, .int zsz, .int (nI (nB + 1)), .ref ak, .ref av, .ref bk, .ref bv, .ref br, .ref a_s, .ref a_t, .int zsg, .ref g1, .ref g2, .ref g3, .long zl1, .long zl2, .long zl3, .long zl4, .int zpb, .ref pa, .ref ru, .ref tx, .int zln, .int zat, .int zrk, .int zrv, .int zre, .int zwr, .int zrm, .int zrs, .int zis, .int zss, .int zsc, .ref dk, .ref dv, .ref ek, .ref ev, .ref er, .ref es, .ref et])), (bk, .inl (g.2.1.1, 24, .inl (upd u q x))), (bv, .inl (g.2.1.1, 24, .inl w)), (br, .inl (g.2.1.1, 24, .inl t))] := hD
          refine lv_aload_n hx hb dX7_putChange_108 rfl (lv_at hl 1 rfl) ?_
          refine va_get (D := g.1) (ci := 9) (v := .ref br) (C := RX7) (T := TX7) (N := 40) hx hb hts (by decide +kernel) hown hK hP 0 rfl rfl 7 (by decide) (hts (.fieldLink RX7 22 "LearnedIndexModel" "changedKinds" "[I") (by decide +kernel)) (fun _ h9 => h9) rfl dX7_putChange_109 ?_
          refine lv_iload hx hb dX7_putChange_112 (lv_at hl 0 rfl) ?_
          refine lv_iload_n hx hb dX7_putChange_114 rfl (lv_at hl 3 rfl) ?_
          refine va_iast hx hb hK hP hD hS 3 0 rfl rfl (vp_in_nI (show q < 24 by omega) (by omega)) dX7_putChange_115 (fun H locs hP hD hS => ?_)
          rw [show (nI q : Int32).toNatClampNeg = q from nI_clamp (n := q) (by omega)] at hP hD
          have hP : va_P g.1 vwCl [(h, .inr (9, [.int zth, .int zsz, .int (nI (nB + 1)), .ref ak, .ref av, .ref bk, .ref bv, .ref br, .ref a_s, .ref a_t, .int zsg, .ref g1, .ref g2, .ref g3, .long zl1, .long zl2, .long zl3, .long zl4, .int zpb, .ref pa, .ref ru, .ref tx, .int zln, .int zat, .int zrk, .int zrv, .int zre, .int zwr, .int zrm, .int zrs, .int zis, .int zss, .int zsc, .ref dk, .ref dv, .ref ek, .ref ev, .ref er, .ref es, .ref et])), (bk, .inl (g.2.1.1, 24, .inl (upd u q x))), (bv, .inl (g.2.1.1, 24, .inl w)), (br, .inl (g.2.1.1, 24, .inl (upd t q b)))] H := hP
          have hD : va_D A [(h, .inr (9, [.int zth, .int zsz, .int (nI (nB + 1)), .ref ak, .ref av, .ref bk, .ref bv, .ref br, .ref a_s, .ref a_t, .int zsg, .ref g1, .ref g2, .ref g3, .long zl1, .long zl2, .long zl3, .long zl4, .int zpb, .ref pa, .ref ru, .ref tx, .int zln, .int zat, .int zrk, .int zrv, .int zre, .int zwr, .int zrm, .int zrs, .int zis, .int zss, .int zsc, .ref dk, .ref dv, .ref ek, .ref ev, .ref er, .ref es, .ref et])), (bk, .inl (g.2.1.1, 24, .inl (upd u q x))), (bv, .inl (g.2.1.1, 24, .inl w)), (br, .inl (g.2.1.1, 24, .inl (upd t q b)))] := hD
          refine lv_aload_n hx hb dX7_putChange_116 rfl (lv_at hl 1 rfl) ?_
          refine va_get (D := g.1) (ci := 9) (v := .ref bv) (C := RX7) (T := TX7) (N := 40) hx hb hts (by decide +kernel) hown hK hP 0 rfl rfl 6 (by decide) (hts (.fieldLink RX7 19 "LearnedIndexModel" "changedValues" "[I") (by decide +kernel)) (fun _ h9 => h9) rfl dX7_putChange_117 ?_
          refine lv_iload hx hb dX7_putChange_120 (lv_at hl 0 rfl) ?_
          refine lv_iload_n hx hb dX7_putChange_122 rfl (lv_at hl 4 rfl) ?_
          refine va_iast hx hb hK hP hD hS 2 0 rfl rfl (vp_in_nI (show q < 24 by omega) (by omega)) dX7_putChange_123 (fun H locs hP hD hS => ?_)
          rw [show (nI q : Int32).toNatClampNeg = q from nI_clamp (n := q) (by omega)] at hP hD
          have hP : va_P g.1 vwCl [(h, .inr (9, [.int zth, .int zsz, .int (nI (nB + 1)), .ref ak, .ref av, .ref bk, .ref bv, .ref br, .ref a_s, .ref a_t, .int zsg, .ref g1, .ref g2, .ref g3, .long zl1, .long zl2, .long zl3, .long zl4, .int zpb, .ref pa, .ref ru, .ref tx, .int zln, .int zat, .int zrk, .int zrv, .int zre, .int zwr, .int zrm, .int zrs, .int zis, .int zss, .int zsc, .ref dk, .ref dv, .ref ek, .ref ev, .ref er, .ref es, .ref et])), (bk, .inl (g.2.1.1, 24, .inl (upd u q x))), (bv, .inl (g.2.1.1, 24, .inl (upd w q v))), (br, .inl (g.2.1.1, 24, .inl (upd t q b)))] H := hP
          have hD : va_D A [(h, .inr (9, [.int zth, .int zsz, .int (nI (nB + 1)), .ref ak, .ref av, .ref bk, .ref bv, .ref br, .ref a_s, .ref a_t, .int zsg, .ref g1, .ref g2, .ref g3, .long zl1, .long zl2, .long zl3, .long zl4, .int zpb, .ref pa, .ref ru, .ref tx, .int zln, .int zat, .int zrk, .int zrv, .int zre, .int zwr, .int zrm, .int zrs, .int zis, .int zss, .int zsc, .ref dk, .ref dv, .ref ek, .ref ev, .ref er, .ref es, .ref et])), (bk, .inl (g.2.1.1, 24, .inl (upd u q x))), (bv, .inl (g.2.1.1, 24, .inl (upd w q v))), (br, .inl (g.2.1.1, 24, .inl (upd t q b)))] := hD
          exact kretv hx hb hRt hlk hK hP hD hS rfl dX7_putChange_124 (⟨nB + 1, _, _, _, by rw [hu, hw, ht, hqe]; exact enter_new hfc hcf, rfl⟩)
        · skip
          have hq0 : 0 < q := by rw [show (0 : Int32) = nI 0 from rfl, nI_leI (by omega) (by decide)] at c_20; omega
          refine lv_aload_n hx hb dX7_putChange_23 rfl (lv_at hl 1 rfl) ?_
          refine va_get (D := g.1) (ci := 9) (v := .ref bk) (C := RX7) (T := TX7) (N := 40) hx hb hts (by decide +kernel) hown hK hP 0 rfl rfl 5 (by decide) (hts (.fieldLink RX7 16 "LearnedIndexModel" "changedKeys" "[I") (by decide +kernel)) (fun _ h9 => h9) rfl dX7_putChange_24 ?_
          refine lv_iload hx hb dX7_putChange_27 (lv_at hl 0 rfl) ?_
          refine lv_iconst (v := 1) hx hb dX7_putChange_29 (by decide) ?_
          refine lv_isub hx hb dX7_putChange_30 ?_
          rw [show (nI q) - 1 = nI (q - 1) from nI_s1 hq0]
          refine va_iald hx hb hK hP 1 0 rfl rfl (vp_in_nI (show q - 1 < 24 by omega) (by omega)) dX7_putChange_31 ?_
          rw [show (nI (q - 1) : Int32).toNatClampNeg = q - 1 from nI_clamp (n := q - 1) (by omega)]
          refine lv_iload_n hx hb dX7_putChange_32 rfl (lv_at hl 2 rfl) ?_
          have hu1 : u (q - 1) = ck (q - 1) := by rw [hu, kshr, if_neg (by omega)]
          refine lv_icmp_le (tgt := 90) hx hb dX7_putChange_33 (by decide) (fun c_33 => ?_) (fun c_33 => ?_)
          · skip
            rw [hu1] at c_33
            have hqe : q = ic := kfst_end hso hfc hq.1 hqa (Or.inr (Int32.not_lt.mpr c_33)) hno
            refine lv_aload_n hx hb dX7_putChange_90 rfl (lv_at hl 1 rfl) ?_
            refine lv_dup hx hb dX7_putChange_91 rfl ?_
            refine va_get (D := g.1) (ci := 9) (v := .int (nI nB)) (C := RX7) (T := TX7) (N := 40) hx hb hts (by decide +kernel) hown hK hP 0 rfl rfl 2 (by decide) (hts (.fieldLink RX7 82 "LearnedIndexModel" "changes" "I") (by decide +kernel)) (fun _ h9 => h9) rfl dX7_putChange_92 ?_
            refine lv_iconst (v := 1) hx hb dX7_putChange_95 (by decide) ?_
            refine lv_iadd hx hb dX7_putChange_96 ?_
            rw [show (nI nB) + 1 = nI (nB + 1) from nI_1 nB]
            refine va_put (D := g.1) (ci := 9) (v := .int (nI (nB + 1))) (ty := .int) (C := RX7) (T := TX7) (N := 40) hx hb hts (by decide +kernel) tyX7 tyX7_ok nmX7 hown hK hP hD hS 0 rfl rfl 2 (by decide) (hts (.fieldLink RX7 82 "LearnedIndexModel" "changes" "I") (by decide +kernel)) (fun _ h9 => h9) rfl (by decide +kernel) rfl rfl (Nat.le_of_ble_eq_true rfl) dX7_putChange_97 (fun H locs hP hD hS => ?_)
            have hP : va_P g.1 vwCl [(h, .inr (9, [.int zth, .int zsz, .int (nI (nB + 1)), .ref ak, .ref av, .ref bk, .ref bv, .ref br, .ref a_s, .ref a_t, .int zsg, .ref g1, .ref g2, .ref g3, .long zl1, .long zl2, .long zl3, .long zl4, .int zpb, .ref pa, .ref ru, .ref tx, .int zln, .int zat, .int zrk, .int zrv, .int zre, .int zwr, .int zrm, .int zrs, .int zis, .int zss, .int zsc, .ref dk, .ref dv, .ref ek, .ref ev, .ref er, .ref es, .ref et])), (bk, .inl (g.2.1.1, 24, .inl u)), (bv, .inl (g.2.1.1, 24, .inl w)), (br, .inl (g.2.1.1, 24, .inl t))] H := hP
            have hD : va_D A [(h, .inr (9, [.int zth, .int zsz, .int (nI (nB + 1)), .ref ak, .ref av, .ref bk, .ref bv, .ref br, .ref a_s, .ref a_t, .int zsg, .ref g1, .ref g2, .ref g3, .long zl1, .long zl2, .long zl3, .long zl4, .int zpb, .ref pa, .ref ru, .ref tx, .int zln, .int zat, .int zrk, .int zrv, .int zre, .int zwr, .int zrm, .int zrs, .int zis, .int zss, .int zsc, .ref dk, .ref dv, .ref ek, .ref ev, .ref er, .ref es, .ref et])), (bk, .inl (g.2.1.1, 24, .inl u)), (bv, .inl (g.2.1.1, 24, .inl w)), (br, .inl (g.2.1.1, 24, .inl t))] := hD
            refine lv_aload_n hx hb dX7_putChange_100 rfl (lv_at hl 1 rfl) ?_
            refine va_get (D := g.1) (ci := 9) (v := .ref bk) (C := RX7) (T := TX7) (N := 40) hx hb hts (by decide +kernel) hown hK hP 0 rfl rfl 5 (by decide) (hts (.fieldLink RX7 16 "LearnedIndexModel" "changedKeys" "[I") (by decide +kernel)) (fun _ h9 => h9) rfl dX7_putChange_101 ?_
            refine lv_iload hx hb dX7_putChange_104 (lv_at hl 0 rfl) ?_
            refine lv_iload_n hx hb dX7_putChange_106 rfl (lv_at hl 2 rfl) ?_
            refine va_iast hx hb hK hP hD hS 1 0 rfl rfl (vp_in_nI (show q < 24 by omega) (by omega)) dX7_putChange_107 (fun H locs hP hD hS => ?_)
            rw [show (nI q : Int32).toNatClampNeg = q from nI_clamp (n := q) (by omega)] at hP hD
            have hP : va_P g.1 vwCl [(h, .inr (9, [.int zth, .int zsz, .int (nI (nB + 1)), .ref ak, .ref av, .ref bk, .ref bv, .ref br, .ref a_s, .ref a_t, .int zsg, .ref g1, .ref g2, .ref g3, .long zl1, .long zl2, .long zl3, .long zl4, .int zpb, .ref pa, .ref ru, .ref tx, .int zln, .int zat, .int zrk, .int zrv, .int zre, .int zwr, .int zrm, .int zrs, .int zis, .int zss, .int zsc, .ref dk, .ref dv, .ref ek, .ref ev, .ref er, .ref es, .ref et])), (bk, .inl (g.2.1.1, 24, .inl (upd u q x))), (bv, .inl (g.2.1.1, 24, .inl w)), (br, .inl (g.2.1.1, 24, .inl t))] H := hP
            have hD : va_D A [(h, .inr (9, [.int zth, .int zsz, .int (nI (nB + 1)), .ref ak, .ref av, .ref bk, .ref bv, .ref br, .ref a_s, .ref a_t, .int zsg, .ref g1, .ref g2, .ref g3, .long zl1, .long zl2, .long zl3, .long zl4, .int zpb, .ref pa, .ref ru, .ref tx, .int zln, .int zat, .int zrk, .int zrv, .int zre, .int zwr, .int zrm, .int zrs, .int zis, .int zss, .int zsc, .ref dk, .ref dv, .ref ek, .ref ev, .ref er, .ref es, .ref et])), (bk, .inl (g.2.1.1, 24, .inl (upd u q x))), (bv, .inl (g.2.1.1, 24, .inl w)), (br, .inl (g.2.1.1, 24, .inl t))] := hD
            refine lv_aload_n hx hb dX7_putChange_108 rfl (lv_at hl 1 rfl) ?_
            refine va_get (D := g.1) (ci := 9) (v := .ref br) (C := RX7) (T := TX7) (N := 40) hx hb hts (by decide +kernel) hown hK hP 0 rfl rfl 7 (by decide) (hts (.fieldLink RX7 22 "LearnedIndexModel" "changedKinds" "[I") (by decide +kernel)) (fun _ h9 => h9) rfl dX7_putChange_109 ?_
            refine lv_iload hx hb dX7_putChange_112 (lv_at hl 0 rfl) ?_
            refine lv_iload_n hx hb dX7_putChange_114 rfl (lv_at hl 3 rfl) ?_
            refine va_iast hx hb hK hP hD hS 3 0 rfl rfl (vp_in_nI (show q < 24 by omega) (by omega)) dX7_putChange_115 (fun H locs hP hD hS => ?_)
            rw [show (nI q : Int32).toNatClampNeg = q from nI_clamp (n := q) (by omega)] at hP hD
            have hP : va_P g.1 vwCl [(h, .inr (9, [.int zth, .int zsz, .int (nI (nB + 1)), .ref ak, .ref av, .ref bk, .ref bv, .ref br, .ref a_s, .ref a_t, .int zsg, .ref g1, .ref g2, .ref g3, .long zl1, .long zl2, .long zl3, .long zl4, .int zpb, .ref pa, .ref ru, .ref tx, .int zln, .int zat, .int zrk, .int zrv, .int zre, .int zwr, .int zrm, .int zrs, .int zis, .int zss, .int zsc, .ref dk, .ref dv, .ref ek, .ref ev, .ref er, .ref es, .ref et])), (bk, .inl (g.2.1.1, 24, .inl (upd u q x))), (bv, .inl (g.2.1.1, 24, .inl w)), (br, .inl (g.2.1.1, 24, .inl (upd t q b)))] H := hP
            have hD : va_D A [(h, .inr (9, [.int zth, .int zsz, .int (nI (nB + 1)), .ref ak, .ref av, .ref bk, .ref bv, .ref br, .ref a_s, .ref a_t, .int zsg, .ref g1, .ref g2, .ref g3, .long zl1, .long zl2, .long zl3, .long zl4, .int zpb, .ref pa, .ref ru, .ref tx, .int zln, .int zat, .int zrk, .int zrv, .int zre, .int zwr, .int zrm, .int zrs, .int zis, .int zss, .int zsc, .ref dk, .ref dv, .ref ek, .ref ev, .ref er, .ref es, .ref et])), (bk, .inl (g.2.1.1, 24, .inl (upd u q x))), (bv, .inl (g.2.1.1, 24, .inl w)), (br, .inl (g.2.1.1, 24, .inl (upd t q b)))] := hD
            refine lv_aload_n hx hb dX7_putChange_116 rfl (lv_at hl 1 rfl) ?_
            refine va_get (D := g.1) (ci := 9) (v := .ref bv) (C := RX7) (T := TX7) (N := 40) hx hb hts (by decide +kernel) hown hK hP 0 rfl rfl 6 (by decide) (hts (.fieldLink RX7 19 "LearnedIndexModel" "changedValues" "[I") (by decide +kernel)) (fun _ h9 => h9) rfl dX7_putChange_117 ?_
            refine lv_iload hx hb dX7_putChange_120 (lv_at hl 0 rfl) ?_
            refine lv_iload_n hx hb dX7_putChange_122 rfl (lv_at hl 4 rfl) ?_
            refine va_iast hx hb hK hP hD hS 2 0 rfl rfl (vp_in_nI (show q < 24 by omega) (by omega)) dX7_putChange_123 (fun H locs hP hD hS => ?_)
            rw [show (nI q : Int32).toNatClampNeg = q from nI_clamp (n := q) (by omega)] at hP hD
            have hP : va_P g.1 vwCl [(h, .inr (9, [.int zth, .int zsz, .int (nI (nB + 1)), .ref ak, .ref av, .ref bk, .ref bv, .ref br, .ref a_s, .ref a_t, .int zsg, .ref g1, .ref g2, .ref g3, .long zl1, .long zl2, .long zl3, .long zl4, .int zpb, .ref pa, .ref ru, .ref tx, .int zln, .int zat, .int zrk, .int zrv, .int zre, .int zwr, .int zrm, .int zrs, .int zis, .int zss, .int zsc, .ref dk, .ref dv, .ref ek, .ref ev, .ref er, .ref es, .ref et])), (bk, .inl (g.2.1.1, 24, .inl (upd u q x))), (bv, .inl (g.2.1.1, 24, .inl (upd w q v))), (br, .inl (g.2.1.1, 24, .inl (upd t q b)))] H := hP
            have hD : va_D A [(h, .inr (9, [.int zth, .int zsz, .int (nI (nB + 1)), .ref ak, .ref av, .ref bk, .ref bv, .ref br, .ref a_s, .ref a_t, .int zsg, .ref g1, .ref g2, .ref g3, .long zl1, .long zl2, .long zl3, .long zl4, .int zpb, .ref pa, .ref ru, .ref tx, .int zln, .int zat, .int zrk, .int zrv, .int zre, .int zwr, .int zrm, .int zrs, .int zis, .int zss, .int zsc, .ref dk, .ref dv, .ref ek, .ref ev, .ref er, .ref es, .ref et])), (bk, .inl (g.2.1.1, 24, .inl (upd u q x))), (bv, .inl (g.2.1.1, 24, .inl (upd w q v))), (br, .inl (g.2.1.1, 24, .inl (upd t q b)))] := hD
            exact kretv hx hb hRt hlk hK hP hD hS rfl dX7_putChange_124 (⟨nB + 1, _, _, _, by rw [hu, hw, ht, hqe]; exact enter_new hfc hcf, rfl⟩)
          · skip
            rw [hu1] at c_33
            have hqa2 : ∀ j, q - 1 ≤ j → j < nB → x < ck j := fun j h1 h2 => (Nat.eq_or_lt_of_le h1).elim (fun z => by rw [← z]; exact Int32.not_le.mp c_33) (fun z => hqa j (by omega) h2)
            refine lv_aload_n hx hb dX7_putChange_36 rfl (lv_at hl 1 rfl) ?_
            refine va_get (D := g.1) (ci := 9) (v := .ref bk) (C := RX7) (T := TX7) (N := 40) hx hb hts (by decide +kernel) hown hK hP 0 rfl rfl 5 (by decide) (hts (.fieldLink RX7 16 "LearnedIndexModel" "changedKeys" "[I") (by decide +kernel)) (fun _ h9 => h9) rfl dX7_putChange_37 ?_
            refine lv_iload hx hb dX7_putChange_40 (lv_at hl 0 rfl) ?_
            refine lv_aload_n hx hb dX7_putChange_42 rfl (lv_at hl 1 rfl) ?_
            refine va_get (D := g.1) (ci := 9) (v := .ref bk) (C := RX7) (T := TX7) (N := 40) hx hb hts (by decide +kernel) hown hK hP 0 rfl rfl 5 (by decide) (hts (.fieldLink RX7 16 "LearnedIndexModel" "changedKeys" "[I") (by decide +kernel)) (fun _ h9 => h9) rfl dX7_putChange_43 ?_
            refine lv_iload hx hb dX7_putChange_46 (lv_at hl 0 rfl) ?_
            refine lv_iconst (v := 1) hx hb dX7_putChange_48 (by decide) ?_
            refine lv_isub hx hb dX7_putChange_49 ?_
            rw [show (nI q) - 1 = nI (q - 1) from nI_s1 hq0]
            refine va_iald hx hb hK hP 1 0 rfl rfl (vp_in_nI (show q - 1 < 24 by omega) (by omega)) dX7_putChange_50 ?_
            rw [show (nI (q - 1) : Int32).toNatClampNeg = q - 1 from nI_clamp (n := q - 1) (by omega)]
            refine va_iast hx hb hK hP hD hS 1 0 rfl rfl (vp_in_nI (show q < 24 by omega) (by omega)) dX7_putChange_51 (fun H locs hP hD hS => ?_)
            rw [show (nI q : Int32).toNatClampNeg = q from nI_clamp (n := q) (by omega)] at hP hD
            have hP : va_P g.1 vwCl [(h, .inr (9, [.int zth, .int zsz, .int (nI nB), .ref ak, .ref av, .ref bk, .ref bv, .ref br, .ref a_s, .ref a_t, .int zsg, .ref g1, .ref g2, .ref g3, .long zl1, .long zl2, .long zl3, .long zl4, .int zpb, .ref pa, .ref ru, .ref tx, .int zln, .int zat, .int zrk, .int zrv, .int zre, .int zwr, .int zrm, .int zrs, .int zis, .int zss, .int zsc, .ref dk, .ref dv, .ref ek, .ref ev, .ref er, .ref es, .ref et])), (bk, .inl (g.2.1.1, 24, .inl (upd u q (u (q - 1))))), (bv, .inl (g.2.1.1, 24, .inl w)), (br, .inl (g.2.1.1, 24, .inl t))] H := hP
            have hD : va_D A [(h, .inr (9, [.int zth, .int zsz, .int (nI nB), .ref ak, .ref av, .ref bk, .ref bv, .ref br, .ref a_s, .ref a_t, .int zsg, .ref g1, .ref g2, .ref g3, .long zl1, .long zl2, .long zl3, .long zl4, .int zpb, .ref pa, .ref ru, .ref tx, .int zln, .int zat, .int zrk, .int zrv, .int zre, .int zwr, .int zrm, .int zrs, .int zis, .int zss, .int zsc, .ref dk, .ref dv, .ref ek, .ref ev, .ref er, .ref es, .ref et])), (bk, .inl (g.2.1.1, 24, .inl (upd u q (u (q - 1))))), (bv, .inl (g.2.1.1, 24, .inl w)), (br, .inl (g.2.1.1, 24, .inl t))] := hD
            refine lv_aload_n hx hb dX7_putChange_52 rfl (lv_at hl 1 rfl) ?_
            refine va_get (D := g.1) (ci := 9) (v := .ref br) (C := RX7) (T := TX7) (N := 40) hx hb hts (by decide +kernel) hown hK hP 0 rfl rfl 7 (by decide) (hts (.fieldLink RX7 22 "LearnedIndexModel" "changedKinds" "[I") (by decide +kernel)) (fun _ h9 => h9) rfl dX7_putChange_53 ?_
            refine lv_iload hx hb dX7_putChange_56 (lv_at hl 0 rfl) ?_
            refine lv_aload_n hx hb dX7_putChange_58 rfl (lv_at hl 1 rfl) ?_
            refine va_get (D := g.1) (ci := 9) (v := .ref br) (C := RX7) (T := TX7) (N := 40) hx hb hts (by decide +kernel) hown hK hP 0 rfl rfl 7 (by decide) (hts (.fieldLink RX7 22 "LearnedIndexModel" "changedKinds" "[I") (by decide +kernel)) (fun _ h9 => h9) rfl dX7_putChange_59 ?_
            refine lv_iload hx hb dX7_putChange_62 (lv_at hl 0 rfl) ?_
            refine lv_iconst (v := 1) hx hb dX7_putChange_64 (by decide) ?_
            refine lv_isub hx hb dX7_putChange_65 ?_
            rw [show (nI q) - 1 = nI (q - 1) from nI_s1 hq0]
            refine va_iald hx hb hK hP 3 0 rfl rfl (vp_in_nI (show q - 1 < 24 by omega) (by omega)) dX7_putChange_66 ?_
            rw [show (nI (q - 1) : Int32).toNatClampNeg = q - 1 from nI_clamp (n := q - 1) (by omega)]
            refine va_iast hx hb hK hP hD hS 3 0 rfl rfl (vp_in_nI (show q < 24 by omega) (by omega)) dX7_putChange_67 (fun H locs hP hD hS => ?_)
            rw [show (nI q : Int32).toNatClampNeg = q from nI_clamp (n := q) (by omega)] at hP hD
            have hP : va_P g.1 vwCl [(h, .inr (9, [.int zth, .int zsz, .int (nI nB), .ref ak, .ref av, .ref bk, .ref bv, .ref br, .ref a_s, .ref a_t, .int zsg, .ref g1, .ref g2, .ref g3, .long zl1, .long zl2, .long zl3, .long zl4, .int zpb, .ref pa, .ref ru, .ref tx, .int zln, .int zat, .int zrk, .int zrv, .int zre, .int zwr, .int zrm, .int zrs, .int zis, .int zss, .int zsc, .ref dk, .ref dv, .ref ek, .ref ev, .ref er, .ref es, .ref et])), (bk, .inl (g.2.1.1, 24, .inl (upd u q (u (q - 1))))), (bv, .inl (g.2.1.1, 24, .inl w)), (br, .inl (g.2.1.1, 24, .inl (upd t q (t (q - 1)))))] H := hP
            have hD : va_D A [(h, .inr (9, [.int zth, .int zsz, .int (nI nB), .ref ak, .ref av, .ref bk, .ref bv, .ref br, .ref a_s, .ref a_t, .int zsg, .ref g1, .ref g2, .ref g3, .long zl1, .long zl2, .long zl3, .long zl4, .int zpb, .ref pa, .ref ru, .ref tx, .int zln, .int zat, .int zrk, .int zrv, .int zre, .int zwr, .int zrm, .int zrs, .int zis, .int zss, .int zsc, .ref dk, .ref dv, .ref ek, .ref ev, .ref er, .ref es, .ref et])), (bk, .inl (g.2.1.1, 24, .inl (upd u q (u (q - 1))))), (bv, .inl (g.2.1.1, 24, .inl w)), (br, .inl (g.2.1.1, 24, .inl (upd t q (t (q - 1)))))] := hD
            refine lv_aload_n hx hb dX7_putChange_68 rfl (lv_at hl 1 rfl) ?_
            refine va_get (D := g.1) (ci := 9) (v := .ref bv) (C := RX7) (T := TX7) (N := 40) hx hb hts (by decide +kernel) hown hK hP 0 rfl rfl 6 (by decide) (hts (.fieldLink RX7 19 "LearnedIndexModel" "changedValues" "[I") (by decide +kernel)) (fun _ h9 => h9) rfl dX7_putChange_69 ?_
            refine lv_iload hx hb dX7_putChange_72 (lv_at hl 0 rfl) ?_
            refine lv_aload_n hx hb dX7_putChange_74 rfl (lv_at hl 1 rfl) ?_
            refine va_get (D := g.1) (ci := 9) (v := .ref bv) (C := RX7) (T := TX7) (N := 40) hx hb hts (by decide +kernel) hown hK hP 0 rfl rfl 6 (by decide) (hts (.fieldLink RX7 19 "LearnedIndexModel" "changedValues" "[I") (by decide +kernel)) (fun _ h9 => h9) rfl dX7_putChange_75 ?_
            refine lv_iload hx hb dX7_putChange_78 (lv_at hl 0 rfl) ?_
            refine lv_iconst (v := 1) hx hb dX7_putChange_80 (by decide) ?_
            refine lv_isub hx hb dX7_putChange_81 ?_
            rw [show (nI q) - 1 = nI (q - 1) from nI_s1 hq0]
            refine va_iald hx hb hK hP 2 0 rfl rfl (vp_in_nI (show q - 1 < 24 by omega) (by omega)) dX7_putChange_82 ?_
            rw [show (nI (q - 1) : Int32).toNatClampNeg = q - 1 from nI_clamp (n := q - 1) (by omega)]
            refine va_iast hx hb hK hP hD hS 2 0 rfl rfl (vp_in_nI (show q < 24 by omega) (by omega)) dX7_putChange_83 (fun H locs hP hD hS => ?_)
            rw [show (nI q : Int32).toNatClampNeg = q from nI_clamp (n := q) (by omega)] at hP hD
            have hP : va_P g.1 vwCl [(h, .inr (9, [.int zth, .int zsz, .int (nI nB), .ref ak, .ref av, .ref bk, .ref bv, .ref br, .ref a_s, .ref a_t, .int zsg, .ref g1, .ref g2, .ref g3, .long zl1, .long zl2, .long zl3, .long zl4, .int zpb, .ref pa, .ref ru, .ref tx, .int zln, .int zat, .int zrk, .int zrv, .int zre, .int zwr, .int zrm, .int zrs, .int zis, .int zss, .int zsc, .ref dk, .ref dv, .ref ek, .ref ev, .ref er, .ref es, .ref et])), (bk, .inl (g.2.1.1, 24, .inl (upd u q (u (q - 1))))), (bv, .inl (g.2.1.1, 24, .inl (upd w q (w (q - 1))))), (br, .inl (g.2.1.1, 24, .inl (upd t q (t (q - 1)))))] H := hP
            have hD : va_D A [(h, .inr (9, [.int zth, .int zsz, .int (nI nB), .ref ak, .ref av, .ref bk, .ref bv, .ref br, .ref a_s, .ref a_t, .int zsg, .ref g1, .ref g2, .ref g3, .long zl1, .long zl2, .long zl3, .long zl4, .int zpb, .ref pa, .ref ru, .ref tx, .int zln, .int zat, .int zrk, .int zrv, .int zre, .int zwr, .int zrm, .int zrs, .int zis, .int zss, .int zsc, .ref dk, .ref dv, .ref ek, .ref ev, .ref er, .ref es, .ref et])), (bk, .inl (g.2.1.1, 24, .inl (upd u q (u (q - 1))))), (bv, .inl (g.2.1.1, 24, .inl (upd w q (w (q - 1))))), (br, .inl (g.2.1.1, 24, .inl (upd t q (t (q - 1)))))] := hD
            refine lv_iinc (v := nI (q - 1)) (lv' := [(4, .int (nI (q - 1))), (0, .ref h), (1, .int x), (2, .int b), (3, .int v)]) hx hb dX7_putChange_84 hl (k := 0) rfl (nI_m1 hq0) (by decide) rfl (fun ls hl => ?_)
            refine lv_goto (tgt := 18) hx hb dX7_putChange_87 (by decide) ?_
            exact ih18 (q - 1) (upd u q (u (q - 1))) (upd w q (w (q - 1))) (upd t q (t (q - 1))) _ _ ls (⟨by omega, rfl⟩) hqa2 (by rw [hu]; exact kshr_t hq0 hq.1) (by rw [hw]; exact kshr_t hq0 hq.1) (by rw [ht]; exact kshr_t hq0 hq.1) (by omega) hP hD hS (lv_sub hl [0, 1, 2, 3, 4] rfl)
    exact L18 _ nB ck cv cr _ _ ls (⟨Nat.le_refl _, rfl⟩) (fun j h1 h2 => absurd h2 (by omega)) (kshr_0 ck nB) (kshr_0 cv nB) (kshr_0 cr nB) (Nat.lt_succ_self _) hP hD hS (lv_sub hl [0, 1, 2, 3, 4] rfl)
set_option maxRecDepth 20000 in
theorem ggX7_takeOutChange_X7_changeOf : GoodIn wsX7_takeOutChange wsX7_changeOf := goodIn_ca (goodIn_r _ [9, 1, 2, 10, 11, 12, 13, 14, 15, 16, 17, 18, 19, 20, 21, 22, 23, 24, 25, 26, 27, 28, 29, 30, 31, 32, 33, 34, 35, 36, 37, 38, 39, 40, 41, 42, 43, 44, 45, 46, 47, 48, 49] (by decide +kernel) (by decide +kernel)) (goodIn_sub (fun _ h => List.mem_cons_of_mem _ (List.mem_append_right _ h)) (by decide +kernel))
set_option maxRecDepth 20000 in
theorem gX7_takeOutChange_X7_changeOf : GoodIn wsX7_takeOutChange (wsV RX7 85 RX7 yX7_changeOf wsX7_changeOf) := goodIn_app (goodIn_of _ (by decide +kernel)) ggX7_takeOutChange_X7_changeOf
theorem dX7_takeOutChange_0 : decode cX7_takeOutChange 0 = .ok (.aload_n 0, 1) := by decide +kernel
theorem dX7_takeOutChange_1 : decode cX7_takeOutChange 1 = .ok (.iload_n 1, 1) := by decide +kernel
theorem dX7_takeOutChange_2 : decode cX7_takeOutChange 2 = .ok (.invokevirtual 85, 3) := by decide +kernel
theorem dX7_takeOutChange_5 : decode cX7_takeOutChange 5 = .ok (.istore_n 2, 1) := by decide +kernel
theorem dX7_takeOutChange_6 : decode cX7_takeOutChange 6 = .ok (.aload_n 0, 1) := by decide +kernel
theorem dX7_takeOutChange_7 : decode cX7_takeOutChange 7 = .ok (.dup, 1) := by decide +kernel
theorem dX7_takeOutChange_8 : decode cX7_takeOutChange 8 = .ok (.getfield 82, 3) := by decide +kernel
theorem dX7_takeOutChange_11 : decode cX7_takeOutChange 11 = .ok (.iconst 1, 1) := by decide +kernel
theorem dX7_takeOutChange_12 : decode cX7_takeOutChange 12 = .ok (.isub, 1) := by decide +kernel
theorem dX7_takeOutChange_13 : decode cX7_takeOutChange 13 = .ok (.putfield 82, 3) := by decide +kernel
theorem dX7_takeOutChange_16 : decode cX7_takeOutChange 16 = .ok (.iload_n 2, 1) := by decide +kernel
theorem dX7_takeOutChange_17 : decode cX7_takeOutChange 17 = .ok (.istore_n 3, 1) := by decide +kernel
theorem dX7_takeOutChange_18 : decode cX7_takeOutChange 18 = .ok (.iload_n 3, 1) := by decide +kernel
theorem dX7_takeOutChange_19 : decode cX7_takeOutChange 19 = .ok (.aload_n 0, 1) := by decide +kernel
theorem dX7_takeOutChange_20 : decode cX7_takeOutChange 20 = .ok (.getfield 82, 3) := by decide +kernel
theorem dX7_takeOutChange_23 : decode cX7_takeOutChange 23 = .ok (.if_icmp .ge 51, 3) := by decide +kernel
theorem dX7_takeOutChange_26 : decode cX7_takeOutChange 26 = .ok (.aload_n 0, 1) := by decide +kernel
theorem dX7_takeOutChange_27 : decode cX7_takeOutChange 27 = .ok (.getfield 16, 3) := by decide +kernel
theorem dX7_takeOutChange_30 : decode cX7_takeOutChange 30 = .ok (.iload_n 3, 1) := by decide +kernel
theorem dX7_takeOutChange_31 : decode cX7_takeOutChange 31 = .ok (.aload_n 0, 1) := by decide +kernel
theorem dX7_takeOutChange_32 : decode cX7_takeOutChange 32 = .ok (.getfield 16, 3) := by decide +kernel
theorem dX7_takeOutChange_35 : decode cX7_takeOutChange 35 = .ok (.iload_n 3, 1) := by decide +kernel
theorem dX7_takeOutChange_36 : decode cX7_takeOutChange 36 = .ok (.iconst 1, 1) := by decide +kernel
theorem dX7_takeOutChange_37 : decode cX7_takeOutChange 37 = .ok (.iadd, 1) := by decide +kernel
theorem dX7_takeOutChange_38 : decode cX7_takeOutChange 38 = .ok (.iaload, 1) := by decide +kernel
theorem dX7_takeOutChange_39 : decode cX7_takeOutChange 39 = .ok (.iastore, 1) := by decide +kernel
theorem dX7_takeOutChange_40 : decode cX7_takeOutChange 40 = .ok (.aload_n 0, 1) := by decide +kernel
theorem dX7_takeOutChange_41 : decode cX7_takeOutChange 41 = .ok (.getfield 22, 3) := by decide +kernel
theorem dX7_takeOutChange_44 : decode cX7_takeOutChange 44 = .ok (.iload_n 3, 1) := by decide +kernel
theorem dX7_takeOutChange_45 : decode cX7_takeOutChange 45 = .ok (.aload_n 0, 1) := by decide +kernel
theorem dX7_takeOutChange_46 : decode cX7_takeOutChange 46 = .ok (.getfield 22, 3) := by decide +kernel
theorem dX7_takeOutChange_49 : decode cX7_takeOutChange 49 = .ok (.iload_n 3, 1) := by decide +kernel
theorem dX7_takeOutChange_50 : decode cX7_takeOutChange 50 = .ok (.iconst 1, 1) := by decide +kernel
theorem dX7_takeOutChange_51 : decode cX7_takeOutChange 51 = .ok (.iadd, 1) := by decide +kernel
theorem dX7_takeOutChange_52 : decode cX7_takeOutChange 52 = .ok (.iaload, 1) := by decide +kernel
theorem dX7_takeOutChange_53 : decode cX7_takeOutChange 53 = .ok (.iastore, 1) := by decide +kernel
theorem dX7_takeOutChange_54 : decode cX7_takeOutChange 54 = .ok (.aload_n 0, 1) := by decide +kernel
theorem dX7_takeOutChange_55 : decode cX7_takeOutChange 55 = .ok (.getfield 19, 3) := by decide +kernel
theorem dX7_takeOutChange_58 : decode cX7_takeOutChange 58 = .ok (.iload_n 3, 1) := by decide +kernel
theorem dX7_takeOutChange_59 : decode cX7_takeOutChange 59 = .ok (.aload_n 0, 1) := by decide +kernel
theorem dX7_takeOutChange_60 : decode cX7_takeOutChange 60 = .ok (.getfield 19, 3) := by decide +kernel
theorem dX7_takeOutChange_63 : decode cX7_takeOutChange 63 = .ok (.iload_n 3, 1) := by decide +kernel
theorem dX7_takeOutChange_64 : decode cX7_takeOutChange 64 = .ok (.iconst 1, 1) := by decide +kernel
theorem dX7_takeOutChange_65 : decode cX7_takeOutChange 65 = .ok (.iadd, 1) := by decide +kernel
theorem dX7_takeOutChange_66 : decode cX7_takeOutChange 66 = .ok (.iaload, 1) := by decide +kernel
theorem dX7_takeOutChange_67 : decode cX7_takeOutChange 67 = .ok (.iastore, 1) := by decide +kernel
theorem dX7_takeOutChange_68 : decode cX7_takeOutChange 68 = .ok (.iinc 3 1, 3) := by decide +kernel
theorem dX7_takeOutChange_71 : decode cX7_takeOutChange 71 = .ok (.goto (-53), 3) := by decide +kernel
theorem dX7_takeOutChange_74 : decode cX7_takeOutChange 74 = .ok (.return_, 1) := by decide +kernel
def rm_X7_takeOutChange : Room := { frames := 1, cells := 0, slots := 0, locals := 22 }
abbrev p_X7_takeOutChange (g : kG) (h : Nat) (zth : Int32) (zsz : Int32) (zsg : Int32) (zl1 : Int64) (zl2 : Int64) (zl3 : Int64) (zl4 : Int64) (zpb : Int32) (zln : Int32) (zat : Int32) (zrk : Int32) (zrv : Int32) (zre : Int32) (zwr : Int32) (zrm : Int32) (zrs : Int32) (zis : Int32) (zss : Int32) (zsc : Int32) (ak : Nat) (av : Nat) (bk : Nat) (bv : Nat) (br : Nat) (a_s : Nat) (a_t : Nat) (g1 : Nat) (g2 : Nat) (g3 : Nat) (pa : Nat) (ru : Nat) (tx : Nat) (dk : Nat) (dv : Nat) (ek : Nat) (ev : Nat) (er : Nat) (es : Nat) (et : Nat) (nB : Nat) (ck : Nat → Int32) (cv : Nat → Int32) (cr : Nat → Int32) (x : Int32) : va_W → Prop := fun w1 => ∃ (n2 : Nat), ∃ (ck2 : Nat → Int32), ∃ (cv2 : Nat → Int32), ∃ (cr2 : Nat → Int32), (EL n2 ck2 cv2 cr2 = (EL nB ck cv cr).filter (fun e => decide (¬ e.1 = x))) ∧ w1 = [(h, .inr (9, [.int zth, .int zsz, .int (nI n2), .ref ak, .ref av, .ref bk, .ref bv, .ref br, .ref a_s, .ref a_t, .int zsg, .ref g1, .ref g2, .ref g3, .long zl1, .long zl2, .long zl3, .long zl4, .int zpb, .ref pa, .ref ru, .ref tx, .int zln, .int zat, .int zrk, .int zrv, .int zre, .int zwr, .int zrm, .int zrs, .int zis, .int zss, .int zsc, .ref dk, .ref dv, .ref ek, .ref ev, .ref er, .ref es, .ref et])), (bk, .inl (g.2.1.1, 24, .inl ck2)), (bv, .inl (g.2.1.1, 24, .inl cv2)), (br, .inl (g.2.1.1, 24, .inl cr2))]
set_option maxHeartbeats 4000000 in
set_option maxRecDepth 100000 in
theorem c_X7_takeOutChange (l : Launch) (g : kG) (h : Nat) (zth : Int32) (zsz : Int32) (zsg : Int32) (zl1 : Int64) (zl2 : Int64) (zl3 : Int64) (zl4 : Int64) (zpb : Int32) (zln : Int32) (zat : Int32) (zrk : Int32) (zrv : Int32) (zre : Int32) (zwr : Int32) (zrm : Int32) (zrs : Int32) (zis : Int32) (zss : Int32) (zsc : Int32) (ak : Nat) (av : Nat) (bk : Nat) (bv : Nat) (br : Nat) (a_s : Nat) (a_t : Nat) (g1 : Nat) (g2 : Nat) (g3 : Nat) (pa : Nat) (ru : Nat) (tx : Nat) (dk : Nat) (dv : Nat) (ek : Nat) (ev : Nat) (er : Nat) (es : Nat) (et : Nat) (nB : Nat) (ck : Nat → Int32) (cv : Nat → Int32) (cr : Nat → Int32) (x : Int32) (hso : kSo (EL nB ck cv cr)) (hn : nB ≤ 22) (hin : (lkp (EL nB ck cv cr) x).isSome = true) : KV l yX7_takeOutChange wsX7_takeOutChange rm_X7_takeOutChange g [.ref h, .int x] [(h, .inr (9, [.int zth, .int zsz, .int (nI nB), .ref ak, .ref av, .ref bk, .ref bv, .ref br, .ref a_s, .ref a_t, .int zsg, .ref g1, .ref g2, .ref g3, .long zl1, .long zl2, .long zl3, .long zl4, .int zpb, .ref pa, .ref ru, .ref tx, .int zln, .int zat, .int zrk, .int zrv, .int zre, .int zwr, .int zrm, .int zrs, .int zis, .int zss, .int zsc, .ref dk, .ref dv, .ref ek, .ref ev, .ref er, .ref es, .ref et])), (bk, .inl (g.2.1.1, 24, .inl ck)), (bv, .inl (g.2.1.1, 24, .inl cv)), (br, .inl (g.2.1.1, 24, .inl cr))] (p_X7_takeOutChange g h zth zsz zsg zl1 zl2 zl3 zl4 zpb zln zat zrk zrv zre zwr zrm zrs zis zss zsc ak av bk bv br a_s a_t g1 g2 g3 pa ru tx dk dv ek ev er es et nB ck cv cr x) := by
  refine kbodyV (cc := cX7_takeOutChange) (n := 4) (k := 4) (own := RX7) (plainFor_of_name (by decide)) rfl rfl rfl rfl ?_
  intro p e s m below meth cd A ls hcx
  obtain ⟨hx, hb, hRt, hml, hts, hown, hlk, hA, hP, hK, hD, hE, hS, hl⟩ := hcx
  have hl : lv_has ls 4 [(0, .ref h), (1, .int x)] := hl
  refine lv_aload_n hx hb dX7_takeOutChange_0 rfl (lv_at hl 0 rfl) ?_
  refine lv_iload_n hx hb dX7_takeOutChange_1 rfl (lv_at hl 1 rfl) ?_
  refine kcalli (wc := [(h, .inr (9, [.int zth, .int zsz, .int (nI nB), .ref ak, .ref av, .ref bk, .ref bv, .ref br, .ref a_s, .ref a_t, .int zsg, .ref g1, .ref g2, .ref g3, .long zl1, .long zl2, .long zl3, .long zl4, .int zpb, .ref pa, .ref ru, .ref tx, .int zln, .int zat, .int zrk, .int zrv, .int zre, .int zwr, .int zrm, .int zrs, .int zis, .int zss, .int zsc, .ref dk, .ref dv, .ref ek, .ref ev, .ref er, .ref es, .ref et])), (bk, .inl (g.2.1.1, 24, .inl ck))]) [0, 1] (va_runV (C := RX7) (As := [.int x]) (rest := []) ⟨hx, hb, hml, hown, hts⟩ ((c_X7_changeOf l g h zth zsz zsg zl1 zl2 zl3 zl4 zpb zln zat zrk zrv zre zwr zrm zrs zis zss zsc ak av bk bv br a_s a_t g1 g2 g3 pa ru tx dk dv ek ev er es et nB ck cv cr x hso (by omega)) _) (cwV 1 hts gX7_takeOutChange_X7_changeOf rfl rfl rfl (by decide +kernel) ⟨Nat.le_of_ble_eq_true rfl, Nat.le_of_ble_eq_true rfl⟩) (kpreV (wc := [(h, .inr (9, [.int zth, .int zsz, .int (nI nB), .ref ak, .ref av, .ref bk, .ref bv, .ref br, .ref a_s, .ref a_t, .int zsg, .ref g1, .ref g2, .ref g3, .long zl1, .long zl2, .long zl3, .long zl4, .int zpb, .ref pa, .ref ru, .ref tx, .int zln, .int zat, .int zrk, .int zrv, .int zre, .int zwr, .int zrm, .int zrs, .int zis, .int zss, .int zsc, .ref dk, .ref dv, .ref ek, .ref ev, .ref er, .ref es, .ref et])), (bk, .inl (g.2.1.1, 24, .inl ck))]) (ci := 9) hK hP hD hS hA hE [0, 1] rfl rfl rfl rfl) rfl rfl hl.1 rfl (lv_room (Nat.le_of_ble_eq_true rfl)) dX7_takeOutChange_2 ⟨Nat.zero_le _, Nat.zero_le _⟩) hP hD hS hA rfl (fun r_1 w_1 H locs hp hP hD hS => ?_)
  obtain ⟨ic, rfl, hfc, rfl⟩ := hp
  have hP : va_P g.1 vwCl [(h, .inr (9, [.int zth, .int zsz, .int (nI nB), .ref ak, .ref av, .ref bk, .ref bv, .ref br, .ref a_s, .ref a_t, .int zsg, .ref g1, .ref g2, .ref g3, .long zl1, .long zl2, .long zl3, .long zl4, .int zpb, .ref pa, .ref ru, .ref tx, .int zln, .int zat, .int zrk, .int zrv, .int zre, .int zwr, .int zrm, .int zrs, .int zis, .int zss, .int zsc, .ref dk, .ref dv, .ref ek, .ref ev, .ref er, .ref es, .ref et])), (bk, .inl (g.2.1.1, 24, .inl ck)), (bv, .inl (g.2.1.1, 24, .inl cv)), (br, .inl (g.2.1.1, 24, .inl cr))] H := hP
  have hD : va_D A [(h, .inr (9, [.int zth, .int zsz, .int (nI nB), .ref ak, .ref av, .ref bk, .ref bv, .ref br, .ref a_s, .ref a_t, .int zsg, .ref g1, .ref g2, .ref g3, .long zl1, .long zl2, .long zl3, .long zl4, .int zpb, .ref pa, .ref ru, .ref tx, .int zln, .int zat, .int zrk, .int zrv, .int zre, .int zwr, .int zrm, .int zrs, .int zis, .int zss, .int zsc, .ref dk, .ref dv, .ref ek, .ref ev, .ref er, .ref es, .ref et])), (bk, .inl (g.2.1.1, 24, .inl ck)), (bv, .inl (g.2.1.1, 24, .inl cv)), (br, .inl (g.2.1.1, 24, .inl cr))] := hD
  have hcf : ic < nB ∧ ck ic = x := Decidable.byContradiction (fun z => by rw [kfst_lkp hso hfc, if_neg z] at hin; cases hin)
  rw [show (kfnd nB ck x ic : Int32) = nI ic from by rw [kfnd, if_pos hcf]]
  refine lv_istore_n (lv' := [(2, .int (nI ic)), (0, .ref h), (1, .int x)]) hx hb dX7_takeOutChange_5 rfl hl (by decide) rfl (fun ls hl => ?_)
  refine lv_aload_n hx hb dX7_takeOutChange_6 rfl (lv_at hl 1 rfl) ?_
  refine lv_dup hx hb dX7_takeOutChange_7 rfl ?_
  refine va_get (D := g.1) (ci := 9) (v := .int (nI nB)) (C := RX7) (T := TX7) (N := 40) hx hb hts (by decide +kernel) hown hK hP 0 rfl rfl 2 (by decide) (hts (.fieldLink RX7 82 "LearnedIndexModel" "changes" "I") (by decide +kernel)) (fun _ h9 => h9) rfl dX7_takeOutChange_8 ?_
  refine lv_iconst (v := 1) hx hb dX7_takeOutChange_11 (by decide) ?_
  refine lv_isub hx hb dX7_takeOutChange_12 ?_
  rw [show (nI nB) - 1 = nI (nB - 1) from nI_s1 (by omega)]
  refine va_put (D := g.1) (ci := 9) (v := .int (nI (nB - 1))) (ty := .int) (C := RX7) (T := TX7) (N := 40) hx hb hts (by decide +kernel) tyX7 tyX7_ok nmX7 hown hK hP hD hS 0 rfl rfl 2 (by decide) (hts (.fieldLink RX7 82 "LearnedIndexModel" "changes" "I") (by decide +kernel)) (fun _ h9 => h9) rfl (by decide +kernel) rfl rfl (Nat.le_of_ble_eq_true rfl) dX7_takeOutChange_13 (fun H locs hP hD hS => ?_)
  have hP : va_P g.1 vwCl [(h, .inr (9, [.int zth, .int zsz, .int (nI (nB - 1)), .ref ak, .ref av, .ref bk, .ref bv, .ref br, .ref a_s, .ref a_t, .int zsg, .ref g1, .ref g2, .ref g3, .long zl1, .long zl2, .long zl3, .long zl4, .int zpb, .ref pa, .ref ru, .ref tx, .int zln, .int zat, .int zrk, .int zrv, .int zre, .int zwr, .int zrm, .int zrs, .int zis, .int zss, .int zsc, .ref dk, .ref dv, .ref ek, .ref ev, .ref er, .ref es, .ref et])), (bk, .inl (g.2.1.1, 24, .inl ck)), (bv, .inl (g.2.1.1, 24, .inl cv)), (br, .inl (g.2.1.1, 24, .inl cr))] H := hP
  have hD : va_D A [(h, .inr (9, [.int zth, .int zsz, .int (nI (nB - 1)), .ref ak, .ref av, .ref bk, .ref bv, .ref br, .ref a_s, .ref a_t, .int zsg, .ref g1, .ref g2, .ref g3, .long zl1, .long zl2, .long zl3, .long zl4, .int zpb, .ref pa, .ref ru, .ref tx, .int zln, .int zat, .int zrk, .int zrv, .int zre, .int zwr, .int zrm, .int zrs, .int zis, .int zss, .int zsc, .ref dk, .ref dv, .ref ek, .ref ev, .ref er, .ref es, .ref et])), (bk, .inl (g.2.1.1, 24, .inl ck)), (bv, .inl (g.2.1.1, 24, .inl cv)), (br, .inl (g.2.1.1, 24, .inl cr))] := hD
  refine lv_iload_n hx hb dX7_takeOutChange_16 rfl (lv_at hl 0 rfl) ?_
  refine lv_istore_n (lv' := [(3, .int (nI ic)), (2, .int (nI ic)), (0, .ref h), (1, .int x)]) hx hb dX7_takeOutChange_17 rfl hl (by decide) rfl (fun ls hl => ?_)
  have L18 : ∀ (n9 : Nat) (k : Nat) (u : Nat → Int32) (w : Nat → Int32) (t : Nat → Int32) (H : Heap) (locs : List Loc) (ls : Array Slot), (ic ≤ k ∧ k ≤ nB - 1) → (u = kshl ck ic k) → (w = kshl cv ic k) → (t = kshl cr ic k) → nB - 1 - k < n9 → va_P g.1 vwCl [(h, .inr (9, [.int zth, .int zsz, .int (nI (nB - 1)), .ref ak, .ref av, .ref bk, .ref bv, .ref br, .ref a_s, .ref a_t, .int zsg, .ref g1, .ref g2, .ref g3, .long zl1, .long zl2, .long zl3, .long zl4, .int zpb, .ref pa, .ref ru, .ref tx, .int zln, .int zat, .int zrk, .int zrv, .int zre, .int zwr, .int zrm, .int zrs, .int zis, .int zss, .int zsc, .ref dk, .ref dv, .ref ek, .ref ev, .ref er, .ref es, .ref et])), (bk, .inl (g.2.1.1, 24, .inl u)), (bv, .inl (g.2.1.1, 24, .inl w)), (br, .inl (g.2.1.1, 24, .inl t))] H → va_D A [(h, .inr (9, [.int zth, .int zsz, .int (nI (nB - 1)), .ref ak, .ref av, .ref bk, .ref bv, .ref br, .ref a_s, .ref a_t, .int zsg, .ref g1, .ref g2, .ref g3, .long zl1, .long zl2, .long zl3, .long zl4, .int zpb, .ref pa, .ref ru, .ref tx, .int zln, .int zat, .int zrk, .int zrv, .int zre, .int zwr, .int zrm, .int zrs, .int zis, .int zss, .int zsc, .ref dk, .ref dv, .ref ek, .ref ev, .ref er, .ref es, .ref et])), (bk, .inl (g.2.1.1, 24, .inl u)), (bv, .inl (g.2.1.1, 24, .inl w)), (br, .inl (g.2.1.1, 24, .inl t))] → va_S A s.heap H locs → lv_has ls 4 [(3, .int (nI k)), (2, .int (nI ic)), (0, .ref h), (1, .int x)] → W p l e rm_X7_takeOutChange s m ([.ref h, .int x] : List Value).toArray below meth cd H locs 0 0 (kQv g 4 A (p_X7_takeOutChange g h zth zsz zsg zl1 zl2 zl3 zl4 zpb zln zat zrk zrv zre zwr zrm zrs zis zss zsc ak av bk bv br a_s a_t g1 g2 g3 pa ru tx dk dv ek ev er es et nB ck cv cr x) below ([.ref h, .int x] : List Value).toArray s) (F0 m 18 ls []) := by
    intro n9
    induction n9 with
    | zero => intro k u w t H locs ls hk hu hw ht h9; exact absurd h9 (Nat.not_lt_zero _)
    | succ n9 ih18 =>
      intro k u w t H locs ls hk hu hw ht hn18 hP hD hS hl
      refine lv_iload_n hx hb dX7_takeOutChange_18 rfl (lv_at hl 0 rfl) ?_
      refine lv_aload_n hx hb dX7_takeOutChange_19 rfl (lv_at hl 2 rfl) ?_
      refine va_get (D := g.1) (ci := 9) (v := .int (nI (nB - 1))) (C := RX7) (T := TX7) (N := 40) hx hb hts (by decide +kernel) hown hK hP 0 rfl rfl 2 (by decide) (hts (.fieldLink RX7 82 "LearnedIndexModel" "changes" "I") (by decide +kernel)) (fun _ h9 => h9) rfl dX7_takeOutChange_20 ?_
      refine lv_icmp_ge (tgt := 74) hx hb dX7_takeOutChange_23 (by decide) (fun c_23 => ?_) (fun c_23 => ?_)
      · skip
        have hkn : nB - 1 ≤ k := kg (by omega) (by omega) c_23
        have hke : k = nB - 1 := by omega
        exact kretv hx hb hRt hlk hK hP hD hS rfl dX7_takeOutChange_74 (⟨nB - 1, _, _, _, by rw [hu, hw, ht, hke, takeOut_L hcf.1]; exact erase_flt _ ic x hso (fun e9 he => by rw [EL_get, if_pos hcf.1] at he; cases he; exact hcf.2) (by rw [EL_len]; exact hcf.1), rfl⟩)
      · skip
        have hkn : k < nB - 1 := kl (by omega) (by omega) c_23
        refine lv_aload_n hx hb dX7_takeOutChange_26 rfl (lv_at hl 2 rfl) ?_
        refine va_get (D := g.1) (ci := 9) (v := .ref bk) (C := RX7) (T := TX7) (N := 40) hx hb hts (by decide +kernel) hown hK hP 0 rfl rfl 5 (by decide) (hts (.fieldLink RX7 16 "LearnedIndexModel" "changedKeys" "[I") (by decide +kernel)) (fun _ h9 => h9) rfl dX7_takeOutChange_27 ?_
        refine lv_iload_n hx hb dX7_takeOutChange_30 rfl (lv_at hl 0 rfl) ?_
        refine lv_aload_n hx hb dX7_takeOutChange_31 rfl (lv_at hl 2 rfl) ?_
        refine va_get (D := g.1) (ci := 9) (v := .ref bk) (C := RX7) (T := TX7) (N := 40) hx hb hts (by decide +kernel) hown hK hP 0 rfl rfl 5 (by decide) (hts (.fieldLink RX7 16 "LearnedIndexModel" "changedKeys" "[I") (by decide +kernel)) (fun _ h9 => h9) rfl dX7_takeOutChange_32 ?_
        refine lv_iload_n hx hb dX7_takeOutChange_35 rfl (lv_at hl 0 rfl) ?_
        refine lv_iconst (v := 1) hx hb dX7_takeOutChange_36 (by decide) ?_
        refine lv_iadd hx hb dX7_takeOutChange_37 ?_
        rw [show (nI k) + 1 = nI (k + 1) from nI_1 k]
        refine va_iald hx hb hK hP 1 0 rfl rfl (vp_in_nI (show k + 1 < 24 by omega) (by omega)) dX7_takeOutChange_38 ?_
        rw [show (nI (k + 1) : Int32).toNatClampNeg = k + 1 from nI_clamp (n := k + 1) (by omega)]
        refine va_iast hx hb hK hP hD hS 1 0 rfl rfl (vp_in_nI (show k < 24 by omega) (by omega)) dX7_takeOutChange_39 (fun H locs hP hD hS => ?_)
        rw [show (nI k : Int32).toNatClampNeg = k from nI_clamp (n := k) (by omega)] at hP hD
        have hP : va_P g.1 vwCl [(h, .inr (9, [.int zth, .int zsz, .int (nI (nB - 1)), .ref ak, .ref av, .ref bk, .ref bv, .ref br, .ref a_s, .ref a_t, .int zsg, .ref g1, .ref g2, .ref g3, .long zl1, .long zl2, .long zl3, .long zl4, .int zpb, .ref pa, .ref ru, .ref tx, .int zln, .int zat, .int zrk, .int zrv, .int zre, .int zwr, .int zrm, .int zrs, .int zis, .int zss, .int zsc, .ref dk, .ref dv, .ref ek, .ref ev, .ref er, .ref es, .ref et])), (bk, .inl (g.2.1.1, 24, .inl (upd u k (u (k + 1))))), (bv, .inl (g.2.1.1, 24, .inl w)), (br, .inl (g.2.1.1, 24, .inl t))] H := hP
        have hD : va_D A [(h, .inr (9, [.int zth, .int zsz, .int (nI (nB - 1)), .ref ak, .ref av, .ref bk, .ref bv, .ref br, .ref a_s, .ref a_t, .int zsg, .ref g1, .ref g2, .ref g3, .long zl1, .long zl2, .long zl3, .long zl4, .int zpb, .ref pa, .ref ru, .ref tx, .int zln, .int zat, .int zrk, .int zrv, .int zre, .int zwr, .int zrm, .int zrs, .int zis, .int zss, .int zsc, .ref dk, .ref dv, .ref ek, .ref ev, .ref er, .ref es, .ref et])), (bk, .inl (g.2.1.1, 24, .inl (upd u k (u (k + 1))))), (bv, .inl (g.2.1.1, 24, .inl w)), (br, .inl (g.2.1.1, 24, .inl t))] := hD
        refine lv_aload_n hx hb dX7_takeOutChange_40 rfl (lv_at hl 2 rfl) ?_
        refine va_get (D := g.1) (ci := 9) (v := .ref br) (C := RX7) (T := TX7) (N := 40) hx hb hts (by decide +kernel) hown hK hP 0 rfl rfl 7 (by decide) (hts (.fieldLink RX7 22 "LearnedIndexModel" "changedKinds" "[I") (by decide +kernel)) (fun _ h9 => h9) rfl dX7_takeOutChange_41 ?_
        refine lv_iload_n hx hb dX7_takeOutChange_44 rfl (lv_at hl 0 rfl) ?_
        refine lv_aload_n hx hb dX7_takeOutChange_45 rfl (lv_at hl 2 rfl) ?_
        refine va_get (D := g.1) (ci := 9) (v := .ref br) (C := RX7) (T := TX7) (N := 40) hx hb hts (by decide +kernel) hown hK hP 0 rfl rfl 7 (by decide) (hts (.fieldLink RX7 22 "LearnedIndexModel" "changedKinds" "[I") (by decide +kernel)) (fun _ h9 => h9) rfl dX7_takeOutChange_46 ?_
        refine lv_iload_n hx hb dX7_takeOutChange_49 rfl (lv_at hl 0 rfl) ?_
        refine lv_iconst (v := 1) hx hb dX7_takeOutChange_50 (by decide) ?_
        refine lv_iadd hx hb dX7_takeOutChange_51 ?_
        rw [show (nI k) + 1 = nI (k + 1) from nI_1 k]
        refine va_iald hx hb hK hP 3 0 rfl rfl (vp_in_nI (show k + 1 < 24 by omega) (by omega)) dX7_takeOutChange_52 ?_
        rw [show (nI (k + 1) : Int32).toNatClampNeg = k + 1 from nI_clamp (n := k + 1) (by omega)]
        refine va_iast hx hb hK hP hD hS 3 0 rfl rfl (vp_in_nI (show k < 24 by omega) (by omega)) dX7_takeOutChange_53 (fun H locs hP hD hS => ?_)
        rw [show (nI k : Int32).toNatClampNeg = k from nI_clamp (n := k) (by omega)] at hP hD
        have hP : va_P g.1 vwCl [(h, .inr (9, [.int zth, .int zsz, .int (nI (nB - 1)), .ref ak, .ref av, .ref bk, .ref bv, .ref br, .ref a_s, .ref a_t, .int zsg, .ref g1, .ref g2, .ref g3, .long zl1, .long zl2, .long zl3, .long zl4, .int zpb, .ref pa, .ref ru, .ref tx, .int zln, .int zat, .int zrk, .int zrv, .int zre, .int zwr, .int zrm, .int zrs, .int zis, .int zss, .int zsc, .ref dk, .ref dv, .ref ek, .ref ev, .ref er, .ref es, .ref et])), (bk, .inl (g.2.1.1, 24, .inl (upd u k (u (k + 1))))), (bv, .inl (g.2.1.1, 24, .inl w)), (br, .inl (g.2.1.1, 24, .inl (upd t k (t (k + 1)))))] H := hP
        have hD : va_D A [(h, .inr (9, [.int zth, .int zsz, .int (nI (nB - 1)), .ref ak, .ref av, .ref bk, .ref bv, .ref br, .ref a_s, .ref a_t, .int zsg, .ref g1, .ref g2, .ref g3, .long zl1, .long zl2, .long zl3, .long zl4, .int zpb, .ref pa, .ref ru, .ref tx, .int zln, .int zat, .int zrk, .int zrv, .int zre, .int zwr, .int zrm, .int zrs, .int zis, .int zss, .int zsc, .ref dk, .ref dv, .ref ek, .ref ev, .ref er, .ref es, .ref et])), (bk, .inl (g.2.1.1, 24, .inl (upd u k (u (k + 1))))), (bv, .inl (g.2.1.1, 24, .inl w)), (br, .inl (g.2.1.1, 24, .inl (upd t k (t (k + 1)))))] := hD
        refine lv_aload_n hx hb dX7_takeOutChange_54 rfl (lv_at hl 2 rfl) ?_
        refine va_get (D := g.1) (ci := 9) (v := .ref bv) (C := RX7) (T := TX7) (N := 40) hx hb hts (by decide +kernel) hown hK hP 0 rfl rfl 6 (by decide) (hts (.fieldLink RX7 19 "LearnedIndexModel" "changedValues" "[I") (by decide +kernel)) (fun _ h9 => h9) rfl dX7_takeOutChange_55 ?_
        refine lv_iload_n hx hb dX7_takeOutChange_58 rfl (lv_at hl 0 rfl) ?_
        refine lv_aload_n hx hb dX7_takeOutChange_59 rfl (lv_at hl 2 rfl) ?_
        refine va_get (D := g.1) (ci := 9) (v := .ref bv) (C := RX7) (T := TX7) (N := 40) hx hb hts (by decide +kernel) hown hK hP 0 rfl rfl 6 (by decide) (hts (.fieldLink RX7 19 "LearnedIndexModel" "changedValues" "[I") (by decide +kernel)) (fun _ h9 => h9) rfl dX7_takeOutChange_60 ?_
        refine lv_iload_n hx hb dX7_takeOutChange_63 rfl (lv_at hl 0 rfl) ?_
        refine lv_iconst (v := 1) hx hb dX7_takeOutChange_64 (by decide) ?_
        refine lv_iadd hx hb dX7_takeOutChange_65 ?_
        rw [show (nI k) + 1 = nI (k + 1) from nI_1 k]
        refine va_iald hx hb hK hP 2 0 rfl rfl (vp_in_nI (show k + 1 < 24 by omega) (by omega)) dX7_takeOutChange_66 ?_
        rw [show (nI (k + 1) : Int32).toNatClampNeg = k + 1 from nI_clamp (n := k + 1) (by omega)]
        refine va_iast hx hb hK hP hD hS 2 0 rfl rfl (vp_in_nI (show k < 24 by omega) (by omega)) dX7_takeOutChange_67 (fun H locs hP hD hS => ?_)
        rw [show (nI k : Int32).toNatClampNeg = k from nI_clamp (n := k) (by omega)] at hP hD
        have hP : va_P g.1 vwCl [(h, .inr (9, [.int zth, .int zsz, .int (nI (nB - 1)), .ref ak, .ref av, .ref bk, .ref bv, .ref br, .ref a_s, .ref a_t, .int zsg, .ref g1, .ref g2, .ref g3, .long zl1, .long zl2, .long zl3, .long zl4, .int zpb, .ref pa, .ref ru, .ref tx, .int zln, .int zat, .int zrk, .int zrv, .int zre, .int zwr, .int zrm, .int zrs, .int zis, .int zss, .int zsc, .ref dk, .ref dv, .ref ek, .ref ev, .ref er, .ref es, .ref et])), (bk, .inl (g.2.1.1, 24, .inl (upd u k (u (k + 1))))), (bv, .inl (g.2.1.1, 24, .inl (upd w k (w (k + 1))))), (br, .inl (g.2.1.1, 24, .inl (upd t k (t (k + 1)))))] H := hP
        have hD : va_D A [(h, .inr (9, [.int zth, .int zsz, .int (nI (nB - 1)), .ref ak, .ref av, .ref bk, .ref bv, .ref br, .ref a_s, .ref a_t, .int zsg, .ref g1, .ref g2, .ref g3, .long zl1, .long zl2, .long zl3, .long zl4, .int zpb, .ref pa, .ref ru, .ref tx, .int zln, .int zat, .int zrk, .int zrv, .int zre, .int zwr, .int zrm, .int zrs, .int zis, .int zss, .int zsc, .ref dk, .ref dv, .ref ek, .ref ev, .ref er, .ref es, .ref et])), (bk, .inl (g.2.1.1, 24, .inl (upd u k (u (k + 1))))), (bv, .inl (g.2.1.1, 24, .inl (upd w k (w (k + 1))))), (br, .inl (g.2.1.1, 24, .inl (upd t k (t (k + 1)))))] := hD
        refine lv_iinc (v := nI (k + 1)) (lv' := [(3, .int (nI (k + 1))), (2, .int (nI ic)), (0, .ref h), (1, .int x)]) hx hb dX7_takeOutChange_68 hl (k := 0) rfl (nI_1 k) (by decide) rfl (fun ls hl => ?_)
        refine lv_goto (tgt := 18) hx hb dX7_takeOutChange_71 (by decide) ?_
        exact ih18 (k + 1) (upd u k (u (k + 1))) (upd w k (w (k + 1))) (upd t k (t (k + 1))) _ _ ls (⟨by omega, by omega⟩) (by rw [hu]; exact kshl_t hk.1) (by rw [hw]; exact kshl_t hk.1) (by rw [ht]; exact kshl_t hk.1) (by omega) hP hD hS (lv_sub hl [0, 1, 2, 3] rfl)
  exact L18 _ ic ck cv cr _ _ ls (⟨Nat.le_refl _, by omega⟩) (kshl_0 ck ic) (kshl_0 cv ic) (kshl_0 cr ic) (Nat.lt_succ_self _) hP hD hS (lv_sub hl [0, 1, 2, 3] rfl)
theorem dX7_insertMain_0 : decode cX7_insertMain 0 = .ok (.aload_n 0, 1) := by decide +kernel
theorem dX7_insertMain_1 : decode cX7_insertMain 1 = .ok (.getfield 79, 3) := by decide +kernel
theorem dX7_insertMain_4 : decode cX7_insertMain 4 = .ok (.istore_n 3, 1) := by decide +kernel
theorem dX7_insertMain_5 : decode cX7_insertMain 5 = .ok (.iload_n 3, 1) := by decide +kernel
theorem dX7_insertMain_6 : decode cX7_insertMain 6 = .ok (.ifCond .le 49, 3) := by decide +kernel
theorem dX7_insertMain_9 : decode cX7_insertMain 9 = .ok (.aload_n 0, 1) := by decide +kernel
theorem dX7_insertMain_10 : decode cX7_insertMain 10 = .ok (.getfield 9, 3) := by decide +kernel
theorem dX7_insertMain_13 : decode cX7_insertMain 13 = .ok (.iload_n 3, 1) := by decide +kernel
theorem dX7_insertMain_14 : decode cX7_insertMain 14 = .ok (.iconst 1, 1) := by decide +kernel
theorem dX7_insertMain_15 : decode cX7_insertMain 15 = .ok (.isub, 1) := by decide +kernel
theorem dX7_insertMain_16 : decode cX7_insertMain 16 = .ok (.iaload, 1) := by decide +kernel
theorem dX7_insertMain_17 : decode cX7_insertMain 17 = .ok (.iload_n 1, 1) := by decide +kernel
theorem dX7_insertMain_18 : decode cX7_insertMain 18 = .ok (.if_icmp .le 37, 3) := by decide +kernel
theorem dX7_insertMain_21 : decode cX7_insertMain 21 = .ok (.aload_n 0, 1) := by decide +kernel
theorem dX7_insertMain_22 : decode cX7_insertMain 22 = .ok (.getfield 9, 3) := by decide +kernel
theorem dX7_insertMain_25 : decode cX7_insertMain 25 = .ok (.iload_n 3, 1) := by decide +kernel
theorem dX7_insertMain_26 : decode cX7_insertMain 26 = .ok (.aload_n 0, 1) := by decide +kernel
theorem dX7_insertMain_27 : decode cX7_insertMain 27 = .ok (.getfield 9, 3) := by decide +kernel
theorem dX7_insertMain_30 : decode cX7_insertMain 30 = .ok (.iload_n 3, 1) := by decide +kernel
theorem dX7_insertMain_31 : decode cX7_insertMain 31 = .ok (.iconst 1, 1) := by decide +kernel
theorem dX7_insertMain_32 : decode cX7_insertMain 32 = .ok (.isub, 1) := by decide +kernel
theorem dX7_insertMain_33 : decode cX7_insertMain 33 = .ok (.iaload, 1) := by decide +kernel
theorem dX7_insertMain_34 : decode cX7_insertMain 34 = .ok (.iastore, 1) := by decide +kernel
theorem dX7_insertMain_35 : decode cX7_insertMain 35 = .ok (.aload_n 0, 1) := by decide +kernel
theorem dX7_insertMain_36 : decode cX7_insertMain 36 = .ok (.getfield 13, 3) := by decide +kernel
theorem dX7_insertMain_39 : decode cX7_insertMain 39 = .ok (.iload_n 3, 1) := by decide +kernel
theorem dX7_insertMain_40 : decode cX7_insertMain 40 = .ok (.aload_n 0, 1) := by decide +kernel
theorem dX7_insertMain_41 : decode cX7_insertMain 41 = .ok (.getfield 13, 3) := by decide +kernel
theorem dX7_insertMain_44 : decode cX7_insertMain 44 = .ok (.iload_n 3, 1) := by decide +kernel
theorem dX7_insertMain_45 : decode cX7_insertMain 45 = .ok (.iconst 1, 1) := by decide +kernel
theorem dX7_insertMain_46 : decode cX7_insertMain 46 = .ok (.isub, 1) := by decide +kernel
theorem dX7_insertMain_47 : decode cX7_insertMain 47 = .ok (.iaload, 1) := by decide +kernel
theorem dX7_insertMain_48 : decode cX7_insertMain 48 = .ok (.iastore, 1) := by decide +kernel
theorem dX7_insertMain_49 : decode cX7_insertMain 49 = .ok (.iinc 3 (-1), 3) := by decide +kernel
theorem dX7_insertMain_52 : decode cX7_insertMain 52 = .ok (.goto (-47), 3) := by decide +kernel
theorem dX7_insertMain_55 : decode cX7_insertMain 55 = .ok (.aload_n 0, 1) := by decide +kernel
theorem dX7_insertMain_56 : decode cX7_insertMain 56 = .ok (.getfield 9, 3) := by decide +kernel
theorem dX7_insertMain_59 : decode cX7_insertMain 59 = .ok (.iload_n 3, 1) := by decide +kernel
theorem dX7_insertMain_60 : decode cX7_insertMain 60 = .ok (.iload_n 1, 1) := by decide +kernel
theorem dX7_insertMain_61 : decode cX7_insertMain 61 = .ok (.iastore, 1) := by decide +kernel
theorem dX7_insertMain_62 : decode cX7_insertMain 62 = .ok (.aload_n 0, 1) := by decide +kernel
theorem dX7_insertMain_63 : decode cX7_insertMain 63 = .ok (.getfield 13, 3) := by decide +kernel
theorem dX7_insertMain_66 : decode cX7_insertMain 66 = .ok (.iload_n 3, 1) := by decide +kernel
theorem dX7_insertMain_67 : decode cX7_insertMain 67 = .ok (.iload_n 2, 1) := by decide +kernel
theorem dX7_insertMain_68 : decode cX7_insertMain 68 = .ok (.iastore, 1) := by decide +kernel
theorem dX7_insertMain_69 : decode cX7_insertMain 69 = .ok (.aload_n 0, 1) := by decide +kernel
theorem dX7_insertMain_70 : decode cX7_insertMain 70 = .ok (.dup, 1) := by decide +kernel
theorem dX7_insertMain_71 : decode cX7_insertMain 71 = .ok (.getfield 79, 3) := by decide +kernel
theorem dX7_insertMain_74 : decode cX7_insertMain 74 = .ok (.iconst 1, 1) := by decide +kernel
theorem dX7_insertMain_75 : decode cX7_insertMain 75 = .ok (.iadd, 1) := by decide +kernel
theorem dX7_insertMain_76 : decode cX7_insertMain 76 = .ok (.putfield 79, 3) := by decide +kernel
theorem dX7_insertMain_79 : decode cX7_insertMain 79 = .ok (.return_, 1) := by decide +kernel
def rm_X7_insertMain : Room := { frames := 0, cells := 0, slots := 0, locals := 0 }
abbrev p_X7_insertMain (g : kG) (h : Nat) (zth : Int32) (zch : Int32) (zsg : Int32) (zl1 : Int64) (zl2 : Int64) (zl3 : Int64) (zl4 : Int64) (zpb : Int32) (zln : Int32) (zat : Int32) (zrk : Int32) (zrv : Int32) (zre : Int32) (zwr : Int32) (zrm : Int32) (zrs : Int32) (zis : Int32) (zss : Int32) (zsc : Int32) (ak : Nat) (av : Nat) (bk : Nat) (bv : Nat) (br : Nat) (a_s : Nat) (a_t : Nat) (g1 : Nat) (g2 : Nat) (g3 : Nat) (pa : Nat) (ru : Nat) (tx : Nat) (dk : Nat) (dv : Nat) (ek : Nat) (ev : Nat) (er : Nat) (es : Nat) (et : Nat) (nA : Nat) (fk : Nat → Int32) (fv : Nat → Int32) (x : Int32) (v : Int32) : va_W → Prop := fun w1 => ∃ (fk2 : Nat → Int32), ∃ (fv2 : Nat → Int32), (EL (nA + 1) fk2 fv2 fz0 = kput (x, v, 0) (EL nA fk fv fz0)) ∧ w1 = [(h, .inr (9, [.int zth, .int (nI (nA + 1)), .int zch, .ref ak, .ref av, .ref bk, .ref bv, .ref br, .ref a_s, .ref a_t, .int zsg, .ref g1, .ref g2, .ref g3, .long zl1, .long zl2, .long zl3, .long zl4, .int zpb, .ref pa, .ref ru, .ref tx, .int zln, .int zat, .int zrk, .int zrv, .int zre, .int zwr, .int zrm, .int zrs, .int zis, .int zss, .int zsc, .ref dk, .ref dv, .ref ek, .ref ev, .ref er, .ref es, .ref et])), (ak, .inl (g.2.1.1, 152, .inl fk2)), (av, .inl (g.2.1.1, 152, .inl fv2))]
set_option maxHeartbeats 4000000 in
set_option maxRecDepth 100000 in
theorem c_X7_insertMain (l : Launch) (g : kG) (h : Nat) (zth : Int32) (zch : Int32) (zsg : Int32) (zl1 : Int64) (zl2 : Int64) (zl3 : Int64) (zl4 : Int64) (zpb : Int32) (zln : Int32) (zat : Int32) (zrk : Int32) (zrv : Int32) (zre : Int32) (zwr : Int32) (zrm : Int32) (zrs : Int32) (zis : Int32) (zss : Int32) (zsc : Int32) (ak : Nat) (av : Nat) (bk : Nat) (bv : Nat) (br : Nat) (a_s : Nat) (a_t : Nat) (g1 : Nat) (g2 : Nat) (g3 : Nat) (pa : Nat) (ru : Nat) (tx : Nat) (dk : Nat) (dv : Nat) (ek : Nat) (ev : Nat) (er : Nat) (es : Nat) (et : Nat) (nA : Nat) (fk : Nat → Int32) (fv : Nat → Int32) (x : Int32) (v : Int32) (hso : kSo (EL nA fk fv fz0)) (hn : nA ≤ 150) (hno : ∀ j, j < nA → ¬ fk j = x) : KV l yX7_insertMain wsX7_insertMain rm_X7_insertMain g [.ref h, .int x, .int v] [(h, .inr (9, [.int zth, .int (nI nA), .int zch, .ref ak, .ref av, .ref bk, .ref bv, .ref br, .ref a_s, .ref a_t, .int zsg, .ref g1, .ref g2, .ref g3, .long zl1, .long zl2, .long zl3, .long zl4, .int zpb, .ref pa, .ref ru, .ref tx, .int zln, .int zat, .int zrk, .int zrv, .int zre, .int zwr, .int zrm, .int zrs, .int zis, .int zss, .int zsc, .ref dk, .ref dv, .ref ek, .ref ev, .ref er, .ref es, .ref et])), (ak, .inl (g.2.1.1, 152, .inl fk)), (av, .inl (g.2.1.1, 152, .inl fv))] (p_X7_insertMain g h zth zch zsg zl1 zl2 zl3 zl4 zpb zln zat zrk zrv zre zwr zrm zrs zis zss zsc ak av bk bv br a_s a_t g1 g2 g3 pa ru tx dk dv ek ev er es et nA fk fv x v) := by
  refine kbodyV (cc := cX7_insertMain) (n := 4) (k := 3) (own := RX7) (plainFor_of_name (by decide)) rfl rfl rfl rfl ?_
  intro p e s m below meth cd A ls hcx
  obtain ⟨hx, hb, hRt, hml, hts, hown, hlk, hA, hP, hK, hD, hE, hS, hl⟩ := hcx
  have hl : lv_has ls 4 [(0, .ref h), (1, .int x), (2, .int v)] := hl
  obtain ⟨ic, hfc⟩ := kfst_ex fk x nA
  refine lv_aload_n hx hb dX7_insertMain_0 rfl (lv_at hl 0 rfl) ?_
  refine va_get (D := g.1) (ci := 9) (v := .int (nI nA)) (C := RX7) (T := TX7) (N := 40) hx hb hts (by decide +kernel) hown hK hP 0 rfl rfl 1 (by decide) (hts (.fieldLink RX7 79 "LearnedIndexModel" "size" "I") (by decide +kernel)) (fun _ h9 => h9) rfl dX7_insertMain_1 ?_
  refine lv_istore_n (lv' := [(3, .int (nI nA)), (0, .ref h), (1, .int x), (2, .int v)]) hx hb dX7_insertMain_4 rfl hl (by decide) rfl (fun ls hl => ?_)
  have L5 : ∀ (n9 : Nat) (q : Nat) (u : Nat → Int32) (w : Nat → Int32) (H : Heap) (locs : List Loc) (ls : Array Slot), (q ≤ nA ∧ 0 = 0) → (∀ j, q ≤ j → j < nA → x < fk j) → (u = kshr fk q nA) → (w = kshr fv q nA) → q < n9 → va_P g.1 vwCl [(h, .inr (9, [.int zth, .int (nI nA), .int zch, .ref ak, .ref av, .ref bk, .ref bv, .ref br, .ref a_s, .ref a_t, .int zsg, .ref g1, .ref g2, .ref g3, .long zl1, .long zl2, .long zl3, .long zl4, .int zpb, .ref pa, .ref ru, .ref tx, .int zln, .int zat, .int zrk, .int zrv, .int zre, .int zwr, .int zrm, .int zrs, .int zis, .int zss, .int zsc, .ref dk, .ref dv, .ref ek, .ref ev, .ref er, .ref es, .ref et])), (ak, .inl (g.2.1.1, 152, .inl u)), (av, .inl (g.2.1.1, 152, .inl w))] H → va_D A [(h, .inr (9, [.int zth, .int (nI nA), .int zch, .ref ak, .ref av, .ref bk, .ref bv, .ref br, .ref a_s, .ref a_t, .int zsg, .ref g1, .ref g2, .ref g3, .long zl1, .long zl2, .long zl3, .long zl4, .int zpb, .ref pa, .ref ru, .ref tx, .int zln, .int zat, .int zrk, .int zrv, .int zre, .int zwr, .int zrm, .int zrs, .int zis, .int zss, .int zsc, .ref dk, .ref dv, .ref ek, .ref ev, .ref er, .ref es, .ref et])), (ak, .inl (g.2.1.1, 152, .inl u)), (av, .inl (g.2.1.1, 152, .inl w))] → va_S A s.heap H locs → lv_has ls 4 [(3, .int (nI q)), (0, .ref h), (1, .int x), (2, .int v)] → W p l e rm_X7_insertMain s m ([.ref h, .int x, .int v] : List Value).toArray below meth cd H locs 0 0 (kQv g 3 A (p_X7_insertMain g h zth zch zsg zl1 zl2 zl3 zl4 zpb zln zat zrk zrv zre zwr zrm zrs zis zss zsc ak av bk bv br a_s a_t g1 g2 g3 pa ru tx dk dv ek ev er es et nA fk fv x v) below ([.ref h, .int x, .int v] : List Value).toArray s) (F0 m 5 ls []) := by
    intro n9
    induction n9 with
    | zero => intro q u w H locs ls hq hqa hu hw h9; exact absurd h9 (Nat.not_lt_zero _)
    | succ n9 ih5 =>
      intro q u w H locs ls hq hqa hu hw hn5 hP hD hS hl
      refine lv_iload_n hx hb dX7_insertMain_5 rfl (lv_at hl 0 rfl) ?_
      refine lv_if_le (tgt := 55) hx hb dX7_insertMain_6 (by decide) (fun c_6 => ?_) (fun c_6 => ?_)
      · skip
        have hq0 : q = 0 := by rw [show (0 : Int32) = nI 0 from rfl, nI_leI (by omega) (by decide)] at c_6; omega
        have hqe : q = ic := kfst_end hso hfc hq.1 hqa (Or.inl hq0) hno
        refine lv_aload_n hx hb dX7_insertMain_55 rfl (lv_at hl 1 rfl) ?_
        refine va_get (D := g.1) (ci := 9) (v := .ref ak) (C := RX7) (T := TX7) (N := 40) hx hb hts (by decide +kernel) hown hK hP 0 rfl rfl 3 (by decide) (hts (.fieldLink RX7 9 "LearnedIndexModel" "keys" "[I") (by decide +kernel)) (fun _ h9 => h9) rfl dX7_insertMain_56 ?_
        refine lv_iload_n hx hb dX7_insertMain_59 rfl (lv_at hl 0 rfl) ?_
        refine lv_iload_n hx hb dX7_insertMain_60 rfl (lv_at hl 2 rfl) ?_
        refine va_iast hx hb hK hP hD hS 1 0 rfl rfl (vp_in_nI (show q < 152 by omega) (by omega)) dX7_insertMain_61 (fun H locs hP hD hS => ?_)
        rw [show (nI q : Int32).toNatClampNeg = q from nI_clamp (n := q) (by omega)] at hP hD
        have hP : va_P g.1 vwCl [(h, .inr (9, [.int zth, .int (nI nA), .int zch, .ref ak, .ref av, .ref bk, .ref bv, .ref br, .ref a_s, .ref a_t, .int zsg, .ref g1, .ref g2, .ref g3, .long zl1, .long zl2, .long zl3, .long zl4, .int zpb, .ref pa, .ref ru, .ref tx, .int zln, .int zat, .int zrk, .int zrv, .int zre, .int zwr, .int zrm, .int zrs, .int zis, .int zss, .int zsc, .ref dk, .ref dv, .ref ek, .ref ev, .ref er, .ref es, .ref et])), (ak, .inl (g.2.1.1, 152, .inl (upd u q x))), (av, .inl (g.2.1.1, 152, .inl w))] H := hP
        have hD : va_D A [(h, .inr (9, [.int zth, .int (nI nA), .int zch, .ref ak, .ref av, .ref bk, .ref bv, .ref br, .ref a_s, .ref a_t, .int zsg, .ref g1, .ref g2, .ref g3, .long zl1, .long zl2, .long zl3, .long zl4, .int zpb, .ref pa, .ref ru, .ref tx, .int zln, .int zat, .int zrk, .int zrv, .int zre, .int zwr, .int zrm, .int zrs, .int zis, .int zss, .int zsc, .ref dk, .ref dv, .ref ek, .ref ev, .ref er, .ref es, .ref et])), (ak, .inl (g.2.1.1, 152, .inl (upd u q x))), (av, .inl (g.2.1.1, 152, .inl w))] := hD
        refine lv_aload_n hx hb dX7_insertMain_62 rfl (lv_at hl 1 rfl) ?_
        refine va_get (D := g.1) (ci := 9) (v := .ref av) (C := RX7) (T := TX7) (N := 40) hx hb hts (by decide +kernel) hown hK hP 0 rfl rfl 4 (by decide) (hts (.fieldLink RX7 13 "LearnedIndexModel" "values" "[I") (by decide +kernel)) (fun _ h9 => h9) rfl dX7_insertMain_63 ?_
        refine lv_iload_n hx hb dX7_insertMain_66 rfl (lv_at hl 0 rfl) ?_
        refine lv_iload_n hx hb dX7_insertMain_67 rfl (lv_at hl 3 rfl) ?_
        refine va_iast hx hb hK hP hD hS 2 0 rfl rfl (vp_in_nI (show q < 152 by omega) (by omega)) dX7_insertMain_68 (fun H locs hP hD hS => ?_)
        rw [show (nI q : Int32).toNatClampNeg = q from nI_clamp (n := q) (by omega)] at hP hD
        have hP : va_P g.1 vwCl [(h, .inr (9, [.int zth, .int (nI nA), .int zch, .ref ak, .ref av, .ref bk, .ref bv, .ref br, .ref a_s, .ref a_t, .int zsg, .ref g1, .ref g2, .ref g3, .long zl1, .long zl2, .long zl3, .long zl4, .int zpb, .ref pa, .ref ru, .ref tx, .int zln, .int zat, .int zrk, .int zrv, .int zre, .int zwr, .int zrm, .int zrs, .int zis, .int zss, .int zsc, .ref dk, .ref dv, .ref ek, .ref ev, .ref er, .ref es, .ref et])), (ak, .inl (g.2.1.1, 152, .inl (upd u q x))), (av, .inl (g.2.1.1, 152, .inl (upd w q v)))] H := hP
        have hD : va_D A [(h, .inr (9, [.int zth, .int (nI nA), .int zch, .ref ak, .ref av, .ref bk, .ref bv, .ref br, .ref a_s, .ref a_t, .int zsg, .ref g1, .ref g2, .ref g3, .long zl1, .long zl2, .long zl3, .long zl4, .int zpb, .ref pa, .ref ru, .ref tx, .int zln, .int zat, .int zrk, .int zrv, .int zre, .int zwr, .int zrm, .int zrs, .int zis, .int zss, .int zsc, .ref dk, .ref dv, .ref ek, .ref ev, .ref er, .ref es, .ref et])), (ak, .inl (g.2.1.1, 152, .inl (upd u q x))), (av, .inl (g.2.1.1, 152, .inl (upd w q v)))] := hD
        refine lv_aload_n hx hb dX7_insertMain_69 rfl (lv_at hl 1 rfl) ?_
        refine lv_dup hx hb dX7_insertMain_70 rfl ?_
        refine va_get (D := g.1) (ci := 9) (v := .int (nI nA)) (C := RX7) (T := TX7) (N := 40) hx hb hts (by decide +kernel) hown hK hP 0 rfl rfl 1 (by decide) (hts (.fieldLink RX7 79 "LearnedIndexModel" "size" "I") (by decide +kernel)) (fun _ h9 => h9) rfl dX7_insertMain_71 ?_
        refine lv_iconst (v := 1) hx hb dX7_insertMain_74 (by decide) ?_
        refine lv_iadd hx hb dX7_insertMain_75 ?_
        rw [show (nI nA) + 1 = nI (nA + 1) from nI_1 nA]
        refine va_put (D := g.1) (ci := 9) (v := .int (nI (nA + 1))) (ty := .int) (C := RX7) (T := TX7) (N := 40) hx hb hts (by decide +kernel) tyX7 tyX7_ok nmX7 hown hK hP hD hS 0 rfl rfl 1 (by decide) (hts (.fieldLink RX7 79 "LearnedIndexModel" "size" "I") (by decide +kernel)) (fun _ h9 => h9) rfl (by decide +kernel) rfl rfl (Nat.le_of_ble_eq_true rfl) dX7_insertMain_76 (fun H locs hP hD hS => ?_)
        have hP : va_P g.1 vwCl [(h, .inr (9, [.int zth, .int (nI (nA + 1)), .int zch, .ref ak, .ref av, .ref bk, .ref bv, .ref br, .ref a_s, .ref a_t, .int zsg, .ref g1, .ref g2, .ref g3, .long zl1, .long zl2, .long zl3, .long zl4, .int zpb, .ref pa, .ref ru, .ref tx, .int zln, .int zat, .int zrk, .int zrv, .int zre, .int zwr, .int zrm, .int zrs, .int zis, .int zss, .int zsc, .ref dk, .ref dv, .ref ek, .ref ev, .ref er, .ref es, .ref et])), (ak, .inl (g.2.1.1, 152, .inl (upd u q x))), (av, .inl (g.2.1.1, 152, .inl (upd w q v)))] H := hP
        have hD : va_D A [(h, .inr (9, [.int zth, .int (nI (nA + 1)), .int zch, .ref ak, .ref av, .ref bk, .ref bv, .ref br, .ref a_s, .ref a_t, .int zsg, .ref g1, .ref g2, .ref g3, .long zl1, .long zl2, .long zl3, .long zl4, .int zpb, .ref pa, .ref ru, .ref tx, .int zln, .int zat, .int zrk, .int zrv, .int zre, .int zwr, .int zrm, .int zrs, .int zis, .int zss, .int zsc, .ref dk, .ref dv, .ref ek, .ref ev, .ref er, .ref es, .ref et])), (ak, .inl (g.2.1.1, 152, .inl (upd u q x))), (av, .inl (g.2.1.1, 152, .inl (upd w q v)))] := hD
        exact kretv hx hb hRt hlk hK hP hD hS rfl dX7_insertMain_79 (⟨_, _, by rw [hu, hw, hqe]; have h9 := enter_new (fv := fv) (fr := fz0) (v := v) (b := 0) hfc (fun z => hno _ z.1 z.2); rw [kshr_fz, upd_fz] at h9; exact h9, rfl⟩)
      · skip
        have hq0 : 0 < q := by rw [show (0 : Int32) = nI 0 from rfl, nI_leI (by omega) (by decide)] at c_6; omega
        refine lv_aload_n hx hb dX7_insertMain_9 rfl (lv_at hl 1 rfl) ?_
        refine va_get (D := g.1) (ci := 9) (v := .ref ak) (C := RX7) (T := TX7) (N := 40) hx hb hts (by decide +kernel) hown hK hP 0 rfl rfl 3 (by decide) (hts (.fieldLink RX7 9 "LearnedIndexModel" "keys" "[I") (by decide +kernel)) (fun _ h9 => h9) rfl dX7_insertMain_10 ?_
        refine lv_iload_n hx hb dX7_insertMain_13 rfl (lv_at hl 0 rfl) ?_
        refine lv_iconst (v := 1) hx hb dX7_insertMain_14 (by decide) ?_
        refine lv_isub hx hb dX7_insertMain_15 ?_
        rw [show (nI q) - 1 = nI (q - 1) from nI_s1 hq0]
        refine va_iald hx hb hK hP 1 0 rfl rfl (vp_in_nI (show q - 1 < 152 by omega) (by omega)) dX7_insertMain_16 ?_
        rw [show (nI (q - 1) : Int32).toNatClampNeg = q - 1 from nI_clamp (n := q - 1) (by omega)]
        refine lv_iload_n hx hb dX7_insertMain_17 rfl (lv_at hl 2 rfl) ?_
        have hu1 : u (q - 1) = fk (q - 1) := by rw [hu, kshr, if_neg (by omega)]
        refine lv_icmp_le (tgt := 55) hx hb dX7_insertMain_18 (by decide) (fun c_18 => ?_) (fun c_18 => ?_)
        · skip
          rw [hu1] at c_18
          have hqe : q = ic := kfst_end hso hfc hq.1 hqa (Or.inr (Int32.not_lt.mpr c_18)) hno
          refine lv_aload_n hx hb dX7_insertMain_55 rfl (lv_at hl 1 rfl) ?_
          refine va_get (D := g.1) (ci := 9) (v := .ref ak) (C := RX7) (T := TX7) (N := 40) hx hb hts (by decide +kernel) hown hK hP 0 rfl rfl 3 (by decide) (hts (.fieldLink RX7 9 "LearnedIndexModel" "keys" "[I") (by decide +kernel)) (fun _ h9 => h9) rfl dX7_insertMain_56 ?_
          refine lv_iload_n hx hb dX7_insertMain_59 rfl (lv_at hl 0 rfl) ?_
          refine lv_iload_n hx hb dX7_insertMain_60 rfl (lv_at hl 2 rfl) ?_
          refine va_iast hx hb hK hP hD hS 1 0 rfl rfl (vp_in_nI (show q < 152 by omega) (by omega)) dX7_insertMain_61 (fun H locs hP hD hS => ?_)
          rw [show (nI q : Int32).toNatClampNeg = q from nI_clamp (n := q) (by omega)] at hP hD
          have hP : va_P g.1 vwCl [(h, .inr (9, [.int zth, .int (nI nA), .int zch, .ref ak, .ref av, .ref bk, .ref bv, .ref br, .ref a_s, .ref a_t, .int zsg, .ref g1, .ref g2, .ref g3, .long zl1, .long zl2, .long zl3, .long zl4, .int zpb, .ref pa, .ref ru, .ref tx, .int zln, .int zat, .int zrk, .int zrv, .int zre, .int zwr, .int zrm, .int zrs, .int zis, .int zss, .int zsc, .ref dk, .ref dv, .ref ek, .ref ev, .ref er, .ref es, .ref et])), (ak, .inl (g.2.1.1, 152, .inl (upd u q x))), (av, .inl (g.2.1.1, 152, .inl w))] H := hP
          have hD : va_D A [(h, .inr (9, [.int zth, .int (nI nA), .int zch, .ref ak, .ref av, .ref bk, .ref bv, .ref br, .ref a_s, .ref a_t, .int zsg, .ref g1, .ref g2, .ref g3, .long zl1, .long zl2, .long zl3, .long zl4, .int zpb, .ref pa, .ref ru, .ref tx, .int zln, .int zat, .int zrk, .int zrv, .int zre, .int zwr, .int zrm, .int zrs, .int zis, .int zss, .int zsc, .ref dk, .ref dv, .ref ek, .ref ev, .ref er, .ref es, .ref et])), (ak, .inl (g.2.1.1, 152, .inl (upd u q x))), (av, .inl (g.2.1.1, 152, .inl w))] := hD
          refine lv_aload_n hx hb dX7_insertMain_62 rfl (lv_at hl 1 rfl) ?_
          refine va_get (D := g.1) (ci := 9) (v := .ref av) (C := RX7) (T := TX7) (N := 40) hx hb hts (by decide +kernel) hown hK hP 0 rfl rfl 4 (by decide) (hts (.fieldLink RX7 13 "LearnedIndexModel" "values" "[I") (by decide +kernel)) (fun _ h9 => h9) rfl dX7_insertMain_63 ?_
          refine lv_iload_n hx hb dX7_insertMain_66 rfl (lv_at hl 0 rfl) ?_
          refine lv_iload_n hx hb dX7_insertMain_67 rfl (lv_at hl 3 rfl) ?_
          refine va_iast hx hb hK hP hD hS 2 0 rfl rfl (vp_in_nI (show q < 152 by omega) (by omega)) dX7_insertMain_68 (fun H locs hP hD hS => ?_)
          rw [show (nI q : Int32).toNatClampNeg = q from nI_clamp (n := q) (by omega)] at hP hD
          have hP : va_P g.1 vwCl [(h, .inr (9, [.int zth, .int (nI nA), .int zch, .ref ak, .ref av, .ref bk, .ref bv, .ref br, .ref a_s, .ref a_t, .int zsg, .ref g1, .ref g2, .ref g3, .long zl1, .long zl2, .long zl3, .long zl4, .int zpb, .ref pa, .ref ru, .ref tx, .int zln, .int zat, .int zrk, .int zrv, .int zre, .int zwr, .int zrm, .int zrs, .int zis, .int zss, .int zsc, .ref dk, .ref dv, .ref ek, .ref ev, .ref er, .ref es, .ref et])), (ak, .inl (g.2.1.1, 152, .inl (upd u q x))), (av, .inl (g.2.1.1, 152, .inl (upd w q v)))] H := hP
          have hD : va_D A [(h, .inr (9, [.int zth, .int (nI nA), .int zch, .ref ak, .ref av, .ref bk, .ref bv, .ref br, .ref a_s, .ref a_t, .int zsg, .ref g1, .ref g2, .ref g3, .long zl1, .long zl2, .long zl3, .long zl4, .int zpb, .ref pa, .ref ru, .ref tx, .int zln, .int zat, .int zrk, .int zrv, .int zre, .int zwr, .int zrm, .int zrs, .int zis, .int zss, .int zsc, .ref dk, .ref dv, .ref ek, .ref ev, .ref er, .ref es, .ref et])), (ak, .inl (g.2.1.1, 152, .inl (upd u q x))), (av, .inl (g.2.1.1, 152, .inl (upd w q v)))] := hD
          refine lv_aload_n hx hb dX7_insertMain_69 rfl (lv_at hl 1 rfl) ?_
          refine lv_dup hx hb dX7_insertMain_70 rfl ?_
          refine va_get (D := g.1) (ci := 9) (v := .int (nI nA)) (C := RX7) (T := TX7) (N := 40) hx hb hts (by decide +kernel) hown hK hP 0 rfl rfl 1 (by decide) (hts (.fieldLink RX7 79 "LearnedIndexModel" "size" "I") (by decide +kernel)) (fun _ h9 => h9) rfl dX7_insertMain_71 ?_
          refine lv_iconst (v := 1) hx hb dX7_insertMain_74 (by decide) ?_
          refine lv_iadd hx hb dX7_insertMain_75 ?_
          rw [show (nI nA) + 1 = nI (nA + 1) from nI_1 nA]
          refine va_put (D := g.1) (ci := 9) (v := .int (nI (nA + 1))) (ty := .int) (C := RX7) (T := TX7) (N := 40) hx hb hts (by decide +kernel) tyX7 tyX7_ok nmX7 hown hK hP hD hS 0 rfl rfl 1 (by decide) (hts (.fieldLink RX7 79 "LearnedIndexModel" "size" "I") (by decide +kernel)) (fun _ h9 => h9) rfl (by decide +kernel) rfl rfl (Nat.le_of_ble_eq_true rfl) dX7_insertMain_76 (fun H locs hP hD hS => ?_)
          have hP : va_P g.1 vwCl [(h, .inr (9, [.int zth, .int (nI (nA + 1)), .int zch, .ref ak, .ref av, .ref bk, .ref bv, .ref br, .ref a_s, .ref a_t, .int zsg, .ref g1, .ref g2, .ref g3, .long zl1, .long zl2, .long zl3, .long zl4, .int zpb, .ref pa, .ref ru, .ref tx, .int zln, .int zat, .int zrk, .int zrv, .int zre, .int zwr, .int zrm, .int zrs, .int zis, .int zss, .int zsc, .ref dk, .ref dv, .ref ek, .ref ev, .ref er, .ref es, .ref et])), (ak, .inl (g.2.1.1, 152, .inl (upd u q x))), (av, .inl (g.2.1.1, 152, .inl (upd w q v)))] H := hP
          have hD : va_D A [(h, .inr (9, [.int zth, .int (nI (nA + 1)), .int zch, .ref ak, .ref av, .ref bk, .ref bv, .ref br, .ref a_s, .ref a_t, .int zsg, .ref g1, .ref g2, .ref g3, .long zl1, .long zl2, .long zl3, .long zl4, .int zpb, .ref pa, .ref ru, .ref tx, .int zln, .int zat, .int zrk, .int zrv, .int zre, .int zwr, .int zrm, .int zrs, .int zis, .int zss, .int zsc, .ref dk, .ref dv, .ref ek, .ref ev, .ref er, .ref es, .ref et])), (ak, .inl (g.2.1.1, 152, .inl (upd u q x))), (av, .inl (g.2.1.1, 152, .inl (upd w q v)))] := hD
          exact kretv hx hb hRt hlk hK hP hD hS rfl dX7_insertMain_79 (⟨_, _, by rw [hu, hw, hqe]; have h9 := enter_new (fv := fv) (fr := fz0) (v := v) (b := 0) hfc (fun z => hno _ z.1 z.2); rw [kshr_fz, upd_fz] at h9; exact h9, rfl⟩)
        · skip
          rw [hu1] at c_18
          have hqa2 : ∀ j, q - 1 ≤ j → j < nA → x < fk j := fun j h1 h2 => (Nat.eq_or_lt_of_le h1).elim (fun z => by rw [← z]; exact Int32.not_le.mp c_18) (fun z => hqa j (by omega) h2)
          refine lv_aload_n hx hb dX7_insertMain_21 rfl (lv_at hl 1 rfl) ?_
          refine va_get (D := g.1) (ci := 9) (v := .ref ak) (C := RX7) (T := TX7) (N := 40) hx hb hts (by decide +kernel) hown hK hP 0 rfl rfl 3 (by decide) (hts (.fieldLink RX7 9 "LearnedIndexModel" "keys" "[I") (by decide +kernel)) (fun _ h9 => h9) rfl dX7_insertMain_22 ?_
          refine lv_iload_n hx hb dX7_insertMain_25 rfl (lv_at hl 0 rfl) ?_
          refine lv_aload_n hx hb dX7_insertMain_26 rfl (lv_at hl 1 rfl) ?_
          refine va_get (D := g.1) (ci := 9) (v := .ref ak) (C := RX7) (T := TX7) (N := 40) hx hb hts (by decide +kernel) hown hK hP 0 rfl rfl 3 (by decide) (hts (.fieldLink RX7 9 "LearnedIndexModel" "keys" "[I") (by decide +kernel)) (fun _ h9 => h9) rfl dX7_insertMain_27 ?_
          refine lv_iload_n hx hb dX7_insertMain_30 rfl (lv_at hl 0 rfl) ?_
          refine lv_iconst (v := 1) hx hb dX7_insertMain_31 (by decide) ?_
          refine lv_isub hx hb dX7_insertMain_32 ?_
          rw [show (nI q) - 1 = nI (q - 1) from nI_s1 hq0]
          refine va_iald hx hb hK hP 1 0 rfl rfl (vp_in_nI (show q - 1 < 152 by omega) (by omega)) dX7_insertMain_33 ?_
          rw [show (nI (q - 1) : Int32).toNatClampNeg = q - 1 from nI_clamp (n := q - 1) (by omega)]
          refine va_iast hx hb hK hP hD hS 1 0 rfl rfl (vp_in_nI (show q < 152 by omega) (by omega)) dX7_insertMain_34 (fun H locs hP hD hS => ?_)
          rw [show (nI q : Int32).toNatClampNeg = q from nI_clamp (n := q) (by omega)] at hP hD
          have hP : va_P g.1 vwCl [(h, .inr (9, [.int zth, .int (nI nA), .int zch, .ref ak, .ref av, .ref bk, .ref bv, .ref br, .ref a_s, .ref a_t, .int zsg, .ref g1, .ref g2, .ref g3, .long zl1, .long zl2, .long zl3, .long zl4, .int zpb, .ref pa, .ref ru, .ref tx, .int zln, .int zat, .int zrk, .int zrv, .int zre, .int zwr, .int zrm, .int zrs, .int zis, .int zss, .int zsc, .ref dk, .ref dv, .ref ek, .ref ev, .ref er, .ref es, .ref et])), (ak, .inl (g.2.1.1, 152, .inl (upd u q (u (q - 1))))), (av, .inl (g.2.1.1, 152, .inl w))] H := hP
          have hD : va_D A [(h, .inr (9, [.int zth, .int (nI nA), .int zch, .ref ak, .ref av, .ref bk, .ref bv, .ref br, .ref a_s, .ref a_t, .int zsg, .ref g1, .ref g2, .ref g3, .long zl1, .long zl2, .long zl3, .long zl4, .int zpb, .ref pa, .ref ru, .ref tx, .int zln, .int zat, .int zrk, .int zrv, .int zre, .int zwr, .int zrm, .int zrs, .int zis, .int zss, .int zsc, .ref dk, .ref dv, .ref ek, .ref ev, .ref er, .ref es, .ref et])), (ak, .inl (g.2.1.1, 152, .inl (upd u q (u (q - 1))))), (av, .inl (g.2.1.1, 152, .inl w))] := hD
          refine lv_aload_n hx hb dX7_insertMain_35 rfl (lv_at hl 1 rfl) ?_
          refine va_get (D := g.1) (ci := 9) (v := .ref av) (C := RX7) (T := TX7) (N := 40) hx hb hts (by decide +kernel) hown hK hP 0 rfl rfl 4 (by decide) (hts (.fieldLink RX7 13 "LearnedIndexModel" "values" "[I") (by decide +kernel)) (fun _ h9 => h9) rfl dX7_insertMain_36 ?_
          refine lv_iload_n hx hb dX7_insertMain_39 rfl (lv_at hl 0 rfl) ?_
          refine lv_aload_n hx hb dX7_insertMain_40 rfl (lv_at hl 1 rfl) ?_
          refine va_get (D := g.1) (ci := 9) (v := .ref av) (C := RX7) (T := TX7) (N := 40) hx hb hts (by decide +kernel) hown hK hP 0 rfl rfl 4 (by decide) (hts (.fieldLink RX7 13 "LearnedIndexModel" "values" "[I") (by decide +kernel)) (fun _ h9 => h9) rfl dX7_insertMain_41 ?_
          refine lv_iload_n hx hb dX7_insertMain_44 rfl (lv_at hl 0 rfl) ?_
          refine lv_iconst (v := 1) hx hb dX7_insertMain_45 (by decide) ?_
          refine lv_isub hx hb dX7_insertMain_46 ?_
          rw [show (nI q) - 1 = nI (q - 1) from nI_s1 hq0]
          refine va_iald hx hb hK hP 2 0 rfl rfl (vp_in_nI (show q - 1 < 152 by omega) (by omega)) dX7_insertMain_47 ?_
          rw [show (nI (q - 1) : Int32).toNatClampNeg = q - 1 from nI_clamp (n := q - 1) (by omega)]
          refine va_iast hx hb hK hP hD hS 2 0 rfl rfl (vp_in_nI (show q < 152 by omega) (by omega)) dX7_insertMain_48 (fun H locs hP hD hS => ?_)
          rw [show (nI q : Int32).toNatClampNeg = q from nI_clamp (n := q) (by omega)] at hP hD
          have hP : va_P g.1 vwCl [(h, .inr (9, [.int zth, .int (nI nA), .int zch, .ref ak, .ref av, .ref bk, .ref bv, .ref br, .ref a_s, .ref a_t, .int zsg, .ref g1, .ref g2, .ref g3, .long zl1, .long zl2, .long zl3, .long zl4, .int zpb, .ref pa, .ref ru, .ref tx, .int zln, .int zat, .int zrk, .int zrv, .int zre, .int zwr, .int zrm, .int zrs, .int zis, .int zss, .int zsc, .ref dk, .ref dv, .ref ek, .ref ev, .ref er, .ref es, .ref et])), (ak, .inl (g.2.1.1, 152, .inl (upd u q (u (q - 1))))), (av, .inl (g.2.1.1, 152, .inl (upd w q (w (q - 1)))))] H := hP
          have hD : va_D A [(h, .inr (9, [.int zth, .int (nI nA), .int zch, .ref ak, .ref av, .ref bk, .ref bv, .ref br, .ref a_s, .ref a_t, .int zsg, .ref g1, .ref g2, .ref g3, .long zl1, .long zl2, .long zl3, .long zl4, .int zpb, .ref pa, .ref ru, .ref tx, .int zln, .int zat, .int zrk, .int zrv, .int zre, .int zwr, .int zrm, .int zrs, .int zis, .int zss, .int zsc, .ref dk, .ref dv, .ref ek, .ref ev, .ref er, .ref es, .ref et])), (ak, .inl (g.2.1.1, 152, .inl (upd u q (u (q - 1))))), (av, .inl (g.2.1.1, 152, .inl (upd w q (w (q - 1)))))] := hD
          refine lv_iinc (v := nI (q - 1)) (lv' := [(3, .int (nI (q - 1))), (0, .ref h), (1, .int x), (2, .int v)]) hx hb dX7_insertMain_49 hl (k := 0) rfl (nI_m1 hq0) (by decide) rfl (fun ls hl => ?_)
          refine lv_goto (tgt := 5) hx hb dX7_insertMain_52 (by decide) ?_
          exact ih5 (q - 1) (upd u q (u (q - 1))) (upd w q (w (q - 1))) _ _ ls (⟨by omega, rfl⟩) hqa2 (by rw [hu]; exact kshr_t hq0 hq.1) (by rw [hw]; exact kshr_t hq0 hq.1) (by omega) hP hD hS (lv_sub hl [0, 1, 2, 3] rfl)
  exact L5 _ nA fk fv _ _ ls (⟨Nat.le_refl _, rfl⟩) (fun j h1 h2 => absurd h2 (by omega)) (kshr_0 fk nA) (kshr_0 fv nA) (Nat.lt_succ_self _) hP hD hS (lv_sub hl [0, 1, 2, 3] rfl)
theorem dX7_removeMain_0 : decode cX7_removeMain 0 = .ok (.aload_n 0, 1) := by decide +kernel
theorem dX7_removeMain_1 : decode cX7_removeMain 1 = .ok (.dup, 1) := by decide +kernel
theorem dX7_removeMain_2 : decode cX7_removeMain 2 = .ok (.getfield 79, 3) := by decide +kernel
theorem dX7_removeMain_5 : decode cX7_removeMain 5 = .ok (.iconst 1, 1) := by decide +kernel
theorem dX7_removeMain_6 : decode cX7_removeMain 6 = .ok (.isub, 1) := by decide +kernel
theorem dX7_removeMain_7 : decode cX7_removeMain 7 = .ok (.putfield 79, 3) := by decide +kernel
theorem dX7_removeMain_10 : decode cX7_removeMain 10 = .ok (.iload_n 1, 1) := by decide +kernel
theorem dX7_removeMain_11 : decode cX7_removeMain 11 = .ok (.istore_n 2, 1) := by decide +kernel
theorem dX7_removeMain_12 : decode cX7_removeMain 12 = .ok (.iload_n 2, 1) := by decide +kernel
theorem dX7_removeMain_13 : decode cX7_removeMain 13 = .ok (.aload_n 0, 1) := by decide +kernel
theorem dX7_removeMain_14 : decode cX7_removeMain 14 = .ok (.getfield 79, 3) := by decide +kernel
theorem dX7_removeMain_17 : decode cX7_removeMain 17 = .ok (.if_icmp .ge 37, 3) := by decide +kernel
theorem dX7_removeMain_20 : decode cX7_removeMain 20 = .ok (.aload_n 0, 1) := by decide +kernel
theorem dX7_removeMain_21 : decode cX7_removeMain 21 = .ok (.getfield 9, 3) := by decide +kernel
theorem dX7_removeMain_24 : decode cX7_removeMain 24 = .ok (.iload_n 2, 1) := by decide +kernel
theorem dX7_removeMain_25 : decode cX7_removeMain 25 = .ok (.aload_n 0, 1) := by decide +kernel
theorem dX7_removeMain_26 : decode cX7_removeMain 26 = .ok (.getfield 9, 3) := by decide +kernel
theorem dX7_removeMain_29 : decode cX7_removeMain 29 = .ok (.iload_n 2, 1) := by decide +kernel
theorem dX7_removeMain_30 : decode cX7_removeMain 30 = .ok (.iconst 1, 1) := by decide +kernel
theorem dX7_removeMain_31 : decode cX7_removeMain 31 = .ok (.iadd, 1) := by decide +kernel
theorem dX7_removeMain_32 : decode cX7_removeMain 32 = .ok (.iaload, 1) := by decide +kernel
theorem dX7_removeMain_33 : decode cX7_removeMain 33 = .ok (.iastore, 1) := by decide +kernel
theorem dX7_removeMain_34 : decode cX7_removeMain 34 = .ok (.aload_n 0, 1) := by decide +kernel
theorem dX7_removeMain_35 : decode cX7_removeMain 35 = .ok (.getfield 13, 3) := by decide +kernel
theorem dX7_removeMain_38 : decode cX7_removeMain 38 = .ok (.iload_n 2, 1) := by decide +kernel
theorem dX7_removeMain_39 : decode cX7_removeMain 39 = .ok (.aload_n 0, 1) := by decide +kernel
theorem dX7_removeMain_40 : decode cX7_removeMain 40 = .ok (.getfield 13, 3) := by decide +kernel
theorem dX7_removeMain_43 : decode cX7_removeMain 43 = .ok (.iload_n 2, 1) := by decide +kernel
theorem dX7_removeMain_44 : decode cX7_removeMain 44 = .ok (.iconst 1, 1) := by decide +kernel
theorem dX7_removeMain_45 : decode cX7_removeMain 45 = .ok (.iadd, 1) := by decide +kernel
theorem dX7_removeMain_46 : decode cX7_removeMain 46 = .ok (.iaload, 1) := by decide +kernel
theorem dX7_removeMain_47 : decode cX7_removeMain 47 = .ok (.iastore, 1) := by decide +kernel
theorem dX7_removeMain_48 : decode cX7_removeMain 48 = .ok (.iinc 2 1, 3) := by decide +kernel
theorem dX7_removeMain_51 : decode cX7_removeMain 51 = .ok (.goto (-39), 3) := by decide +kernel
theorem dX7_removeMain_54 : decode cX7_removeMain 54 = .ok (.return_, 1) := by decide +kernel
def rm_X7_removeMain : Room := { frames := 0, cells := 0, slots := 0, locals := 0 }
abbrev p_X7_removeMain (g : kG) (h : Nat) (zth : Int32) (zch : Int32) (zsg : Int32) (zl1 : Int64) (zl2 : Int64) (zl3 : Int64) (zl4 : Int64) (zpb : Int32) (zln : Int32) (zat : Int32) (zrk : Int32) (zrv : Int32) (zre : Int32) (zwr : Int32) (zrm : Int32) (zrs : Int32) (zis : Int32) (zss : Int32) (zsc : Int32) (ak : Nat) (av : Nat) (bk : Nat) (bv : Nat) (br : Nat) (a_s : Nat) (a_t : Nat) (g1 : Nat) (g2 : Nat) (g3 : Nat) (pa : Nat) (ru : Nat) (tx : Nat) (dk : Nat) (dv : Nat) (ek : Nat) (ev : Nat) (er : Nat) (es : Nat) (et : Nat) (nA : Nat) (fk : Nat → Int32) (fv : Nat → Int32) (i : Nat) : va_W → Prop := fun w1 => ∃ (fk2 : Nat → Int32), ∃ (fv2 : Nat → Int32), (EL (nA - 1) fk2 fv2 fz0 = (EL nA fk fv fz0).eraseIdx i) ∧ w1 = [(h, .inr (9, [.int zth, .int (nI (nA - 1)), .int zch, .ref ak, .ref av, .ref bk, .ref bv, .ref br, .ref a_s, .ref a_t, .int zsg, .ref g1, .ref g2, .ref g3, .long zl1, .long zl2, .long zl3, .long zl4, .int zpb, .ref pa, .ref ru, .ref tx, .int zln, .int zat, .int zrk, .int zrv, .int zre, .int zwr, .int zrm, .int zrs, .int zis, .int zss, .int zsc, .ref dk, .ref dv, .ref ek, .ref ev, .ref er, .ref es, .ref et])), (ak, .inl (g.2.1.1, 152, .inl fk2)), (av, .inl (g.2.1.1, 152, .inl fv2))]
set_option maxHeartbeats 4000000 in
set_option maxRecDepth 100000 in
theorem c_X7_removeMain (l : Launch) (g : kG) (h : Nat) (zth : Int32) (zch : Int32) (zsg : Int32) (zl1 : Int64) (zl2 : Int64) (zl3 : Int64) (zl4 : Int64) (zpb : Int32) (zln : Int32) (zat : Int32) (zrk : Int32) (zrv : Int32) (zre : Int32) (zwr : Int32) (zrm : Int32) (zrs : Int32) (zis : Int32) (zss : Int32) (zsc : Int32) (ak : Nat) (av : Nat) (bk : Nat) (bv : Nat) (br : Nat) (a_s : Nat) (a_t : Nat) (g1 : Nat) (g2 : Nat) (g3 : Nat) (pa : Nat) (ru : Nat) (tx : Nat) (dk : Nat) (dv : Nat) (ek : Nat) (ev : Nat) (er : Nat) (es : Nat) (et : Nat) (nA : Nat) (fk : Nat → Int32) (fv : Nat → Int32) (i : Nat) (hn : nA ≤ 150) (hi : i < nA) : KV l yX7_removeMain wsX7_removeMain rm_X7_removeMain g [.ref h, .int (nI i)] [(h, .inr (9, [.int zth, .int (nI nA), .int zch, .ref ak, .ref av, .ref bk, .ref bv, .ref br, .ref a_s, .ref a_t, .int zsg, .ref g1, .ref g2, .ref g3, .long zl1, .long zl2, .long zl3, .long zl4, .int zpb, .ref pa, .ref ru, .ref tx, .int zln, .int zat, .int zrk, .int zrv, .int zre, .int zwr, .int zrm, .int zrs, .int zis, .int zss, .int zsc, .ref dk, .ref dv, .ref ek, .ref ev, .ref er, .ref es, .ref et])), (ak, .inl (g.2.1.1, 152, .inl fk)), (av, .inl (g.2.1.1, 152, .inl fv))] (p_X7_removeMain g h zth zch zsg zl1 zl2 zl3 zl4 zpb zln zat zrk zrv zre zwr zrm zrs zis zss zsc ak av bk bv br a_s a_t g1 g2 g3 pa ru tx dk dv ek ev er es et nA fk fv i) := by
  refine kbodyV (cc := cX7_removeMain) (n := 3) (k := 3) (own := RX7) (plainFor_of_name (by decide)) rfl rfl rfl rfl ?_
  intro p e s m below meth cd A ls hcx
  obtain ⟨hx, hb, hRt, hml, hts, hown, hlk, hA, hP, hK, hD, hE, hS, hl⟩ := hcx
  have hl : lv_has ls 3 [(0, .ref h), (1, .int (nI i))] := hl
  refine lv_aload_n hx hb dX7_removeMain_0 rfl (lv_at hl 0 rfl) ?_
  refine lv_dup hx hb dX7_removeMain_1 rfl ?_
  refine va_get (D := g.1) (ci := 9) (v := .int (nI nA)) (C := RX7) (T := TX7) (N := 40) hx hb hts (by decide +kernel) hown hK hP 0 rfl rfl 1 (by decide) (hts (.fieldLink RX7 79 "LearnedIndexModel" "size" "I") (by decide +kernel)) (fun _ h9 => h9) rfl dX7_removeMain_2 ?_
  refine lv_iconst (v := 1) hx hb dX7_removeMain_5 (by decide) ?_
  refine lv_isub hx hb dX7_removeMain_6 ?_
  rw [show (nI nA) - 1 = nI (nA - 1) from nI_s1 (by omega)]
  refine va_put (D := g.1) (ci := 9) (v := .int (nI (nA - 1))) (ty := .int) (C := RX7) (T := TX7) (N := 40) hx hb hts (by decide +kernel) tyX7 tyX7_ok nmX7 hown hK hP hD hS 0 rfl rfl 1 (by decide) (hts (.fieldLink RX7 79 "LearnedIndexModel" "size" "I") (by decide +kernel)) (fun _ h9 => h9) rfl (by decide +kernel) rfl rfl (Nat.le_of_ble_eq_true rfl) dX7_removeMain_7 (fun H locs hP hD hS => ?_)
  have hP : va_P g.1 vwCl [(h, .inr (9, [.int zth, .int (nI (nA - 1)), .int zch, .ref ak, .ref av, .ref bk, .ref bv, .ref br, .ref a_s, .ref a_t, .int zsg, .ref g1, .ref g2, .ref g3, .long zl1, .long zl2, .long zl3, .long zl4, .int zpb, .ref pa, .ref ru, .ref tx, .int zln, .int zat, .int zrk, .int zrv, .int zre, .int zwr, .int zrm, .int zrs, .int zis, .int zss, .int zsc, .ref dk, .ref dv, .ref ek, .ref ev, .ref er, .ref es, .ref et])), (ak, .inl (g.2.1.1, 152, .inl fk)), (av, .inl (g.2.1.1, 152, .inl fv))] H := hP
  have hD : va_D A [(h, .inr (9, [.int zth, .int (nI (nA - 1)), .int zch, .ref ak, .ref av, .ref bk, .ref bv, .ref br, .ref a_s, .ref a_t, .int zsg, .ref g1, .ref g2, .ref g3, .long zl1, .long zl2, .long zl3, .long zl4, .int zpb, .ref pa, .ref ru, .ref tx, .int zln, .int zat, .int zrk, .int zrv, .int zre, .int zwr, .int zrm, .int zrs, .int zis, .int zss, .int zsc, .ref dk, .ref dv, .ref ek, .ref ev, .ref er, .ref es, .ref et])), (ak, .inl (g.2.1.1, 152, .inl fk)), (av, .inl (g.2.1.1, 152, .inl fv))] := hD
  refine lv_iload_n hx hb dX7_removeMain_10 rfl (lv_at hl 1 rfl) ?_
  refine lv_istore_n (lv' := [(2, .int (nI i)), (0, .ref h), (1, .int (nI i))]) hx hb dX7_removeMain_11 rfl hl (by decide) rfl (fun ls hl => ?_)
  have L12 : ∀ (n9 : Nat) (k : Nat) (u : Nat → Int32) (w : Nat → Int32) (H : Heap) (locs : List Loc) (ls : Array Slot), (i ≤ k ∧ k ≤ nA - 1) → (u = kshl fk i k) → (w = kshl fv i k) → nA - 1 - k < n9 → va_P g.1 vwCl [(h, .inr (9, [.int zth, .int (nI (nA - 1)), .int zch, .ref ak, .ref av, .ref bk, .ref bv, .ref br, .ref a_s, .ref a_t, .int zsg, .ref g1, .ref g2, .ref g3, .long zl1, .long zl2, .long zl3, .long zl4, .int zpb, .ref pa, .ref ru, .ref tx, .int zln, .int zat, .int zrk, .int zrv, .int zre, .int zwr, .int zrm, .int zrs, .int zis, .int zss, .int zsc, .ref dk, .ref dv, .ref ek, .ref ev, .ref er, .ref es, .ref et])), (ak, .inl (g.2.1.1, 152, .inl u)), (av, .inl (g.2.1.1, 152, .inl w))] H → va_D A [(h, .inr (9, [.int zth, .int (nI (nA - 1)), .int zch, .ref ak, .ref av, .ref bk, .ref bv, .ref br, .ref a_s, .ref a_t, .int zsg, .ref g1, .ref g2, .ref g3, .long zl1, .long zl2, .long zl3, .long zl4, .int zpb, .ref pa, .ref ru, .ref tx, .int zln, .int zat, .int zrk, .int zrv, .int zre, .int zwr, .int zrm, .int zrs, .int zis, .int zss, .int zsc, .ref dk, .ref dv, .ref ek, .ref ev, .ref er, .ref es, .ref et])), (ak, .inl (g.2.1.1, 152, .inl u)), (av, .inl (g.2.1.1, 152, .inl w))] → va_S A s.heap H locs → lv_has ls 3 [(2, .int (nI k)), (0, .ref h), (1, .int (nI i))] → W p l e rm_X7_removeMain s m ([.ref h, .int (nI i)] : List Value).toArray below meth cd H locs 0 0 (kQv g 3 A (p_X7_removeMain g h zth zch zsg zl1 zl2 zl3 zl4 zpb zln zat zrk zrv zre zwr zrm zrs zis zss zsc ak av bk bv br a_s a_t g1 g2 g3 pa ru tx dk dv ek ev er es et nA fk fv i) below ([.ref h, .int (nI i)] : List Value).toArray s) (F0 m 12 ls []) := by
    intro n9
    induction n9 with
    | zero => intro k u w H locs ls hk hu hw h9; exact absurd h9 (Nat.not_lt_zero _)
    | succ n9 ih12 =>
      intro k u w H locs ls hk hu hw hn12 hP hD hS hl
      refine lv_iload_n hx hb dX7_removeMain_12 rfl (lv_at hl 0 rfl) ?_
      refine lv_aload_n hx hb dX7_removeMain_13 rfl (lv_at hl 1 rfl) ?_
      refine va_get (D := g.1) (ci := 9) (v := .int (nI (nA - 1))) (C := RX7) (T := TX7) (N := 40) hx hb hts (by decide +kernel) hown hK hP 0 rfl rfl 1 (by decide) (hts (.fieldLink RX7 79 "LearnedIndexModel" "size" "I") (by decide +kernel)) (fun _ h9 => h9) rfl dX7_removeMain_14 ?_
      refine lv_icmp_ge (tgt := 54) hx hb dX7_removeMain_17 (by decide) (fun c_17 => ?_) (fun c_17 => ?_)
      · skip
        have hkn : nA - 1 ≤ k := kg (by omega) (by omega) c_17
        have hke : k = nA - 1 := by omega
        exact kretv hx hb hRt hlk hK hP hD hS rfl dX7_removeMain_54 (⟨_, _, by rw [hu, hw, hke]; have h9 := takeOut_L (fk := fk) (fv := fv) (fr := fz0) hi; rw [kshl_fz] at h9; exact h9, rfl⟩)
      · skip
        have hkn : k < nA - 1 := kl (by omega) (by omega) c_17
        refine lv_aload_n hx hb dX7_removeMain_20 rfl (lv_at hl 1 rfl) ?_
        refine va_get (D := g.1) (ci := 9) (v := .ref ak) (C := RX7) (T := TX7) (N := 40) hx hb hts (by decide +kernel) hown hK hP 0 rfl rfl 3 (by decide) (hts (.fieldLink RX7 9 "LearnedIndexModel" "keys" "[I") (by decide +kernel)) (fun _ h9 => h9) rfl dX7_removeMain_21 ?_
        refine lv_iload_n hx hb dX7_removeMain_24 rfl (lv_at hl 0 rfl) ?_
        refine lv_aload_n hx hb dX7_removeMain_25 rfl (lv_at hl 1 rfl) ?_
        refine va_get (D := g.1) (ci := 9) (v := .ref ak) (C := RX7) (T := TX7) (N := 40) hx hb hts (by decide +kernel) hown hK hP 0 rfl rfl 3 (by decide) (hts (.fieldLink RX7 9 "LearnedIndexModel" "keys" "[I") (by decide +kernel)) (fun _ h9 => h9) rfl dX7_removeMain_26 ?_
        refine lv_iload_n hx hb dX7_removeMain_29 rfl (lv_at hl 0 rfl) ?_
        refine lv_iconst (v := 1) hx hb dX7_removeMain_30 (by decide) ?_
        refine lv_iadd hx hb dX7_removeMain_31 ?_
        rw [show (nI k) + 1 = nI (k + 1) from nI_1 k]
        refine va_iald hx hb hK hP 1 0 rfl rfl (vp_in_nI (show k + 1 < 152 by omega) (by omega)) dX7_removeMain_32 ?_
        rw [show (nI (k + 1) : Int32).toNatClampNeg = k + 1 from nI_clamp (n := k + 1) (by omega)]
        refine va_iast hx hb hK hP hD hS 1 0 rfl rfl (vp_in_nI (show k < 152 by omega) (by omega)) dX7_removeMain_33 (fun H locs hP hD hS => ?_)
        rw [show (nI k : Int32).toNatClampNeg = k from nI_clamp (n := k) (by omega)] at hP hD
        have hP : va_P g.1 vwCl [(h, .inr (9, [.int zth, .int (nI (nA - 1)), .int zch, .ref ak, .ref av, .ref bk, .ref bv, .ref br, .ref a_s, .ref a_t, .int zsg, .ref g1, .ref g2, .ref g3, .long zl1, .long zl2, .long zl3, .long zl4, .int zpb, .ref pa, .ref ru, .ref tx, .int zln, .int zat, .int zrk, .int zrv, .int zre, .int zwr, .int zrm, .int zrs, .int zis, .int zss, .int zsc, .ref dk, .ref dv, .ref ek, .ref ev, .ref er, .ref es, .ref et])), (ak, .inl (g.2.1.1, 152, .inl (upd u k (u (k + 1))))), (av, .inl (g.2.1.1, 152, .inl w))] H := hP
        have hD : va_D A [(h, .inr (9, [.int zth, .int (nI (nA - 1)), .int zch, .ref ak, .ref av, .ref bk, .ref bv, .ref br, .ref a_s, .ref a_t, .int zsg, .ref g1, .ref g2, .ref g3, .long zl1, .long zl2, .long zl3, .long zl4, .int zpb, .ref pa, .ref ru, .ref tx, .int zln, .int zat, .int zrk, .int zrv, .int zre, .int zwr, .int zrm, .int zrs, .int zis, .int zss, .int zsc, .ref dk, .ref dv, .ref ek, .ref ev, .ref er, .ref es, .ref et])), (ak, .inl (g.2.1.1, 152, .inl (upd u k (u (k + 1))))), (av, .inl (g.2.1.1, 152, .inl w))] := hD
        refine lv_aload_n hx hb dX7_removeMain_34 rfl (lv_at hl 1 rfl) ?_
        refine va_get (D := g.1) (ci := 9) (v := .ref av) (C := RX7) (T := TX7) (N := 40) hx hb hts (by decide +kernel) hown hK hP 0 rfl rfl 4 (by decide) (hts (.fieldLink RX7 13 "LearnedIndexModel" "values" "[I") (by decide +kernel)) (fun _ h9 => h9) rfl dX7_removeMain_35 ?_
        refine lv_iload_n hx hb dX7_removeMain_38 rfl (lv_at hl 0 rfl) ?_
        refine lv_aload_n hx hb dX7_removeMain_39 rfl (lv_at hl 1 rfl) ?_
        refine va_get (D := g.1) (ci := 9) (v := .ref av) (C := RX7) (T := TX7) (N := 40) hx hb hts (by decide +kernel) hown hK hP 0 rfl rfl 4 (by decide) (hts (.fieldLink RX7 13 "LearnedIndexModel" "values" "[I") (by decide +kernel)) (fun _ h9 => h9) rfl dX7_removeMain_40 ?_
        refine lv_iload_n hx hb dX7_removeMain_43 rfl (lv_at hl 0 rfl) ?_
        refine lv_iconst (v := 1) hx hb dX7_removeMain_44 (by decide) ?_
        refine lv_iadd hx hb dX7_removeMain_45 ?_
        rw [show (nI k) + 1 = nI (k + 1) from nI_1 k]
        refine va_iald hx hb hK hP 2 0 rfl rfl (vp_in_nI (show k + 1 < 152 by omega) (by omega)) dX7_removeMain_46 ?_
        rw [show (nI (k + 1) : Int32).toNatClampNeg = k + 1 from nI_clamp (n := k + 1) (by omega)]
        refine va_iast hx hb hK hP hD hS 2 0 rfl rfl (vp_in_nI (show k < 152 by omega) (by omega)) dX7_removeMain_47 (fun H locs hP hD hS => ?_)
        rw [show (nI k : Int32).toNatClampNeg = k from nI_clamp (n := k) (by omega)] at hP hD
        have hP : va_P g.1 vwCl [(h, .inr (9, [.int zth, .int (nI (nA - 1)), .int zch, .ref ak, .ref av, .ref bk, .ref bv, .ref br, .ref a_s, .ref a_t, .int zsg, .ref g1, .ref g2, .ref g3, .long zl1, .long zl2, .long zl3, .long zl4, .int zpb, .ref pa, .ref ru, .ref tx, .int zln, .int zat, .int zrk, .int zrv, .int zre, .int zwr, .int zrm, .int zrs, .int zis, .int zss, .int zsc, .ref dk, .ref dv, .ref ek, .ref ev, .ref er, .ref es, .ref et])), (ak, .inl (g.2.1.1, 152, .inl (upd u k (u (k + 1))))), (av, .inl (g.2.1.1, 152, .inl (upd w k (w (k + 1)))))] H := hP
        have hD : va_D A [(h, .inr (9, [.int zth, .int (nI (nA - 1)), .int zch, .ref ak, .ref av, .ref bk, .ref bv, .ref br, .ref a_s, .ref a_t, .int zsg, .ref g1, .ref g2, .ref g3, .long zl1, .long zl2, .long zl3, .long zl4, .int zpb, .ref pa, .ref ru, .ref tx, .int zln, .int zat, .int zrk, .int zrv, .int zre, .int zwr, .int zrm, .int zrs, .int zis, .int zss, .int zsc, .ref dk, .ref dv, .ref ek, .ref ev, .ref er, .ref es, .ref et])), (ak, .inl (g.2.1.1, 152, .inl (upd u k (u (k + 1))))), (av, .inl (g.2.1.1, 152, .inl (upd w k (w (k + 1)))))] := hD
        refine lv_iinc (v := nI (k + 1)) (lv' := [(2, .int (nI (k + 1))), (0, .ref h), (1, .int (nI i))]) hx hb dX7_removeMain_48 hl (k := 0) rfl (nI_1 k) (by decide) rfl (fun ls hl => ?_)
        refine lv_goto (tgt := 12) hx hb dX7_removeMain_51 (by decide) ?_
        exact ih12 (k + 1) (upd u k (u (k + 1))) (upd w k (w (k + 1))) _ _ ls (⟨by omega, by omega⟩) (by rw [hu]; exact kshl_t hk.1) (by rw [hw]; exact kshl_t hk.1) (by omega) hP hD hS (lv_sub hl [0, 1, 2] rfl)
  exact L12 _ i fk fv _ _ ls (⟨Nat.le_refl _, by omega⟩) (kshl_0 fk i) (kshl_0 fv i) (Nat.lt_succ_self _) hP hD hS (lv_sub hl [0, 1, 2] rfl)
