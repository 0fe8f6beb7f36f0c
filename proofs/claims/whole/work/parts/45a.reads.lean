/-! ===== the model: feed, reading of texts ===== -/

set_option maxRecDepth 20000 in
theorem ggX7_feed_X7_fails : GoodIn wsX7_feed wsX7_fails := goodIn_r _ [7, 8, 9, 10, 11, 12, 13, 14, 15, 16, 17, 18, 19, 20, 21, 22, 23, 24, 25, 26, 27, 28, 29, 30, 31, 32, 33, 34, 35, 36, 37, 38, 39, 40, 41, 42, 43, 44, 45, 46, 47, 48] (by decide +kernel) (by decide +kernel)
set_option maxRecDepth 20000 in
theorem gX7_feed_X7_fails : GoodIn wsX7_feed (wsV RX7 120 RX7 yX7_fails wsX7_fails) := goodIn_app (goodIn_of _ (by decide +kernel)) ggX7_feed_X7_fails
theorem dX7_feed_0 : decode cX7_feed 0 = .ok (.aload_n 0, 1) := by decide +kernel
theorem dX7_feed_1 : decode cX7_feed 1 = .ok (.iconst 1, 1) := by decide +kernel
theorem dX7_feed_2 : decode cX7_feed 2 = .ok (.aload_n 0, 1) := by decide +kernel
theorem dX7_feed_3 : decode cX7_feed 3 = .ok (.getfield 213, 3) := by decide +kernel
theorem dX7_feed_6 : decode cX7_feed 6 = .ok (.bipush 100, 2) := by decide +kernel
theorem dX7_feed_8 : decode cX7_feed 8 = .ok (.if_icmp .ne 7, 3) := by decide +kernel
theorem dX7_feed_11 : decode cX7_feed 11 = .ok (.iconst 1, 1) := by decide +kernel
theorem dX7_feed_12 : decode cX7_feed 12 = .ok (.goto 4, 3) := by decide +kernel
theorem dX7_feed_15 : decode cX7_feed 15 = .ok (.iconst 0, 1) := by decide +kernel
theorem dX7_feed_16 : decode cX7_feed 16 = .ok (.invokevirtual 120, 3) := by decide +kernel
theorem dX7_feed_19 : decode cX7_feed 19 = .ok (.ifCond .eq 5, 3) := by decide +kernel
theorem dX7_feed_22 : decode cX7_feed 22 = .ok (.iconst 0, 1) := by decide +kernel
theorem dX7_feed_23 : decode cX7_feed 23 = .ok (.ireturn, 1) := by decide +kernel
theorem dX7_feed_24 : decode cX7_feed 24 = .ok (.aload_n 0, 1) := by decide +kernel
theorem dX7_feed_25 : decode cX7_feed 25 = .ok (.getfield 46, 3) := by decide +kernel
theorem dX7_feed_28 : decode cX7_feed 28 = .ok (.aload_n 0, 1) := by decide +kernel
theorem dX7_feed_29 : decode cX7_feed 29 = .ok (.getfield 213, 3) := by decide +kernel
theorem dX7_feed_32 : decode cX7_feed 32 = .ok (.iload_n 1, 1) := by decide +kernel
theorem dX7_feed_33 : decode cX7_feed 33 = .ok (.castore, 1) := by decide +kernel
theorem dX7_feed_34 : decode cX7_feed 34 = .ok (.aload_n 0, 1) := by decide +kernel
theorem dX7_feed_35 : decode cX7_feed 35 = .ok (.dup, 1) := by decide +kernel
theorem dX7_feed_36 : decode cX7_feed 36 = .ok (.getfield 213, 3) := by decide +kernel
theorem dX7_feed_39 : decode cX7_feed 39 = .ok (.iconst 1, 1) := by decide +kernel
theorem dX7_feed_40 : decode cX7_feed 40 = .ok (.iadd, 1) := by decide +kernel
theorem dX7_feed_41 : decode cX7_feed 41 = .ok (.putfield 213, 3) := by decide +kernel
theorem dX7_feed_44 : decode cX7_feed 44 = .ok (.aload_n 0, 1) := by decide +kernel
theorem dX7_feed_45 : decode cX7_feed 45 = .ok (.getfield 213, 3) := by decide +kernel
theorem dX7_feed_48 : decode cX7_feed 48 = .ok (.ireturn, 1) := by decide +kernel
def rm_X7_feed : Room := { frames := 1, cells := 0, slots := 0, locals := 22 }
abbrev p_X7_feed (g : kG) (h : Nat) (zth : Int32) (zsz : Int32) (zch : Int32) (zsg : Int32) (zl1 : Int64) (zl2 : Int64) (zl3 : Int64) (zl4 : Int64) (zpb : Int32) (zat : Int32) (zrk : Int32) (zrv : Int32) (zre : Int32) (zwr : Int32) (zrm : Int32) (zrs : Int32) (zis : Int32) (zss : Int32) (zsc : Int32) (ak : Nat) (av : Nat) (bk : Nat) (bv : Nat) (br : Nat) (a_s : Nat) (a_t : Nat) (g1 : Nat) (g2 : Nat) (g3 : Nat) (pa : Nat) (ru : Nat) (tx : Nat) (dk : Nat) (dv : Nat) (ek : Nat) (ev : Nat) (er : Nat) (es : Nat) (et : Nat) (nT : Nat) (tT : Nat → Int32) (x : Int32) : Int32 → va_W → Prop := fun r w1 => ∃ (nT2 : Nat), ∃ (tT2 : Nat → Int32), r = (if fdK nT = 0 then nI (nT + 1) else 0) ∧ ((fdK nT = 0 ∧ nT2 = nT + 1 ∧ tT2 = upd tT nT x) ∨ (fdK nT = 1 ∧ nT2 = nT ∧ tT2 = tT)) ∧ w1 = [(h, .inr (9, [.int (fdK nT), .int zsz, .int zch, .ref ak, .ref av, .ref bk, .ref bv, .ref br, .ref a_s, .ref a_t, .int zsg, .ref g1, .ref g2, .ref g3, .long zl1, .long zl2, .long zl3, .long zl4, .int zpb, .ref pa, .ref ru, .ref tx, .int (nI nT2), .int zat, .int zrk, .int zrv, .int zre, .int zwr, .int zrm, .int zrs, .int zis, .int zss, .int zsc, .ref dk, .ref dv, .ref ek, .ref ev, .ref er, .ref es, .ref et])), (tx, .inl (g.2.1.2.1, 100, .inl tT2))]
set_option maxHeartbeats 4000000 in
set_option maxRecDepth 100000 in
theorem c_X7_feed (l : Launch) (g : kG) (h : Nat) (zth : Int32) (zsz : Int32) (zch : Int32) (zsg : Int32) (zl1 : Int64) (zl2 : Int64) (zl3 : Int64) (zl4 : Int64) (zpb : Int32) (zat : Int32) (zrk : Int32) (zrv : Int32) (zre : Int32) (zwr : Int32) (zrm : Int32) (zrs : Int32) (zis : Int32) (zss : Int32) (zsc : Int32) (ak : Nat) (av : Nat) (bk : Nat) (bv : Nat) (br : Nat) (a_s : Nat) (a_t : Nat) (g1 : Nat) (g2 : Nat) (g3 : Nat) (pa : Nat) (ru : Nat) (tx : Nat) (dk : Nat) (dv : Nat) (ek : Nat) (ev : Nat) (er : Nat) (es : Nat) (et : Nat) (nT : Nat) (tT : Nat → Int32) (x : Int32) (hn : nT ≤ 100) (hxx : vp_nar .char x = x) : KI l yX7_feed wsX7_feed rm_X7_feed g [.ref h, .int x] [(h, .inr (9, [.int zth, .int zsz, .int zch, .ref ak, .ref av, .ref bk, .ref bv, .ref br, .ref a_s, .ref a_t, .int zsg, .ref g1, .ref g2, .ref g3, .long zl1, .long zl2, .long zl3, .long zl4, .int zpb, .ref pa, .ref ru, .ref tx, .int (nI nT), .int zat, .int zrk, .int zrv, .int zre, .int zwr, .int zrm, .int zrs, .int zis, .int zss, .int zsc, .ref dk, .ref dv, .ref ek, .ref ev, .ref er, .ref es, .ref et])), (tx, .inl (g.2.1.2.1, 100, .inl tT))] (p_X7_feed g h zth zsz zch zsg zl1 zl2 zl3 zl4 zpb zat zrk zrv zre zwr zrm zrs zis zss zsc ak av bk bv br a_s a_t g1 g2 g3 pa ru tx dk dv ek ev er es et nT tT x) := by
  refine kbodyI (cc := cX7_feed) (n := 2) (k := 2) (own := RX7) (plainFor_of_name (by decide)) rfl rfl rfl rfl ?_
  intro p e s m below meth cd A ls hcx
  obtain ⟨hx, hb, hRt, hml, hts, hown, hlk, hA, hP, hK, hD, hE, hS, hl⟩ := hcx
  have hl : lv_has ls 2 [(0, .ref h), (1, .int x)] := hl
  refine lv_aload_n hx hb dX7_feed_0 rfl (lv_at hl 0 rfl) ?_
  refine lv_iconst (v := 1) hx hb dX7_feed_1 (by decide) ?_
  refine lv_aload_n hx hb dX7_feed_2 rfl (lv_at hl 0 rfl) ?_
  refine va_get (D := g.1) (ci := 9) (v := .int (nI nT)) (C := RX7) (T := TX7) (N := 40) hx hb hts (by decide +kernel) hown hK hP 0 rfl rfl 22 (by decide) (hts (.fieldLink RX7 213 "LearnedIndexModel" "length" "I") (by decide +kernel)) (fun _ h9 => h9) rfl dX7_feed_3 ?_
  refine lv_bipush (v := 100) hx hb dX7_feed_6 (by decide) ?_
  rw [show (100 : Int32) = nI 100 from rfl]
  refine lv_icmp_ne (tgt := 15) hx hb dX7_feed_8 (by decide) (fun c_8 => ?_) (fun c_8 => ?_)
  · skip
    have hlt : nT < 100 := by have : ¬ nT = 100 := fun z => c_8 (by rw [z]); omega
    have hk9 : fdK nT = 0 := by rw [fdK, if_neg (by omega)]
    refine lv_iconst (v := 0) hx hb dX7_feed_15 (by decide) ?_
    refine kcalli (wc := [(h, .inr (9, [.int zth, .int zsz, .int zch, .ref ak, .ref av, .ref bk, .ref bv, .ref br, .ref a_s, .ref a_t, .int zsg, .ref g1, .ref g2, .ref g3, .long zl1, .long zl2, .long zl3, .long zl4, .int zpb, .ref pa, .ref ru, .ref tx, .int (nI nT), .int zat, .int zrk, .int zrv, .int zre, .int zwr, .int zrm, .int zrs, .int zis, .int zss, .int zsc, .ref dk, .ref dv, .ref ek, .ref ev, .ref er, .ref es, .ref et]))]) [0] (va_runV (C := RX7) (As := [.int 1, .int 0]) (rest := []) ⟨hx, hb, hml, hown, hts⟩ ((c_X7_fails0 l g h zth zsz zch zsg zl1 zl2 zl3 zl4 zpb (nI nT) zat zrk zrv zre zwr zrm zrs zis zss zsc ak av bk bv br a_s a_t g1 g2 g3 pa ru tx dk dv ek ev er es et 1) _) (cwV 2 hts gX7_feed_X7_fails rfl rfl rfl (by decide +kernel) ⟨Nat.le_of_ble_eq_true rfl, Nat.le_of_ble_eq_true rfl⟩) (kpreV (wc := [(h, .inr (9, [.int zth, .int zsz, .int zch, .ref ak, .ref av, .ref bk, .ref bv, .ref br, .ref a_s, .ref a_t, .int zsg, .ref g1, .ref g2, .ref g3, .long zl1, .long zl2, .long zl3, .long zl4, .int zpb, .ref pa, .ref ru, .ref tx, .int (nI nT), .int zat, .int zrk, .int zrv, .int zre, .int zwr, .int zrm, .int zrs, .int zis, .int zss, .int zsc, .ref dk, .ref dv, .ref ek, .ref ev, .ref er, .ref es, .ref et]))]) (ci := 9) hK hP hD hS hA hE [0] rfl rfl rfl rfl) rfl rfl hl.1 rfl (lv_room (Nat.le_of_ble_eq_true rfl)) dX7_feed_16 ⟨Nat.zero_le _, Nat.zero_le _⟩) hP hD hS hA rfl (fun r_1 w_1 H locs hp hP hD hS => ?_)
    obtain ⟨rfl, rfl⟩ := hp
    have hP : va_P g.1 vwCl [(h, .inr (9, [.int 0, .int zsz, .int zch, .ref ak, .ref av, .ref bk, .ref bv, .ref br, .ref a_s, .ref a_t, .int zsg, .ref g1, .ref g2, .ref g3, .long zl1, .long zl2, .long zl3, .long zl4, .int zpb, .ref pa, .ref ru, .ref tx, .int (nI nT), .int zat, .int zrk, .int zrv, .int zre, .int zwr, .int zrm, .int zrs, .int zis, .int zss, .int zsc, .ref dk, .ref dv, .ref ek, .ref ev, .ref er, .ref es, .ref et])), (tx, .inl (g.2.1.2.1, 100, .inl tT))] H := hP
    have hD : va_D A [(h, .inr (9, [.int 0, .int zsz, .int zch, .ref ak, .ref av, .ref bk, .ref bv, .ref br, .ref a_s, .ref a_t, .int zsg, .ref g1, .ref g2, .ref g3, .long zl1, .long zl2, .long zl3, .long zl4, .int zpb, .ref pa, .ref ru, .ref tx, .int (nI nT), .int zat, .int zrk, .int zrv, .int zre, .int zwr, .int zrm, .int zrs, .int zis, .int zss, .int zsc, .ref dk, .ref dv, .ref ek, .ref ev, .ref er, .ref es, .ref et])), (tx, .inl (g.2.1.2.1, 100, .inl tT))] := hD
    refine lv_if_eq (tgt := 24) hx hb dX7_feed_19 (by decide) (fun c_19 => ?_) (fun c_19 => absurd (by decide) c_19)
    refine lv_aload_n hx hb dX7_feed_24 rfl (lv_at hl 0 rfl) ?_
    refine va_get (D := g.1) (ci := 9) (v := .ref tx) (C := RX7) (T := TX7) (N := 40) hx hb hts (by decide +kernel) hown hK hP 0 rfl rfl 21 (by decide) (hts (.fieldLink RX7 46 "LearnedIndexModel" "text" "[C") (by decide +kernel)) (fun _ h9 => h9) rfl dX7_feed_25 ?_
    refine lv_aload_n hx hb dX7_feed_28 rfl (lv_at hl 0 rfl) ?_
    refine va_get (D := g.1) (ci := 9) (v := .int (nI nT)) (C := RX7) (T := TX7) (N := 40) hx hb hts (by decide +kernel) hown hK hP 0 rfl rfl 22 (by decide) (hts (.fieldLink RX7 213 "LearnedIndexModel" "length" "I") (by decide +kernel)) (fun _ h9 => h9) rfl dX7_feed_29 ?_
    refine lv_iload_n hx hb dX7_feed_32 rfl (lv_at hl 1 rfl) ?_
    refine va_cast hx hb hK hP hD hS 1 1 rfl rfl (vp_in_nI (show nT < 100 by omega) (by omega)) dX7_feed_33 (fun H locs hP hD hS => ?_)
    rw [show (nI nT : Int32).toNatClampNeg = nT from nI_clamp (n := nT) (by omega)] at hP hD
    rw [show upd tT nT (vp_nar .char x) = upd tT nT x from by rw [hxx]] at hP hD
    have hP : va_P g.1 vwCl [(h, .inr (9, [.int 0, .int zsz, .int zch, .ref ak, .ref av, .ref bk, .ref bv, .ref br, .ref a_s, .ref a_t, .int zsg, .ref g1, .ref g2, .ref g3, .long zl1, .long zl2, .long zl3, .long zl4, .int zpb, .ref pa, .ref ru, .ref tx, .int (nI nT), .int zat, .int zrk, .int zrv, .int zre, .int zwr, .int zrm, .int zrs, .int zis, .int zss, .int zsc, .ref dk, .ref dv, .ref ek, .ref ev, .ref er, .ref es, .ref et])), (tx, .inl (g.2.1.2.1, 100, .inl (upd tT nT x)))] H := hP
    have hD : va_D A [(h, .inr (9, [.int 0, .int zsz, .int zch, .ref ak, .ref av, .ref bk, .ref bv, .ref br, .ref a_s, .ref a_t, .int zsg, .ref g1, .ref g2, .ref g3, .long zl1, .long zl2, .long zl3, .long zl4, .int zpb, .ref pa, .ref ru, .ref tx, .int (nI nT), .int zat, .int zrk, .int zrv, .int zre, .int zwr, .int zrm, .int zrs, .int zis, .int zss, .int zsc, .ref dk, .ref dv, .ref ek, .ref ev, .ref er, .ref es, .ref et])), (tx, .inl (g.2.1.2.1, 100, .inl (upd tT nT x)))] := hD
    refine lv_aload_n hx hb dX7_feed_34 rfl (lv_at hl 0 rfl) ?_
    refine lv_dup hx hb dX7_feed_35 rfl ?_
    refine va_get (D := g.1) (ci := 9) (v := .int (nI nT)) (C := RX7) (T := TX7) (N := 40) hx hb hts (by decide +kernel) hown hK hP 0 rfl rfl 22 (by decide) (hts (.fieldLink RX7 213 "LearnedIndexModel" "length" "I") (by decide +kernel)) (fun _ h9 => h9) rfl dX7_feed_36 ?_
    refine lv_iconst (v := 1) hx hb dX7_feed_39 (by decide) ?_
    refine lv_iadd hx hb dX7_feed_40 ?_
    rw [show (nI nT) + 1 = nI (nT + 1) from nI_1 nT]
    refine va_put (D := g.1) (ci := 9) (v := .int (nI (nT + 1))) (ty := .int) (C := RX7) (T := TX7) (N := 40) hx hb hts (by decide +kernel) tyX7 tyX7_ok nmX7 hown hK hP hD hS 0 rfl rfl 22 (by decide) (hts (.fieldLink RX7 213 "LearnedIndexModel" "length" "I") (by decide +kernel)) (fun _ h9 => h9) rfl (by decide +kernel) rfl rfl (Nat.le_of_ble_eq_true rfl) dX7_feed_41 (fun H locs hP hD hS => ?_)
    have hP : va_P g.1 vwCl [(h, .inr (9, [.int 0, .int zsz, .int zch, .ref ak, .ref av, .ref bk, .ref bv, .ref br, .ref a_s, .ref a_t, .int zsg, .ref g1, .ref g2, .ref g3, .long zl1, .long zl2, .long zl3, .long zl4, .int zpb, .ref pa, .ref ru, .ref tx, .int (nI (nT + 1)), .int zat, .int zrk, .int zrv, .int zre, .int zwr, .int zrm, .int zrs, .int zis, .int zss, .int zsc, .ref dk, .ref dv, .ref ek, .ref ev, .ref er, .ref es, .ref et])), (tx, .inl (g.2.1.2.1, 100, .inl (upd tT nT x)))] H := hP
    have hD : va_D A [(h, .inr (9, [.int 0, .int zsz, .int zch, .ref ak, .ref av, .ref bk, .ref bv, .ref br, .ref a_s, .ref a_t, .int zsg, .ref g1, .ref g2, .ref g3, .long zl1, .long zl2, .long zl3, .long zl4, .int zpb, .ref pa, .ref ru, .ref tx, .int (nI (nT + 1)), .int zat, .int zrk, .int zrv, .int zre, .int zwr, .int zrm, .int zrs, .int zis, .int zss, .int zsc, .ref dk, .ref dv, .ref ek, .ref ev, .ref er, .ref es, .ref et])), (tx, .inl (g.2.1.2.1, 100, .inl (upd tT nT x)))] := hD
    refine lv_aload_n hx hb dX7_feed_44 rfl (lv_at hl 0 rfl) ?_
    refine va_get (D := g.1) (ci := 9) (v := .int (nI (nT + 1))) (C := RX7) (T := TX7) (N := 40) hx hb hts (by decide +kernel) hown hK hP 0 rfl rfl 22 (by decide) (hts (.fieldLink RX7 213 "LearnedIndexModel" "length" "I") (by decide +kernel)) (fun _ h9 => h9) rfl dX7_feed_45 ?_
    exact kreti hx hb hRt hlk hK hP hD hS rfl dX7_feed_48 (⟨_, _, by rw [hk9, if_pos rfl], Or.inl ⟨hk9, rfl, rfl⟩, by rw [hk9]⟩)
  · skip
    have hlt : nT = 100 := by rw [nI_eq (by omega) (by decide)] at c_8; exact c_8
    have hk9 : fdK nT = 1 := by rw [fdK, if_pos (by omega)]
    refine lv_iconst (v := 1) hx hb dX7_feed_11 (by decide) ?_
    refine lv_goto (tgt := 16) hx hb dX7_feed_12 (by decide) ?_
    refine kcalli (wc := [(h, .inr (9, [.int zth, .int zsz, .int zch, .ref ak, .ref av, .ref bk, .ref bv, .ref br, .ref a_s, .ref a_t, .int zsg, .ref g1, .ref g2, .ref g3, .long zl1, .long zl2, .long zl3, .long zl4, .int zpb, .ref pa, .ref ru, .ref tx, .int (nI nT), .int zat, .int zrk, .int zrv, .int zre, .int zwr, .int zrm, .int zrs, .int zis, .int zss, .int zsc, .ref dk, .ref dv, .ref ek, .ref ev, .ref er, .ref es, .ref et]))]) [0] (va_runV (C := RX7) (As := [.int 1, .int 1]) (rest := []) ⟨hx, hb, hml, hown, hts⟩ ((c_X7_fails1 l g h zth zsz zch zsg zl1 zl2 zl3 zl4 zpb (nI nT) zat zrk zrv zre zwr zrm zrs zis zss zsc ak av bk bv br a_s a_t g1 g2 g3 pa ru tx dk dv ek ev er es et 1) _) (cwV 2 hts gX7_feed_X7_fails rfl rfl rfl (by decide +kernel) ⟨Nat.le_of_ble_eq_true rfl, Nat.le_of_ble_eq_true rfl⟩) (kpreV (wc := [(h, .inr (9, [.int zth, .int zsz, .int zch, .ref ak, .ref av, .ref bk, .ref bv, .ref br, .ref a_s, .ref a_t, .int zsg, .ref g1, .ref g2, .ref g3, .long zl1, .long zl2, .long zl3, .long zl4, .int zpb, .ref pa, .ref ru, .ref tx, .int (nI nT), .int zat, .int zrk, .int zrv, .int zre, .int zwr, .int zrm, .int zrs, .int zis, .int zss, .int zsc, .ref dk, .ref dv, .ref ek, .ref ev, .ref er, .ref es, .ref et]))]) (ci := 9) hK hP hD hS hA hE [0] rfl rfl rfl rfl) rfl rfl hl.1 rfl (lv_room (Nat.le_of_ble_eq_true rfl)) dX7_feed_16 ⟨Nat.zero_le _, Nat.zero_le _⟩) hP hD hS hA rfl (fun r_2 w_2 H locs hp hP hD hS => ?_)
    obtain ⟨rfl, rfl⟩ := hp
    have hP : va_P g.1 vwCl [(h, .inr (9, [.int 1, .int zsz, .int zch, .ref ak, .ref av, .ref bk, .ref bv, .ref br, .ref a_s, .ref a_t, .int zsg, .ref g1, .ref g2, .ref g3, .long zl1, .long zl2, .long zl3, .long zl4, .int zpb, .ref pa, .ref ru, .ref tx, .int (nI nT), .int zat, .int zrk, .int zrv, .int zre, .int zwr, .int zrm, .int zrs, .int zis, .int zss, .int zsc, .ref dk, .ref dv, .ref ek, .ref ev, .ref er, .ref es, .ref et])), (tx, .inl (g.2.1.2.1, 100, .inl tT))] H := hP
    have hD : va_D A [(h, .inr (9, [.int 1, .int zsz, .int zch, .ref ak, .ref av, .ref bk, .ref bv, .ref br, .ref a_s, .ref a_t, .int zsg, .ref g1, .ref g2, .ref g3, .long zl1, .long zl2, .long zl3, .long zl4, .int zpb, .ref pa, .ref ru, .ref tx, .int (nI nT), .int zat, .int zrk, .int zrv, .int zre, .int zwr, .int zrm, .int zrs, .int zis, .int zss, .int zsc, .ref dk, .ref dv, .ref ek, .ref ev, .ref er, .ref es, .ref et])), (tx, .inl (g.2.1.2.1, 100, .inl tT))] := hD
    refine lv_if_eq (tgt := 24) hx hb dX7_feed_19 (by decide) (fun c_19 => absurd c_19 (by decide)) (fun c_19 => ?_)
    refine lv_iconst (v := 0) hx hb dX7_feed_22 (by decide) ?_
    exact kreti hx hb hRt hlk hK hP hD hS rfl dX7_feed_23 (⟨nT, tT, by rw [hk9]; rfl, Or.inr ⟨hk9, rfl, rfl⟩, by rw [hk9]⟩)
theorem dX7_seesDigit_0 : decode cX7_seesDigit 0 = .ok (.aload_n 0, 1) := by decide +kernel
theorem dX7_seesDigit_1 : decode cX7_seesDigit 1 = .ok (.getfield 216, 3) := by decide +kernel
theorem dX7_seesDigit_4 : decode cX7_seesDigit 4 = .ok (.ifCond .ne 46, 3) := by decide +kernel
theorem dX7_seesDigit_7 : decode cX7_seesDigit 7 = .ok (.aload_n 0, 1) := by decide +kernel
theorem dX7_seesDigit_8 : decode cX7_seesDigit 8 = .ok (.getfield 220, 3) := by decide +kernel
theorem dX7_seesDigit_11 : decode cX7_seesDigit 11 = .ok (.aload_n 0, 1) := by decide +kernel
theorem dX7_seesDigit_12 : decode cX7_seesDigit 12 = .ok (.getfield 213, 3) := by decide +kernel
theorem dX7_seesDigit_15 : decode cX7_seesDigit 15 = .ok (.if_icmp .ge 35, 3) := by decide +kernel
theorem dX7_seesDigit_18 : decode cX7_seesDigit 18 = .ok (.aload_n 0, 1) := by decide +kernel
theorem dX7_seesDigit_19 : decode cX7_seesDigit 19 = .ok (.getfield 46, 3) := by decide +kernel
theorem dX7_seesDigit_22 : decode cX7_seesDigit 22 = .ok (.aload_n 0, 1) := by decide +kernel
theorem dX7_seesDigit_23 : decode cX7_seesDigit 23 = .ok (.getfield 220, 3) := by decide +kernel
theorem dX7_seesDigit_26 : decode cX7_seesDigit 26 = .ok (.caload, 1) := by decide +kernel
theorem dX7_seesDigit_27 : decode cX7_seesDigit 27 = .ok (.bipush 48, 2) := by decide +kernel
theorem dX7_seesDigit_29 : decode cX7_seesDigit 29 = .ok (.if_icmp .lt 21, 3) := by decide +kernel
theorem dX7_seesDigit_32 : decode cX7_seesDigit 32 = .ok (.aload_n 0, 1) := by decide +kernel
theorem dX7_seesDigit_33 : decode cX7_seesDigit 33 = .ok (.getfield 46, 3) := by decide +kernel
theorem dX7_seesDigit_36 : decode cX7_seesDigit 36 = .ok (.aload_n 0, 1) := by decide +kernel
theorem dX7_seesDigit_37 : decode cX7_seesDigit 37 = .ok (.getfield 220, 3) := by decide +kernel
theorem dX7_seesDigit_40 : decode cX7_seesDigit 40 = .ok (.caload, 1) := by decide +kernel
theorem dX7_seesDigit_41 : decode cX7_seesDigit 41 = .ok (.bipush 57, 2) := by decide +kernel
theorem dX7_seesDigit_43 : decode cX7_seesDigit 43 = .ok (.if_icmp .gt 7, 3) := by decide +kernel
theorem dX7_seesDigit_46 : decode cX7_seesDigit 46 = .ok (.iconst 1, 1) := by decide +kernel
theorem dX7_seesDigit_47 : decode cX7_seesDigit 47 = .ok (.goto 4, 3) := by decide +kernel
theorem dX7_seesDigit_50 : decode cX7_seesDigit 50 = .ok (.iconst 0, 1) := by decide +kernel
theorem dX7_seesDigit_51 : decode cX7_seesDigit 51 = .ok (.ireturn, 1) := by decide +kernel
def rm_X7_seesDigit0 : Room := { frames := 0, cells := 0, slots := 0, locals := 0 }
abbrev p_X7_seesDigit0 (g : kG) (h : Nat) (zth : Int32) (zsz : Int32) (zch : Int32) (zsg : Int32) (zl1 : Int64) (zl2 : Int64) (zl3 : Int64) (zl4 : Int64) (zpb : Int32) (zrk : Int32) (zrv : Int32) (zre : Int32) (zrm : Int32) (zrs : Int32) (zis : Int32) (zss : Int32) (zsc : Int32) (ak : Nat) (av : Nat) (bk : Nat) (bv : Nat) (br : Nat) (a_s : Nat) (a_t : Nat) (g1 : Nat) (g2 : Nat) (g3 : Nat) (pa : Nat) (ru : Nat) (tx : Nat) (dk : Nat) (dv : Nat) (ek : Nat) (ev : Nat) (er : Nat) (es : Nat) (et : Nat) (nT : Nat) (i : Nat) (tT : Nat → Int32) : Int32 → va_W → Prop := fun r w1 => r = kdg (ch tT nT i) ∧ w1 = [(h, .inr (9, [.int zth, .int zsz, .int zch, .ref ak, .ref av, .ref bk, .ref bv, .ref br, .ref a_s, .ref a_t, .int zsg, .ref g1, .ref g2, .ref g3, .long zl1, .long zl2, .long zl3, .long zl4, .int zpb, .ref pa, .ref ru, .ref tx, .int (nI nT), .int (nI i), .int zrk, .int zrv, .int zre, .int 0, .int zrm, .int zrs, .int zis, .int zss, .int zsc, .ref dk, .ref dv, .ref ek, .ref ev, .ref er, .ref es, .ref et])), (tx, .inl (g.2.1.2.1, 100, .inl tT))]
set_option maxHeartbeats 4000000 in
set_option maxRecDepth 100000 in
theorem c_X7_seesDigit0 (l : Launch) (g : kG) (h : Nat) (zth : Int32) (zsz : Int32) (zch : Int32) (zsg : Int32) (zl1 : Int64) (zl2 : Int64) (zl3 : Int64) (zl4 : Int64) (zpb : Int32) (zrk : Int32) (zrv : Int32) (zre : Int32) (zrm : Int32) (zrs : Int32) (zis : Int32) (zss : Int32) (zsc : Int32) (ak : Nat) (av : Nat) (bk : Nat) (bv : Nat) (br : Nat) (a_s : Nat) (a_t : Nat) (g1 : Nat) (g2 : Nat) (g3 : Nat) (pa : Nat) (ru : Nat) (tx : Nat) (dk : Nat) (dv : Nat) (ek : Nat) (ev : Nat) (er : Nat) (es : Nat) (et : Nat) (nT : Nat) (i : Nat) (tT : Nat → Int32) (hn : nT ≤ 100) (hi : i ≤ nT) : KI l yX7_seesDigit wsX7_seesDigit rm_X7_seesDigit0 g [.ref h] [(h, .inr (9, [.int zth, .int zsz, .int zch, .ref ak, .ref av, .ref bk, .ref bv, .ref br, .ref a_s, .ref a_t, .int zsg, .ref g1, .ref g2, .ref g3, .long zl1, .long zl2, .long zl3, .long zl4, .int zpb, .ref pa, .ref ru, .ref tx, .int (nI nT), .int (nI i), .int zrk, .int zrv, .int zre, .int 0, .int zrm, .int zrs, .int zis, .int zss, .int zsc, .ref dk, .ref dv, .ref ek, .ref ev, .ref er, .ref es, .ref et])), (tx, .inl (g.2.1.2.1, 100, .inl tT))] (p_X7_seesDigit0 g h zth zsz zch zsg zl1 zl2 zl3 zl4 zpb zrk zrv zre zrm zrs zis zss zsc ak av bk bv br a_s a_t g1 g2 g3 pa ru tx dk dv ek ev er es et nT i tT) := by
  refine kbodyI (cc := cX7_seesDigit) (n := 1) (k := 2) (own := RX7) (plainFor_of_name (by decide)) rfl rfl rfl rfl ?_
  intro p e s m below meth cd A ls hcx
  obtain ⟨hx, hb, hRt, hml, hts, hown, hlk, hA, hP, hK, hD, hE, hS, hl⟩ := hcx
  have hl : lv_has ls 1 [(0, .ref h)] := hl
  refine lv_aload_n hx hb dX7_seesDigit_0 rfl (lv_at hl 0 rfl) ?_
  refine va_get (D := g.1) (ci := 9) (v := .int 0) (C := RX7) (T := TX7) (N := 40) hx hb hts (by decide +kernel) hown hK hP 0 rfl rfl 27 (by decide) (hts (.fieldLink RX7 216 "LearnedIndexModel" "isWrong" "Z") (by decide +kernel)) (fun _ h9 => h9) rfl dX7_seesDigit_1 ?_
  refine lv_if_ne (tgt := 50) hx hb dX7_seesDigit_4 (by decide) (fun c_4 => absurd c_4 (fun z => z rfl)) (fun c_4 => ?_)
  refine lv_aload_n hx hb dX7_seesDigit_7 rfl (lv_at hl 0 rfl) ?_
  refine va_get (D := g.1) (ci := 9) (v := .int (nI i)) (C := RX7) (T := TX7) (N := 40) hx hb hts (by decide +kernel) hown hK hP 0 rfl rfl 23 (by decide) (hts (.fieldLink RX7 220 "LearnedIndexModel" "at" "I") (by decide +kernel)) (fun _ h9 => h9) rfl dX7_seesDigit_8 ?_
  refine lv_aload_n hx hb dX7_seesDigit_11 rfl (lv_at hl 0 rfl) ?_
  refine va_get (D := g.1) (ci := 9) (v := .int (nI nT)) (C := RX7) (T := TX7) (N := 40) hx hb hts (by decide +kernel) hown hK hP 0 rfl rfl 22 (by decide) (hts (.fieldLink RX7 213 "LearnedIndexModel" "length" "I") (by decide +kernel)) (fun _ h9 => h9) rfl dX7_seesDigit_12 ?_
  refine lv_icmp_ge (tgt := 50) hx hb dX7_seesDigit_15 (by decide) (fun c_15 => ?_) (fun c_15 => ?_)
  · skip
    have hin : nT ≤ i := kg (by omega) (by omega) c_15
    refine lv_iconst (v := 0) hx hb dX7_seesDigit_50 (by decide) ?_
    exact kretz hx hb hRt hlk hK hP hD hS rfl dX7_seesDigit_51 (by decide) (⟨by rw [ch, if_neg (by omega)]; rfl, rfl⟩)
  · skip
    have hin : i < nT := kl (by omega) (by omega) c_15
    refine lv_aload_n hx hb dX7_seesDigit_18 rfl (lv_at hl 0 rfl) ?_
    refine va_get (D := g.1) (ci := 9) (v := .ref tx) (C := RX7) (T := TX7) (N := 40) hx hb hts (by decide +kernel) hown hK hP 0 rfl rfl 21 (by decide) (hts (.fieldLink RX7 46 "LearnedIndexModel" "text" "[C") (by decide +kernel)) (fun _ h9 => h9) rfl dX7_seesDigit_19 ?_
    refine lv_aload_n hx hb dX7_seesDigit_22 rfl (lv_at hl 0 rfl) ?_
    refine va_get (D := g.1) (ci := 9) (v := .int (nI i)) (C := RX7) (T := TX7) (N := 40) hx hb hts (by decide +kernel) hown hK hP 0 rfl rfl 23 (by decide) (hts (.fieldLink RX7 220 "LearnedIndexModel" "at" "I") (by decide +kernel)) (fun _ h9 => h9) rfl dX7_seesDigit_23 ?_
    refine va_cald hx hb hK hP 1 1 rfl rfl (vp_in_nI (show i < 100 by omega) (by omega)) dX7_seesDigit_26 ?_
    rw [show (nI i : Int32).toNatClampNeg = i from nI_clamp (n := i) (by omega)]
    refine lv_bipush (v := 48) hx hb dX7_seesDigit_27 (by decide) ?_
    refine lv_icmp_lt (tgt := 50) hx hb dX7_seesDigit_29 (by decide) (fun c_29 => ?_) (fun c_29 => ?_)
    · skip
      refine lv_iconst (v := 0) hx hb dX7_seesDigit_50 (by decide) ?_
      exact kretz hx hb hRt hlk hK hP hD hS rfl dX7_seesDigit_51 (by decide) (⟨by rw [ch, if_pos hin, kdg, if_pos c_29], rfl⟩)
    · skip
      refine lv_aload_n hx hb dX7_seesDigit_32 rfl (lv_at hl 0 rfl) ?_
      refine va_get (D := g.1) (ci := 9) (v := .ref tx) (C := RX7) (T := TX7) (N := 40) hx hb hts (by decide +kernel) hown hK hP 0 rfl rfl 21 (by decide) (hts (.fieldLink RX7 46 "LearnedIndexModel" "text" "[C") (by decide +kernel)) (fun _ h9 => h9) rfl dX7_seesDigit_33 ?_
      refine lv_aload_n hx hb dX7_seesDigit_36 rfl (lv_at hl 0 rfl) ?_
      refine va_get (D := g.1) (ci := 9) (v := .int (nI i)) (C := RX7) (T := TX7) (N := 40) hx hb hts (by decide +kernel) hown hK hP 0 rfl rfl 23 (by decide) (hts (.fieldLink RX7 220 "LearnedIndexModel" "at" "I") (by decide +kernel)) (fun _ h9 => h9) rfl dX7_seesDigit_37 ?_
      refine va_cald hx hb hK hP 1 1 rfl rfl (vp_in_nI (show i < 100 by omega) (by omega)) dX7_seesDigit_40 ?_
      rw [show (nI i : Int32).toNatClampNeg = i from nI_clamp (n := i) (by omega)]
      refine lv_bipush (v := 57) hx hb dX7_seesDigit_41 (by decide) ?_
      refine lv_icmp_gt (tgt := 50) hx hb dX7_seesDigit_43 (by decide) (fun c_43 => ?_) (fun c_43 => ?_)
      · skip
        refine lv_iconst (v := 0) hx hb dX7_seesDigit_50 (by decide) ?_
        exact kretz hx hb hRt hlk hK hP hD hS rfl dX7_seesDigit_51 (by decide) (⟨by rw [ch, if_pos hin, kdg, if_neg c_29, if_pos c_43], rfl⟩)
      · skip
        refine lv_iconst (v := 1) hx hb dX7_seesDigit_46 (by decide) ?_
        refine lv_goto (tgt := 51) hx hb dX7_seesDigit_47 (by decide) ?_
        exact kretz hx hb hRt hlk hK hP hD hS rfl dX7_seesDigit_51 (by decide) (⟨by rw [ch, if_pos hin, kdg, if_neg c_29, if_neg c_43], rfl⟩)
def rm_X7_seesDigit1 : Room := { frames := 0, cells := 0, slots := 0, locals := 0 }
abbrev p_X7_seesDigit1 (g : kG) (h : Nat) (zth : Int32) (zsz : Int32) (zch : Int32) (zsg : Int32) (zl1 : Int64) (zl2 : Int64) (zl3 : Int64) (zl4 : Int64) (zpb : Int32) (zln : Int32) (zat : Int32) (zrk : Int32) (zrv : Int32) (zre : Int32) (zrm : Int32) (zrs : Int32) (zis : Int32) (zss : Int32) (zsc : Int32) (ak : Nat) (av : Nat) (bk : Nat) (bv : Nat) (br : Nat) (a_s : Nat) (a_t : Nat) (g1 : Nat) (g2 : Nat) (g3 : Nat) (pa : Nat) (ru : Nat) (tx : Nat) (dk : Nat) (dv : Nat) (ek : Nat) (ev : Nat) (er : Nat) (es : Nat) (et : Nat) : Int32 → va_W → Prop := fun r w1 => r = 0 ∧ w1 = [(h, .inr (9, [.int zth, .int zsz, .int zch, .ref ak, .ref av, .ref bk, .ref bv, .ref br, .ref a_s, .ref a_t, .int zsg, .ref g1, .ref g2, .ref g3, .long zl1, .long zl2, .long zl3, .long zl4, .int zpb, .ref pa, .ref ru, .ref tx, .int zln, .int zat, .int zrk, .int zrv, .int zre, .int 1, .int zrm, .int zrs, .int zis, .int zss, .int zsc, .ref dk, .ref dv, .ref ek, .ref ev, .ref er, .ref es, .ref et]))]
set_option maxHeartbeats 4000000 in
set_option maxRecDepth 100000 in
theorem c_X7_seesDigit1 (l : Launch) (g : kG) (h : Nat) (zth : Int32) (zsz : Int32) (zch : Int32) (zsg : Int32) (zl1 : Int64) (zl2 : Int64) (zl3 : Int64) (zl4 : Int64) (zpb : Int32) (zln : Int32) (zat : Int32) (zrk : Int32) (zrv : Int32) (zre : Int32) (zrm : Int32) (zrs : Int32) (zis : Int32) (zss : Int32) (zsc : Int32) (ak : Nat) (av : Nat) (bk : Nat) (bv : Nat) (br : Nat) (a_s : Nat) (a_t : Nat) (g1 : Nat) (g2 : Nat) (g3 : Nat) (pa : Nat) (ru : Nat) (tx : Nat) (dk : Nat) (dv : Nat) (ek : Nat) (ev : Nat) (er : Nat) (es : Nat) (et : Nat) : KI l yX7_seesDigit wsX7_seesDigit rm_X7_seesDigit1 g [.ref h] [(h, .inr (9, [.int zth, .int zsz, .int zch, .ref ak, .ref av, .ref bk, .ref bv, .ref br, .ref a_s, .ref a_t, .int zsg, .ref g1, .ref g2, .ref g3, .long zl1, .long zl2, .long zl3, .long zl4, .int zpb, .ref pa, .ref ru, .ref tx, .int zln, .int zat, .int zrk, .int zrv, .int zre, .int 1, .int zrm, .int zrs, .int zis, .int zss, .int zsc, .ref dk, .ref dv, .ref ek, .ref ev, .ref er, .ref es, .ref et]))] (p_X7_seesDigit1 g h zth zsz zch zsg zl1 zl2 zl3 zl4 zpb zln zat zrk zrv zre zrm zrs zis zss zsc ak av bk bv br a_s a_t g1 g2 g3 pa ru tx dk dv ek ev er es et) := by
  refine kbodyI (cc := cX7_seesDigit) (n := 1) (k := 1) (own := RX7) (plainFor_of_name (by decide)) rfl rfl rfl rfl ?_
  intro p e s m below meth cd A ls hcx
  obtain ⟨hx, hb, hRt, hml, hts, hown, hlk, hA, hP, hK, hD, hE, hS, hl⟩ := hcx
  have hl : lv_has ls 1 [(0, .ref h)] := hl
  refine lv_aload_n hx hb dX7_seesDigit_0 rfl (lv_at hl 0 rfl) ?_
  refine va_get (D := g.1) (ci := 9) (v := .int 1) (C := RX7) (T := TX7) (N := 40) hx hb hts (by decide +kernel) hown hK hP 0 rfl rfl 27 (by decide) (hts (.fieldLink RX7 216 "LearnedIndexModel" "isWrong" "Z") (by decide +kernel)) (fun _ h9 => h9) rfl dX7_seesDigit_1 ?_
  refine lv_if_ne (tgt := 50) hx hb dX7_seesDigit_4 (by decide) (fun c_4 => ?_) (fun c_4 => absurd c_4 (by decide))
  refine lv_iconst (v := 0) hx hb dX7_seesDigit_50 (by decide) ?_
  exact kretz hx hb hRt hlk hK hP hD hS rfl dX7_seesDigit_51 (by decide) (⟨rfl, rfl⟩)
theorem dX7_passes_0 : decode cX7_passes 0 = .ok (.aload_n 0, 1) := by decide +kernel
theorem dX7_passes_1 : decode cX7_passes 1 = .ok (.getfield 216, 3) := by decide +kernel
theorem dX7_passes_4 : decode cX7_passes 4 = .ok (.ifCond .ne 31, 3) := by decide +kernel
theorem dX7_passes_7 : decode cX7_passes 7 = .ok (.aload_n 0, 1) := by decide +kernel
theorem dX7_passes_8 : decode cX7_passes 8 = .ok (.getfield 220, 3) := by decide +kernel
theorem dX7_passes_11 : decode cX7_passes 11 = .ok (.aload_n 0, 1) := by decide +kernel
theorem dX7_passes_12 : decode cX7_passes 12 = .ok (.getfield 213, 3) := by decide +kernel
theorem dX7_passes_15 : decode cX7_passes 15 = .ok (.if_icmp .ge 20, 3) := by decide +kernel
theorem dX7_passes_18 : decode cX7_passes 18 = .ok (.aload_n 0, 1) := by decide +kernel
theorem dX7_passes_19 : decode cX7_passes 19 = .ok (.getfield 46, 3) := by decide +kernel
theorem dX7_passes_22 : decode cX7_passes 22 = .ok (.aload_n 0, 1) := by decide +kernel
theorem dX7_passes_23 : decode cX7_passes 23 = .ok (.getfield 220, 3) := by decide +kernel
theorem dX7_passes_26 : decode cX7_passes 26 = .ok (.caload, 1) := by decide +kernel
theorem dX7_passes_27 : decode cX7_passes 27 = .ok (.iload_n 1, 1) := by decide +kernel
theorem dX7_passes_28 : decode cX7_passes 28 = .ok (.if_icmp .ne 7, 3) := by decide +kernel
theorem dX7_passes_31 : decode cX7_passes 31 = .ok (.iconst 1, 1) := by decide +kernel
theorem dX7_passes_32 : decode cX7_passes 32 = .ok (.goto 4, 3) := by decide +kernel
theorem dX7_passes_35 : decode cX7_passes 35 = .ok (.iconst 0, 1) := by decide +kernel
theorem dX7_passes_36 : decode cX7_passes 36 = .ok (.istore_n 2, 1) := by decide +kernel
theorem dX7_passes_37 : decode cX7_passes 37 = .ok (.aload_n 0, 1) := by decide +kernel
theorem dX7_passes_38 : decode cX7_passes 38 = .ok (.dup, 1) := by decide +kernel
theorem dX7_passes_39 : decode cX7_passes 39 = .ok (.getfield 220, 3) := by decide +kernel
theorem dX7_passes_42 : decode cX7_passes 42 = .ok (.iload_n 2, 1) := by decide +kernel
theorem dX7_passes_43 : decode cX7_passes 43 = .ok (.ifCond .eq 7, 3) := by decide +kernel
theorem dX7_passes_46 : decode cX7_passes 46 = .ok (.iconst 1, 1) := by decide +kernel
theorem dX7_passes_47 : decode cX7_passes 47 = .ok (.goto 4, 3) := by decide +kernel
theorem dX7_passes_50 : decode cX7_passes 50 = .ok (.iconst 0, 1) := by decide +kernel
theorem dX7_passes_51 : decode cX7_passes 51 = .ok (.iadd, 1) := by decide +kernel
theorem dX7_passes_52 : decode cX7_passes 52 = .ok (.putfield 220, 3) := by decide +kernel
theorem dX7_passes_55 : decode cX7_passes 55 = .ok (.iload_n 2, 1) := by decide +kernel
theorem dX7_passes_56 : decode cX7_passes 56 = .ok (.ireturn, 1) := by decide +kernel
def rm_X7_passes0 : Room := { frames := 0, cells := 0, slots := 0, locals := 0 }
abbrev p_X7_passes0 (g : kG) (h : Nat) (zth : Int32) (zsz : Int32) (zch : Int32) (zsg : Int32) (zl1 : Int64) (zl2 : Int64) (zl3 : Int64) (zl4 : Int64) (zpb : Int32) (zrk : Int32) (zrv : Int32) (zre : Int32) (zrm : Int32) (zrs : Int32) (zis : Int32) (zss : Int32) (zsc : Int32) (ak : Nat) (av : Nat) (bk : Nat) (bv : Nat) (br : Nat) (a_s : Nat) (a_t : Nat) (g1 : Nat) (g2 : Nat) (g3 : Nat) (pa : Nat) (ru : Nat) (tx : Nat) (dk : Nat) (dv : Nat) (ek : Nat) (ev : Nat) (er : Nat) (es : Nat) (et : Nat) (nT : Nat) (i : Nat) (tT : Nat → Int32) (x : Int32) : Int32 → va_W → Prop := fun r w1 => r = kbool (decide (ch tT nT i = x)) ∧ w1 = [(h, .inr (9, [.int zth, .int zsz, .int zch, .ref ak, .ref av, .ref bk, .ref bv, .ref br, .ref a_s, .ref a_t, .int zsg, .ref g1, .ref g2, .ref g3, .long zl1, .long zl2, .long zl3, .long zl4, .int zpb, .ref pa, .ref ru, .ref tx, .int (nI nT), .int (nI (if ch tT nT i = x then i + 1 else i)), .int zrk, .int zrv, .int zre, .int 0, .int zrm, .int zrs, .int zis, .int zss, .int zsc, .ref dk, .ref dv, .ref ek, .ref ev, .ref er, .ref es, .ref et])), (tx, .inl (g.2.1.2.1, 100, .inl tT))]
set_option maxHeartbeats 4000000 in
set_option maxRecDepth 100000 in
theorem c_X7_passes0 (l : Launch) (g : kG) (h : Nat) (zth : Int32) (zsz : Int32) (zch : Int32) (zsg : Int32) (zl1 : Int64) (zl2 : Int64) (zl3 : Int64) (zl4 : Int64) (zpb : Int32) (zrk : Int32) (zrv : Int32) (zre : Int32) (zrm : Int32) (zrs : Int32) (zis : Int32) (zss : Int32) (zsc : Int32) (ak : Nat) (av : Nat) (bk : Nat) (bv : Nat) (br : Nat) (a_s : Nat) (a_t : Nat) (g1 : Nat) (g2 : Nat) (g3 : Nat) (pa : Nat) (ru : Nat) (tx : Nat) (dk : Nat) (dv : Nat) (ek : Nat) (ev : Nat) (er : Nat) (es : Nat) (et : Nat) (nT : Nat) (i : Nat) (tT : Nat → Int32) (x : Int32) (hn : nT ≤ 100) (hi : i ≤ nT) (hxx : ¬ x = -1) : KI l yX7_passes wsX7_passes rm_X7_passes0 g [.ref h, .int x] [(h, .inr (9, [.int zth, .int zsz, .int zch, .ref ak, .ref av, .ref bk, .ref bv, .ref br, .ref a_s, .ref a_t, .int zsg, .ref g1, .ref g2, .ref g3, .long zl1, .long zl2, .long zl3, .long zl4, .int zpb, .ref pa, .ref ru, .ref tx, .int (nI nT), .int (nI i), .int zrk, .int zrv, .int zre, .int 0, .int zrm, .int zrs, .int zis, .int zss, .int zsc, .ref dk, .ref dv, .ref ek, .ref ev, .ref er, .ref es, .ref et])), (tx, .inl (g.2.1.2.1, 100, .inl tT))] (p_X7_passes0 g h zth zsz zch zsg zl1 zl2 zl3 zl4 zpb zrk zrv zre zrm zrs zis zss zsc ak av bk bv br a_s a_t g1 g2 g3 pa ru tx dk dv ek ev er es et nT i tT x) := by
  refine kbodyI (cc := cX7_passes) (n := 3) (k := 2) (own := RX7) (plainFor_of_name (by decide)) rfl rfl rfl rfl ?_
  intro p e s m below meth cd A ls hcx
  obtain ⟨hx, hb, hRt, hml, hts, hown, hlk, hA, hP, hK, hD, hE, hS, hl⟩ := hcx
  have hl : lv_has ls 3 [(0, .ref h), (1, .int x)] := hl
  refine lv_aload_n hx hb dX7_passes_0 rfl (lv_at hl 0 rfl) ?_
  refine va_get (D := g.1) (ci := 9) (v := .int 0) (C := RX7) (T := TX7) (N := 40) hx hb hts (by decide +kernel) hown hK hP 0 rfl rfl 27 (by decide) (hts (.fieldLink RX7 216 "LearnedIndexModel" "isWrong" "Z") (by decide +kernel)) (fun _ h9 => h9) rfl dX7_passes_1 ?_
  refine lv_if_ne (tgt := 35) hx hb dX7_passes_4 (by decide) (fun c_4 => absurd c_4 (fun z => z rfl)) (fun c_4 => ?_)
  refine lv_aload_n hx hb dX7_passes_7 rfl (lv_at hl 0 rfl) ?_
  refine va_get (D := g.1) (ci := 9) (v := .int (nI i)) (C := RX7) (T := TX7) (N := 40) hx hb hts (by decide +kernel) hown hK hP 0 rfl rfl 23 (by decide) (hts (.fieldLink RX7 220 "LearnedIndexModel" "at" "I") (by decide +kernel)) (fun _ h9 => h9) rfl dX7_passes_8 ?_
  refine lv_aload_n hx hb dX7_passes_11 rfl (lv_at hl 0 rfl) ?_
  refine va_get (D := g.1) (ci := 9) (v := .int (nI nT)) (C := RX7) (T := TX7) (N := 40) hx hb hts (by decide +kernel) hown hK hP 0 rfl rfl 22 (by decide) (hts (.fieldLink RX7 213 "LearnedIndexModel" "length" "I") (by decide +kernel)) (fun _ h9 => h9) rfl dX7_passes_12 ?_
  refine lv_icmp_ge (tgt := 35) hx hb dX7_passes_15 (by decide) (fun c_15 => ?_) (fun c_15 => ?_)
  · skip
    have hin : nT ≤ i := kg (by omega) (by omega) c_15
    have f1 : ¬ ch tT nT i = x := by rw [ch, if_neg (by omega)]; exact fun z => hxx z.symm
    refine lv_iconst (v := 0) hx hb dX7_passes_35 (by decide) ?_
    refine lv_istore_n (lv' := [(2, .int 0), (0, .ref h), (1, .int x)]) hx hb dX7_passes_36 rfl hl (by decide) rfl (fun ls hl => ?_)
    refine lv_aload_n hx hb dX7_passes_37 rfl (lv_at hl 1 rfl) ?_
    refine lv_dup hx hb dX7_passes_38 rfl ?_
    refine va_get (D := g.1) (ci := 9) (v := .int (nI i)) (C := RX7) (T := TX7) (N := 40) hx hb hts (by decide +kernel) hown hK hP 0 rfl rfl 23 (by decide) (hts (.fieldLink RX7 220 "LearnedIndexModel" "at" "I") (by decide +kernel)) (fun _ h9 => h9) rfl dX7_passes_39 ?_
    refine lv_iload_n hx hb dX7_passes_42 rfl (lv_at hl 0 rfl) ?_
    refine lv_if_eq (tgt := 50) hx hb dX7_passes_43 (by decide) (fun c_43 => ?_) (fun c_43 => absurd (by decide) c_43)
    refine lv_iconst (v := 0) hx hb dX7_passes_50 (by decide) ?_
    refine lv_iadd hx hb dX7_passes_51 ?_
    rw [show ((nI i) + 0 : Int32) = nI i from kIz i]
    refine va_put (D := g.1) (ci := 9) (v := .int (nI i)) (ty := .int) (C := RX7) (T := TX7) (N := 40) hx hb hts (by decide +kernel) tyX7 tyX7_ok nmX7 hown hK hP hD hS 0 rfl rfl 23 (by decide) (hts (.fieldLink RX7 220 "LearnedIndexModel" "at" "I") (by decide +kernel)) (fun _ h9 => h9) rfl (by decide +kernel) rfl rfl (Nat.le_of_ble_eq_true rfl) dX7_passes_52 (fun H locs hP hD hS => ?_)
    have hP : va_P g.1 vwCl [(h, .inr (9, [.int zth, .int zsz, .int zch, .ref ak, .ref av, .ref bk, .ref bv, .ref br, .ref a_s, .ref a_t, .int zsg, .ref g1, .ref g2, .ref g3, .long zl1, .long zl2, .long zl3, .long zl4, .int zpb, .ref pa, .ref ru, .ref tx, .int (nI nT), .int (nI i), .int zrk, .int zrv, .int zre, .int 0, .int zrm, .int zrs, .int zis, .int zss, .int zsc, .ref dk, .ref dv, .ref ek, .ref ev, .ref er, .ref es, .ref et])), (tx, .inl (g.2.1.2.1, 100, .inl tT))] H := hP
    have hD : va_D A [(h, .inr (9, [.int zth, .int zsz, .int zch, .ref ak, .ref av, .ref bk, .ref bv, .ref br, .ref a_s, .ref a_t, .int zsg, .ref g1, .ref g2, .ref g3, .long zl1, .long zl2, .long zl3, .long zl4, .int zpb, .ref pa, .ref ru, .ref tx, .int (nI nT), .int (nI i), .int zrk, .int zrv, .int zre, .int 0, .int zrm, .int zrs, .int zis, .int zss, .int zsc, .ref dk, .ref dv, .ref ek, .ref ev, .ref er, .ref es, .ref et])), (tx, .inl (g.2.1.2.1, 100, .inl tT))] := hD
    refine lv_iload_n hx hb dX7_passes_55 rfl (lv_at hl 0 rfl) ?_
    exact kretz hx hb hRt hlk hK hP hD hS rfl dX7_passes_56 (by decide) (⟨by rw [decide_eq_false f1]; rfl, by rw [if_neg f1]⟩)
  · skip
    have hin : i < nT := kl (by omega) (by omega) c_15
    refine lv_aload_n hx hb dX7_passes_18 rfl (lv_at hl 0 rfl) ?_
    refine va_get (D := g.1) (ci := 9) (v := .ref tx) (C := RX7) (T := TX7) (N := 40) hx hb hts (by decide +kernel) hown hK hP 0 rfl rfl 21 (by decide) (hts (.fieldLink RX7 46 "LearnedIndexModel" "text" "[C") (by decide +kernel)) (fun _ h9 => h9) rfl dX7_passes_19 ?_
    refine lv_aload_n hx hb dX7_passes_22 rfl (lv_at hl 0 rfl) ?_
    refine va_get (D := g.1) (ci := 9) (v := .int (nI i)) (C := RX7) (T := TX7) (N := 40) hx hb hts (by decide +kernel) hown hK hP 0 rfl rfl 23 (by decide) (hts (.fieldLink RX7 220 "LearnedIndexModel" "at" "I") (by decide +kernel)) (fun _ h9 => h9) rfl dX7_passes_23 ?_
    refine va_cald hx hb hK hP 1 1 rfl rfl (vp_in_nI (show i < 100 by omega) (by omega)) dX7_passes_26 ?_
    rw [show (nI i : Int32).toNatClampNeg = i from nI_clamp (n := i) (by omega)]
    refine lv_iload_n hx hb dX7_passes_27 rfl (lv_at hl 1 rfl) ?_
    refine lv_icmp_ne (tgt := 35) hx hb dX7_passes_28 (by decide) (fun c_28 => ?_) (fun c_28 => ?_)
    · skip
      have f1 : ¬ ch tT nT i = x := by rw [ch, if_pos hin]; exact c_28
      refine lv_iconst (v := 0) hx hb dX7_passes_35 (by decide) ?_
      refine lv_istore_n (lv' := [(2, .int 0), (0, .ref h), (1, .int x)]) hx hb dX7_passes_36 rfl hl (by decide) rfl (fun ls hl => ?_)
      refine lv_aload_n hx hb dX7_passes_37 rfl (lv_at hl 1 rfl) ?_
      refine lv_dup hx hb dX7_passes_38 rfl ?_
      refine va_get (D := g.1) (ci := 9) (v := .int (nI i)) (C := RX7) (T := TX7) (N := 40) hx hb hts (by decide +kernel) hown hK hP 0 rfl rfl 23 (by decide) (hts (.fieldLink RX7 220 "LearnedIndexModel" "at" "I") (by decide +kernel)) (fun _ h9 => h9) rfl dX7_passes_39 ?_
      refine lv_iload_n hx hb dX7_passes_42 rfl (lv_at hl 0 rfl) ?_
      refine lv_if_eq (tgt := 50) hx hb dX7_passes_43 (by decide) (fun c_43 => ?_) (fun c_43 => absurd (by decide) c_43)
      refine lv_iconst (v := 0) hx hb dX7_passes_50 (by decide) ?_
      refine lv_iadd hx hb dX7_passes_51 ?_
      rw [show ((nI i) + 0 : Int32) = nI i from kIz i]
      refine va_put (D := g.1) (ci := 9) (v := .int (nI i)) (ty := .int) (C := RX7) (T := TX7) (N := 40) hx hb hts (by decide +kernel) tyX7 tyX7_ok nmX7 hown hK hP hD hS 0 rfl rfl 23 (by decide) (hts (.fieldLink RX7 220 "LearnedIndexModel" "at" "I") (by decide +kernel)) (fun _ h9 => h9) rfl (by decide +kernel) rfl rfl (Nat.le_of_ble_eq_true rfl) dX7_passes_52 (fun H locs hP hD hS => ?_)
      have hP : va_P g.1 vwCl [(h, .inr (9, [.int zth, .int zsz, .int zch, .ref ak, .ref av, .ref bk, .ref bv, .ref br, .ref a_s, .ref a_t, .int zsg, .ref g1, .ref g2, .ref g3, .long zl1, .long zl2, .long zl3, .long zl4, .int zpb, .ref pa, .ref ru, .ref tx, .int (nI nT), .int (nI i), .int zrk, .int zrv, .int zre, .int 0, .int zrm, .int zrs, .int zis, .int zss, .int zsc, .ref dk, .ref dv, .ref ek, .ref ev, .ref er, .ref es, .ref et])), (tx, .inl (g.2.1.2.1, 100, .inl tT))] H := hP
      have hD : va_D A [(h, .inr (9, [.int zth, .int zsz, .int zch, .ref ak, .ref av, .ref bk, .ref bv, .ref br, .ref a_s, .ref a_t, .int zsg, .ref g1, .ref g2, .ref g3, .long zl1, .long zl2, .long zl3, .long zl4, .int zpb, .ref pa, .ref ru, .ref tx, .int (nI nT), .int (nI i), .int zrk, .int zrv, .int zre, .int 0, .int zrm, .int zrs, .int zis, .int zss, .int zsc, .ref dk, .ref dv, .ref ek, .ref ev, .ref er, .ref es, .ref et])), (tx, .inl (g.2.1.2.1, 100, .inl tT))] := hD
      refine lv_iload_n hx hb dX7_passes_55 rfl (lv_at hl 0 rfl) ?_
      exact kretz hx hb hRt hlk hK hP hD hS rfl dX7_passes_56 (by decide) (⟨by rw [decide_eq_false f1]; rfl, by rw [if_neg f1]⟩)
    · skip
      have f1 : ch tT nT i = x := by rw [ch, if_pos hin]; exact c_28
      refine lv_iconst (v := 1) hx hb dX7_passes_31 (by decide) ?_
      refine lv_goto (tgt := 36) hx hb dX7_passes_32 (by decide) ?_
      refine lv_istore_n (lv' := [(2, .int 1), (0, .ref h), (1, .int x)]) hx hb dX7_passes_36 rfl hl (by decide) rfl (fun ls hl => ?_)
      refine lv_aload_n hx hb dX7_passes_37 rfl (lv_at hl 1 rfl) ?_
      refine lv_dup hx hb dX7_passes_38 rfl ?_
      refine va_get (D := g.1) (ci := 9) (v := .int (nI i)) (C := RX7) (T := TX7) (N := 40) hx hb hts (by decide +kernel) hown hK hP 0 rfl rfl 23 (by decide) (hts (.fieldLink RX7 220 "LearnedIndexModel" "at" "I") (by decide +kernel)) (fun _ h9 => h9) rfl dX7_passes_39 ?_
      refine lv_iload_n hx hb dX7_passes_42 rfl (lv_at hl 0 rfl) ?_
      refine lv_if_eq (tgt := 50) hx hb dX7_passes_43 (by decide) (fun c_43 => absurd c_43 (by decide)) (fun c_43 => ?_)
      refine lv_iconst (v := 1) hx hb dX7_passes_46 (by decide) ?_
      refine lv_goto (tgt := 51) hx hb dX7_passes_47 (by decide) ?_
      refine lv_iadd hx hb dX7_passes_51 ?_
      rw [show (nI i) + 1 = nI (i + 1) from nI_1 i]
      refine va_put (D := g.1) (ci := 9) (v := .int (nI (i + 1))) (ty := .int) (C := RX7) (T := TX7) (N := 40) hx hb hts (by decide +kernel) tyX7 tyX7_ok nmX7 hown hK hP hD hS 0 rfl rfl 23 (by decide) (hts (.fieldLink RX7 220 "LearnedIndexModel" "at" "I") (by decide +kernel)) (fun _ h9 => h9) rfl (by decide +kernel) rfl rfl (Nat.le_of_ble_eq_true rfl) dX7_passes_52 (fun H locs hP hD hS => ?_)
      have hP : va_P g.1 vwCl [(h, .inr (9, [.int zth, .int zsz, .int zch, .ref ak, .ref av, .ref bk, .ref bv, .ref br, .ref a_s, .ref a_t, .int zsg, .ref g1, .ref g2, .ref g3, .long zl1, .long zl2, .long zl3, .long zl4, .int zpb, .ref pa, .ref ru, .ref tx, .int (nI nT), .int (nI (i + 1)), .int zrk, .int zrv, .int zre, .int 0, .int zrm, .int zrs, .int zis, .int zss, .int zsc, .ref dk, .ref dv, .ref ek, .ref ev, .ref er, .ref es, .ref et])), (tx, .inl (g.2.1.2.1, 100, .inl tT))] H := hP
      have hD : va_D A [(h, .inr (9, [.int zth, .int zsz, .int zch, .ref ak, .ref av, .ref bk, .ref bv, .ref br, .ref a_s, .ref a_t, .int zsg, .ref g1, .ref g2, .ref g3, .long zl1, .long zl2, .long zl3, .long zl4, .int zpb, .ref pa, .ref ru, .ref tx, .int (nI nT), .int (nI (i + 1)), .int zrk, .int zrv, .int zre, .int 0, .int zrm, .int zrs, .int zis, .int zss, .int zsc, .ref dk, .ref dv, .ref ek, .ref ev, .ref er, .ref es, .ref et])), (tx, .inl (g.2.1.2.1, 100, .inl tT))] := hD
      refine lv_iload_n hx hb dX7_passes_55 rfl (lv_at hl 0 rfl) ?_
      exact kretz hx hb hRt hlk hK hP hD hS rfl dX7_passes_56 (by decide) (⟨by rw [decide_eq_true f1]; rfl, by rw [if_pos f1]⟩)
def rm_X7_passes1 : Room := { frames := 0, cells := 0, slots := 0, locals := 0 }
abbrev p_X7_passes1 (g : kG) (h : Nat) (zth : Int32) (zsz : Int32) (zch : Int32) (zsg : Int32) (zl1 : Int64) (zl2 : Int64) (zl3 : Int64) (zl4 : Int64) (zpb : Int32) (zln : Int32) (zat : Int32) (zrk : Int32) (zrv : Int32) (zre : Int32) (zrm : Int32) (zrs : Int32) (zis : Int32) (zss : Int32) (zsc : Int32) (ak : Nat) (av : Nat) (bk : Nat) (bv : Nat) (br : Nat) (a_s : Nat) (a_t : Nat) (g1 : Nat) (g2 : Nat) (g3 : Nat) (pa : Nat) (ru : Nat) (tx : Nat) (dk : Nat) (dv : Nat) (ek : Nat) (ev : Nat) (er : Nat) (es : Nat) (et : Nat) (x : Int32) : Int32 → va_W → Prop := fun r w1 => r = 0 ∧ w1 = [(h, .inr (9, [.int zth, .int zsz, .int zch, .ref ak, .ref av, .ref bk, .ref bv, .ref br, .ref a_s, .ref a_t, .int zsg, .ref g1, .ref g2, .ref g3, .long zl1, .long zl2, .long zl3, .long zl4, .int zpb, .ref pa, .ref ru, .ref tx, .int zln, .int zat, .int zrk, .int zrv, .int zre, .int 1, .int zrm, .int zrs, .int zis, .int zss, .int zsc, .ref dk, .ref dv, .ref ek, .ref ev, .ref er, .ref es, .ref et]))]
set_option maxHeartbeats 4000000 in
set_option maxRecDepth 100000 in
theorem c_X7_passes1 (l : Launch) (g : kG) (h : Nat) (zth : Int32) (zsz : Int32) (zch : Int32) (zsg : Int32) (zl1 : Int64) (zl2 : Int64) (zl3 : Int64) (zl4 : Int64) (zpb : Int32) (zln : Int32) (zat : Int32) (zrk : Int32) (zrv : Int32) (zre : Int32) (zrm : Int32) (zrs : Int32) (zis : Int32) (zss : Int32) (zsc : Int32) (ak : Nat) (av : Nat) (bk : Nat) (bv : Nat) (br : Nat) (a_s : Nat) (a_t : Nat) (g1 : Nat) (g2 : Nat) (g3 : Nat) (pa : Nat) (ru : Nat) (tx : Nat) (dk : Nat) (dv : Nat) (ek : Nat) (ev : Nat) (er : Nat) (es : Nat) (et : Nat) (x : Int32) : KI l yX7_passes wsX7_passes rm_X7_passes1 g [.ref h, .int x] [(h, .inr (9, [.int zth, .int zsz, .int zch, .ref ak, .ref av, .ref bk, .ref bv, .ref br, .ref a_s, .ref a_t, .int zsg, .ref g1, .ref g2, .ref g3, .long zl1, .long zl2, .long zl3, .long zl4, .int zpb, .ref pa, .ref ru, .ref tx, .int zln, .int zat, .int zrk, .int zrv, .int zre, .int 1, .int zrm, .int zrs, .int zis, .int zss, .int zsc, .ref dk, .ref dv, .ref ek, .ref ev, .ref er, .ref es, .ref et]))] (p_X7_passes1 g h zth zsz zch zsg zl1 zl2 zl3 zl4 zpb zln zat zrk zrv zre zrm zrs zis zss zsc ak av bk bv br a_s a_t g1 g2 g3 pa ru tx dk dv ek ev er es et x) := by
  refine kbodyI (cc := cX7_passes) (n := 3) (k := 1) (own := RX7) (plainFor_of_name (by decide)) rfl rfl rfl rfl ?_
  intro p e s m below meth cd A ls hcx
  obtain ⟨hx, hb, hRt, hml, hts, hown, hlk, hA, hP, hK, hD, hE, hS, hl⟩ := hcx
  have hl : lv_has ls 3 [(0, .ref h), (1, .int x)] := hl
  refine lv_aload_n hx hb dX7_passes_0 rfl (lv_at hl 0 rfl) ?_
  refine va_get (D := g.1) (ci := 9) (v := .int 1) (C := RX7) (T := TX7) (N := 40) hx hb hts (by decide +kernel) hown hK hP 0 rfl rfl 27 (by decide) (hts (.fieldLink RX7 216 "LearnedIndexModel" "isWrong" "Z") (by decide +kernel)) (fun _ h9 => h9) rfl dX7_passes_1 ?_
  refine lv_if_ne (tgt := 35) hx hb dX7_passes_4 (by decide) (fun c_4 => ?_) (fun c_4 => absurd c_4 (by decide))
  refine lv_iconst (v := 0) hx hb dX7_passes_35 (by decide) ?_
  refine lv_istore_n (lv' := [(2, .int 0), (0, .ref h), (1, .int x)]) hx hb dX7_passes_36 rfl hl (by decide) rfl (fun ls hl => ?_)
  refine lv_aload_n hx hb dX7_passes_37 rfl (lv_at hl 1 rfl) ?_
  refine lv_dup hx hb dX7_passes_38 rfl ?_
  refine va_get (D := g.1) (ci := 9) (v := .int zat) (C := RX7) (T := TX7) (N := 40) hx hb hts (by decide +kernel) hown hK hP 0 rfl rfl 23 (by decide) (hts (.fieldLink RX7 220 "LearnedIndexModel" "at" "I") (by decide +kernel)) (fun _ h9 => h9) rfl dX7_passes_39 ?_
  refine lv_iload_n hx hb dX7_passes_42 rfl (lv_at hl 0 rfl) ?_
  refine lv_if_eq (tgt := 50) hx hb dX7_passes_43 (by decide) (fun c_43 => ?_) (fun c_43 => absurd (by decide) c_43)
  refine lv_iconst (v := 0) hx hb dX7_passes_50 (by decide) ?_
  refine lv_iadd hx hb dX7_passes_51 ?_
  rw [show (zat + 0 : Int32) = zat from Int32.add_zero _]
  refine va_put (D := g.1) (ci := 9) (v := .int zat) (ty := .int) (C := RX7) (T := TX7) (N := 40) hx hb hts (by decide +kernel) tyX7 tyX7_ok nmX7 hown hK hP hD hS 0 rfl rfl 23 (by decide) (hts (.fieldLink RX7 220 "LearnedIndexModel" "at" "I") (by decide +kernel)) (fun _ h9 => h9) rfl (by decide +kernel) rfl rfl (Nat.le_of_ble_eq_true rfl) dX7_passes_52 (fun H locs hP hD hS => ?_)
  have hP : va_P g.1 vwCl [(h, .inr (9, [.int zth, .int zsz, .int zch, .ref ak, .ref av, .ref bk, .ref bv, .ref br, .ref a_s, .ref a_t, .int zsg, .ref g1, .ref g2, .ref g3, .long zl1, .long zl2, .long zl3, .long zl4, .int zpb, .ref pa, .ref ru, .ref tx, .int zln, .int zat, .int zrk, .int zrv, .int zre, .int 1, .int zrm, .int zrs, .int zis, .int zss, .int zsc, .ref dk, .ref dv, .ref ek, .ref ev, .ref er, .ref es, .ref et]))] H := hP
  have hD : va_D A [(h, .inr (9, [.int zth, .int zsz, .int zch, .ref ak, .ref av, .ref bk, .ref bv, .ref br, .ref a_s, .ref a_t, .int zsg, .ref g1, .ref g2, .ref g3, .long zl1, .long zl2, .long zl3, .long zl4, .int zpb, .ref pa, .ref ru, .ref tx, .int zln, .int zat, .int zrk, .int zrv, .int zre, .int 1, .int zrm, .int zrs, .int zis, .int zss, .int zsc, .ref dk, .ref dv, .ref ek, .ref ev, .ref er, .ref es, .ref et]))] := hD
  refine lv_iload_n hx hb dX7_passes_55 rfl (lv_at hl 0 rfl) ?_
  exact kretz hx hb hRt hlk hK hP hD hS rfl dX7_passes_56 (by decide) (⟨rfl, rfl⟩)
set_option maxRecDepth 20000 in
theorem ggX7_readNumber_X7_seesDigit : GoodIn wsX7_readNumber wsX7_seesDigit := goodIn_ca (goodIn_r _ [8, 1, 3, 9, 2, 10, 11, 12, 13, 14, 15, 16, 17, 18, 19, 20, 21, 22, 23, 24, 25, 26, 27, 28, 29, 30, 31, 32, 33, 34, 35, 36, 37, 38, 39, 40, 41, 42, 43, 44, 45, 46, 47, 48, 49] (by decide +kernel) (by decide +kernel)) (goodIn_sub (fun _ h => List.mem_cons_of_mem _ (List.mem_append_right _ h)) (by decide +kernel))
set_option maxRecDepth 20000 in
theorem gX7_readNumber_X7_seesDigit : GoodIn wsX7_readNumber (wsV RX7 223 RX7 yX7_seesDigit wsX7_seesDigit) := goodIn_app (goodIn_of _ (by decide +kernel)) ggX7_readNumber_X7_seesDigit
theorem dX7_readNumber_0 : decode cX7_readNumber 0 = .ok (.aload_n 0, 1) := by decide +kernel
theorem dX7_readNumber_1 : decode cX7_readNumber 1 = .ok (.dup, 1) := by decide +kernel
theorem dX7_readNumber_2 : decode cX7_readNumber 2 = .ok (.getfield 216, 3) := by decide +kernel
theorem dX7_readNumber_5 : decode cX7_readNumber 5 = .ok (.aload_n 0, 1) := by decide +kernel
theorem dX7_readNumber_6 : decode cX7_readNumber 6 = .ok (.invokevirtual 223, 3) := by decide +kernel
theorem dX7_readNumber_9 : decode cX7_readNumber 9 = .ok (.ifCond .ne 7, 3) := by decide +kernel
theorem dX7_readNumber_12 : decode cX7_readNumber 12 = .ok (.iconst 1, 1) := by decide +kernel
theorem dX7_readNumber_13 : decode cX7_readNumber 13 = .ok (.goto 4, 3) := by decide +kernel
theorem dX7_readNumber_16 : decode cX7_readNumber 16 = .ok (.iconst 0, 1) := by decide +kernel
theorem dX7_readNumber_17 : decode cX7_readNumber 17 = .ok (.ior, 1) := by decide +kernel
theorem dX7_readNumber_18 : decode cX7_readNumber 18 = .ok (.putfield 216, 3) := by decide +kernel
theorem dX7_readNumber_21 : decode cX7_readNumber 21 = .ok (.iconst 0, 1) := by decide +kernel
theorem dX7_readNumber_22 : decode cX7_readNumber 22 = .ok (.istore_n 1, 1) := by decide +kernel
theorem dX7_readNumber_23 : decode cX7_readNumber 23 = .ok (.iconst 0, 1) := by decide +kernel
theorem dX7_readNumber_24 : decode cX7_readNumber 24 = .ok (.istore_n 2, 1) := by decide +kernel
theorem dX7_readNumber_25 : decode cX7_readNumber 25 = .ok (.iload_n 2, 1) := by decide +kernel
theorem dX7_readNumber_26 : decode cX7_readNumber 26 = .ok (.iconst 4, 1) := by decide +kernel
theorem dX7_readNumber_27 : decode cX7_readNumber 27 = .ok (.if_icmp .ge 44, 3) := by decide +kernel
theorem dX7_readNumber_30 : decode cX7_readNumber 30 = .ok (.aload_n 0, 1) := by decide +kernel
theorem dX7_readNumber_31 : decode cX7_readNumber 31 = .ok (.invokevirtual 223, 3) := by decide +kernel
theorem dX7_readNumber_34 : decode cX7_readNumber 34 = .ok (.ifCond .eq 37, 3) := by decide +kernel
theorem dX7_readNumber_37 : decode cX7_readNumber 37 = .ok (.bipush 10, 2) := by decide +kernel
theorem dX7_readNumber_39 : decode cX7_readNumber 39 = .ok (.iload_n 1, 1) := by decide +kernel
theorem dX7_readNumber_40 : decode cX7_readNumber 40 = .ok (.imul, 1) := by decide +kernel
theorem dX7_readNumber_41 : decode cX7_readNumber 41 = .ok (.aload_n 0, 1) := by decide +kernel
theorem dX7_readNumber_42 : decode cX7_readNumber 42 = .ok (.getfield 46, 3) := by decide +kernel
theorem dX7_readNumber_45 : decode cX7_readNumber 45 = .ok (.aload_n 0, 1) := by decide +kernel
theorem dX7_readNumber_46 : decode cX7_readNumber 46 = .ok (.getfield 220, 3) := by decide +kernel
theorem dX7_readNumber_49 : decode cX7_readNumber 49 = .ok (.caload, 1) := by decide +kernel
theorem dX7_readNumber_50 : decode cX7_readNumber 50 = .ok (.iadd, 1) := by decide +kernel
theorem dX7_readNumber_51 : decode cX7_readNumber 51 = .ok (.bipush 48, 2) := by decide +kernel
theorem dX7_readNumber_53 : decode cX7_readNumber 53 = .ok (.isub, 1) := by decide +kernel
theorem dX7_readNumber_54 : decode cX7_readNumber 54 = .ok (.istore_n 1, 1) := by decide +kernel
theorem dX7_readNumber_55 : decode cX7_readNumber 55 = .ok (.aload_n 0, 1) := by decide +kernel
theorem dX7_readNumber_56 : decode cX7_readNumber 56 = .ok (.dup, 1) := by decide +kernel
theorem dX7_readNumber_57 : decode cX7_readNumber 57 = .ok (.getfield 220, 3) := by decide +kernel
theorem dX7_readNumber_60 : decode cX7_readNumber 60 = .ok (.iconst 1, 1) := by decide +kernel
theorem dX7_readNumber_61 : decode cX7_readNumber 61 = .ok (.iadd, 1) := by decide +kernel
theorem dX7_readNumber_62 : decode cX7_readNumber 62 = .ok (.putfield 220, 3) := by decide +kernel
theorem dX7_readNumber_65 : decode cX7_readNumber 65 = .ok (.iinc 2 1, 3) := by decide +kernel
theorem dX7_readNumber_68 : decode cX7_readNumber 68 = .ok (.goto (-43), 3) := by decide +kernel
theorem dX7_readNumber_71 : decode cX7_readNumber 71 = .ok (.iload_n 1, 1) := by decide +kernel
theorem dX7_readNumber_72 : decode cX7_readNumber 72 = .ok (.ireturn, 1) := by decide +kernel
def rm_X7_readNumber : Room := { frames := 1, cells := 0, slots := 0, locals := 20 }
abbrev p_X7_readNumber (g : kG) (h : Nat) (zth : Int32) (zsz : Int32) (zch : Int32) (zsg : Int32) (zl1 : Int64) (zl2 : Int64) (zl3 : Int64) (zl4 : Int64) (zpb : Int32) (zrk : Int32) (zrv : Int32) (zre : Int32) (zrm : Int32) (zrs : Int32) (zis : Int32) (zss : Int32) (zsc : Int32) (ak : Nat) (av : Nat) (bk : Nat) (bv : Nat) (br : Nat) (a_s : Nat) (a_t : Nat) (g1 : Nat) (g2 : Nat) (g3 : Nat) (pa : Nat) (ru : Nat) (tx : Nat) (dk : Nat) (dv : Nat) (ek : Nat) (ev : Nat) (er : Nat) (es : Nat) (et : Nat) (nT : Nat) (i : Nat) (tT : Nat → Int32) : Int32 → va_W → Prop := fun r w1 => r = (rn tT nT 4 i 0).2 ∧ w1 = [(h, .inr (9, [.int zth, .int zsz, .int zch, .ref ak, .ref av, .ref bk, .ref bv, .ref br, .ref a_s, .ref a_t, .int zsg, .ref g1, .ref g2, .ref g3, .long zl1, .long zl2, .long zl3, .long zl4, .int zpb, .ref pa, .ref ru, .ref tx, .int (nI nT), .int (nI (rn tT nT 4 i 0).1), .int zrk, .int zrv, .int zre, .int (if (rn tT nT 4 i 0).1 = i then 1 else 0), .int zrm, .int zrs, .int zis, .int zss, .int zsc, .ref dk, .ref dv, .ref ek, .ref ev, .ref er, .ref es, .ref et])), (tx, .inl (g.2.1.2.1, 100, .inl tT))]
set_option maxHeartbeats 4000000 in
set_option maxRecDepth 100000 in
theorem c_X7_readNumber (l : Launch) (g : kG) (h : Nat) (zth : Int32) (zsz : Int32) (zch : Int32) (zsg : Int32) (zl1 : Int64) (zl2 : Int64) (zl3 : Int64) (zl4 : Int64) (zpb : Int32) (zrk : Int32) (zrv : Int32) (zre : Int32) (zrm : Int32) (zrs : Int32) (zis : Int32) (zss : Int32) (zsc : Int32) (ak : Nat) (av : Nat) (bk : Nat) (bv : Nat) (br : Nat) (a_s : Nat) (a_t : Nat) (g1 : Nat) (g2 : Nat) (g3 : Nat) (pa : Nat) (ru : Nat) (tx : Nat) (dk : Nat) (dv : Nat) (ek : Nat) (ev : Nat) (er : Nat) (es : Nat) (et : Nat) (nT : Nat) (i : Nat) (tT : Nat → Int32) (hn : nT ≤ 100) (hi : i ≤ nT) : KI l yX7_readNumber wsX7_readNumber rm_X7_readNumber g [.ref h] [(h, .inr (9, [.int zth, .int zsz, .int zch, .ref ak, .ref av, .ref bk, .ref bv, .ref br, .ref a_s, .ref a_t, .int zsg, .ref g1, .ref g2, .ref g3, .long zl1, .long zl2, .long zl3, .long zl4, .int zpb, .ref pa, .ref ru, .ref tx, .int (nI nT), .int (nI i), .int zrk, .int zrv, .int zre, .int 0, .int zrm, .int zrs, .int zis, .int zss, .int zsc, .ref dk, .ref dv, .ref ek, .ref ev, .ref er, .ref es, .ref et])), (tx, .inl (g.2.1.2.1, 100, .inl tT))] (p_X7_readNumber g h zth zsz zch zsg zl1 zl2 zl3 zl4 zpb zrk zrv zre zrm zrs zis zss zsc ak av bk bv br a_s a_t g1 g2 g3 pa ru tx dk dv ek ev er es et nT i tT) := by
  refine kbodyI (cc := cX7_readNumber) (n := 3) (k := 2) (own := RX7) (plainFor_of_name (by decide)) rfl rfl rfl rfl ?_
  intro p e s m below meth cd A ls hcx
  obtain ⟨hx, hb, hRt, hml, hts, hown, hlk, hA, hP, hK, hD, hE, hS, hl⟩ := hcx
  have hl : lv_has ls 3 [(0, .ref h)] := hl
  refine lv_aload_n hx hb dX7_readNumber_0 rfl (lv_at hl 0 rfl) ?_
  refine lv_dup hx hb dX7_readNumber_1 rfl ?_
  refine va_get (D := g.1) (ci := 9) (v := .int 0) (C := RX7) (T := TX7) (N := 40) hx hb hts (by decide +kernel) hown hK hP 0 rfl rfl 27 (by decide) (hts (.fieldLink RX7 216 "LearnedIndexModel" "isWrong" "Z") (by decide +kernel)) (fun _ h9 => h9) rfl dX7_readNumber_2 ?_
  refine lv_aload_n hx hb dX7_readNumber_5 rfl (lv_at hl 0 rfl) ?_
  refine kcalli (wc := [(h, .inr (9, [.int zth, .int zsz, .int zch, .ref ak, .ref av, .ref bk, .ref bv, .ref br, .ref a_s, .ref a_t, .int zsg, .ref g1, .ref g2, .ref g3, .long zl1, .long zl2, .long zl3, .long zl4, .int zpb, .ref pa, .ref ru, .ref tx, .int (nI nT), .int (nI i), .int zrk, .int zrv, .int zre, .int 0, .int zrm, .int zrs, .int zis, .int zss, .int zsc, .ref dk, .ref dv, .ref ek, .ref ev, .ref er, .ref es, .ref et])), (tx, .inl (g.2.1.2.1, 100, .inl tT))]) [0, 1] (va_runV (C := RX7) (As := []) (rest := [.int 0, .ref h]) ⟨hx, hb, hml, hown, hts⟩ ((c_X7_seesDigit0 l g h zth zsz zch zsg zl1 zl2 zl3 zl4 zpb zrk zrv zre zrm zrs zis zss zsc ak av bk bv br a_s a_t g1 g2 g3 pa ru tx dk dv ek ev er es et nT i tT hn hi) _) (cwV 0 hts gX7_readNumber_X7_seesDigit rfl rfl rfl (by decide +kernel) ⟨Nat.le_of_ble_eq_true rfl, Nat.le_of_ble_eq_true rfl⟩) (kpreV (wc := [(h, .inr (9, [.int zth, .int zsz, .int zch, .ref ak, .ref av, .ref bk, .ref bv, .ref br, .ref a_s, .ref a_t, .int zsg, .ref g1, .ref g2, .ref g3, .long zl1, .long zl2, .long zl3, .long zl4, .int zpb, .ref pa, .ref ru, .ref tx, .int (nI nT), .int (nI i), .int zrk, .int zrv, .int zre, .int 0, .int zrm, .int zrs, .int zis, .int zss, .int zsc, .ref dk, .ref dv, .ref ek, .ref ev, .ref er, .ref es, .ref et])), (tx, .inl (g.2.1.2.1, 100, .inl tT))]) (ci := 9) hK hP hD hS hA hE [0, 1] rfl rfl rfl rfl) rfl rfl hl.1 rfl (lv_room (Nat.le_of_ble_eq_true rfl)) dX7_readNumber_6 ⟨Nat.zero_le _, Nat.zero_le _⟩) hP hD hS hA rfl (fun r_1 w_1 H locs hp hP hD hS => ?_)
  obtain ⟨rfl, rfl⟩ := hp
  have hP : va_P g.1 vwCl [(h, .inr (9, [.int zth, .int zsz, .int zch, .ref ak, .ref av, .ref bk, .ref bv, .ref br, .ref a_s, .ref a_t, .int zsg, .ref g1, .ref g2, .ref g3, .long zl1, .long zl2, .long zl3, .long zl4, .int zpb, .ref pa, .ref ru, .ref tx, .int (nI nT), .int (nI i), .int zrk, .int zrv, .int zre, .int 0, .int zrm, .int zrs, .int zis, .int zss, .int zsc, .ref dk, .ref dv, .ref ek, .ref ev, .ref er, .ref es, .ref et])), (tx, .inl (g.2.1.2.1, 100, .inl tT))] H := hP
  have hD : va_D A [(h, .inr (9, [.int zth, .int zsz, .int zch, .ref ak, .ref av, .ref bk, .ref bv, .ref br, .ref a_s, .ref a_t, .int zsg, .ref g1, .ref g2, .ref g3, .long zl1, .long zl2, .long zl3, .long zl4, .int zpb, .ref pa, .ref ru, .ref tx, .int (nI nT), .int (nI i), .int zrk, .int zrv, .int zre, .int 0, .int zrm, .int zrs, .int zis, .int zss, .int zsc, .ref dk, .ref dv, .ref ek, .ref ev, .ref er, .ref es, .ref et])), (tx, .inl (g.2.1.2.1, 100, .inl tT))] := hD
  refine lv_if_ne (tgt := 16) hx hb dX7_readNumber_9 (by decide) (fun c_9 => ?_) (fun c_9 => ?_)
  · skip
    refine lv_iconst (v := 0) hx hb dX7_readNumber_16 (by decide) ?_
    refine lv_ior hx hb dX7_readNumber_17 ?_
    rw [show (0 ||| 0 : Int32) = 0 from by decide]
    refine va_put (D := g.1) (ci := 9) (v := .int 0) (ty := .boolean) (C := RX7) (T := TX7) (N := 40) hx hb hts (by decide +kernel) tyX7 tyX7_ok nmX7 hown hK hP hD hS 0 rfl rfl 27 (by decide) (hts (.fieldLink RX7 216 "LearnedIndexModel" "isWrong" "Z") (by decide +kernel)) (fun _ h9 => h9) rfl (by decide +kernel) rfl rfl (Nat.le_of_ble_eq_true rfl) dX7_readNumber_18 (fun H locs hP hD hS => ?_)
    have hP : va_P g.1 vwCl [(h, .inr (9, [.int zth, .int zsz, .int zch, .ref ak, .ref av, .ref bk, .ref bv, .ref br, .ref a_s, .ref a_t, .int zsg, .ref g1, .ref g2, .ref g3, .long zl1, .long zl2, .long zl3, .long zl4, .int zpb, .ref pa, .ref ru, .ref tx, .int (nI nT), .int (nI i), .int zrk, .int zrv, .int zre, .int 0, .int zrm, .int zrs, .int zis, .int zss, .int zsc, .ref dk, .ref dv, .ref ek, .ref ev, .ref er, .ref es, .ref et])), (tx, .inl (g.2.1.2.1, 100, .inl tT))] H := hP
    have hD : va_D A [(h, .inr (9, [.int zth, .int zsz, .int zch, .ref ak, .ref av, .ref bk, .ref bv, .ref br, .ref a_s, .ref a_t, .int zsg, .ref g1, .ref g2, .ref g3, .long zl1, .long zl2, .long zl3, .long zl4, .int zpb, .ref pa, .ref ru, .ref tx, .int (nI nT), .int (nI i), .int zrk, .int zrv, .int zre, .int 0, .int zrm, .int zrs, .int zis, .int zss, .int zsc, .ref dk, .ref dv, .ref ek, .ref ev, .ref er, .ref es, .ref et])), (tx, .inl (g.2.1.2.1, 100, .inl tT))] := hD
    refine lv_iconst (v := 0) hx hb dX7_readNumber_21 (by decide) ?_
    refine lv_istore_n (lv' := [(1, .int 0), (0, .ref h)]) hx hb dX7_readNumber_22 rfl hl (by decide) rfl (fun ls hl => ?_)
    refine lv_iconst (v := 0) hx hb dX7_readNumber_23 (by decide) ?_
    refine lv_istore_n (lv' := [(2, .int 0), (1, .int 0), (0, .ref h)]) hx hb dX7_readNumber_24 rfl hl (by decide) rfl (fun ls hl => ?_)
    have L25 : ∀ (n9 : Nat) (dgt : Nat) (j : Nat) (x : Int32) (H : Heap) (locs : List Loc) (ls : Array Slot), (dgt ≤ 4 ∧ j = i + dgt) → (i ≤ j ∧ j ≤ nT) → (rn tT nT (4 - dgt) j x = rn tT nT 4 i 0) → 4 - dgt < n9 → va_P g.1 vwCl [(h, .inr (9, [.int zth, .int zsz, .int zch, .ref ak, .ref av, .ref bk, .ref bv, .ref br, .ref a_s, .ref a_t, .int zsg, .ref g1, .ref g2, .ref g3, .long zl1, .long zl2, .long zl3, .long zl4, .int zpb, .ref pa, .ref ru, .ref tx, .int (nI nT), .int (nI j), .int zrk, .int zrv, .int zre, .int 0, .int zrm, .int zrs, .int zis, .int zss, .int zsc, .ref dk, .ref dv, .ref ek, .ref ev, .ref er, .ref es, .ref et])), (tx, .inl (g.2.1.2.1, 100, .inl tT))] H → va_D A [(h, .inr (9, [.int zth, .int zsz, .int zch, .ref ak, .ref av, .ref bk, .ref bv, .ref br, .ref a_s, .ref a_t, .int zsg, .ref g1, .ref g2, .ref g3, .long zl1, .long zl2, .long zl3, .long zl4, .int zpb, .ref pa, .ref ru, .ref tx, .int (nI nT), .int (nI j), .int zrk, .int zrv, .int zre, .int 0, .int zrm, .int zrs, .int zis, .int zss, .int zsc, .ref dk, .ref dv, .ref ek, .ref ev, .ref er, .ref es, .ref et])), (tx, .inl (g.2.1.2.1, 100, .inl tT))] → va_S A s.heap H locs → lv_has ls 3 [(2, .int (nI dgt)), (1, .int x), (0, .ref h)] → W p l e rm_X7_readNumber s m ([.ref h] : List Value).toArray below meth cd H locs 0 0 (kQi g 2 A (p_X7_readNumber g h zth zsz zch zsg zl1 zl2 zl3 zl4 zpb zrk zrv zre zrm zrs zis zss zsc ak av bk bv br a_s a_t g1 g2 g3 pa ru tx dk dv ek ev er es et nT i tT) below ([.ref h] : List Value).toArray s) (F0 m 25 ls []) := by
      intro n9
      induction n9 with
      | zero => intro dgt j x H locs ls hd hj hr4 h9; exact absurd h9 (Nat.not_lt_zero _)
      | succ n9 ih25 =>
        intro dgt j x H locs ls hd hj hr4 hn25 hP hD hS hl
        refine lv_iload_n hx hb dX7_readNumber_25 rfl (lv_at hl 0 rfl) ?_
        refine lv_iconst (v := 4) hx hb dX7_readNumber_26 (by decide) ?_
        refine lv_icmp_ge (tgt := 71) hx hb dX7_readNumber_27 (by decide) (fun c_27 => ?_) (fun c_27 => ?_)
        · skip
          have hd4 : 4 ≤ dgt := by rw [show (4 : Int32) = nI 4 from rfl, nI_leI (by decide) (by omega)] at c_27; exact c_27
          have hres : rn tT nT 4 i 0 = (j, x) := by rw [← hr4, show 4 - dgt = 0 by omega]; rfl
          have hji : ¬ j = i := by omega
          refine lv_iload_n hx hb dX7_readNumber_71 rfl (lv_at hl 1 rfl) ?_
          exact kreti hx hb hRt hlk hK hP hD hS rfl dX7_readNumber_72 (⟨by rw [hres], by rw [hres, if_neg hji]⟩)
        · skip
          have hd4 : dgt < 4 := by rw [show (4 : Int32) = nI 4 from rfl, nI_leI (by decide) (by omega)] at c_27; omega
          rw [show 4 - dgt = (3 - dgt) + 1 by omega] at hr4
          rw [rn] at hr4
          refine lv_aload_n hx hb dX7_readNumber_30 rfl (lv_at hl 2 rfl) ?_
          refine kcalli (wc := [(h, .inr (9, [.int zth, .int zsz, .int zch, .ref ak, .ref av, .ref bk, .ref bv, .ref br, .ref a_s, .ref a_t, .int zsg, .ref g1, .ref g2, .ref g3, .long zl1, .long zl2, .long zl3, .long zl4, .int zpb, .ref pa, .ref ru, .ref tx, .int (nI nT), .int (nI j), .int zrk, .int zrv, .int zre, .int 0, .int zrm, .int zrs, .int zis, .int zss, .int zsc, .ref dk, .ref dv, .ref ek, .ref ev, .ref er, .ref es, .ref et])), (tx, .inl (g.2.1.2.1, 100, .inl tT))]) [0, 1] (va_runV (C := RX7) (As := []) (rest := []) ⟨hx, hb, hml, hown, hts⟩ ((c_X7_seesDigit0 l g h zth zsz zch zsg zl1 zl2 zl3 zl4 zpb zrk zrv zre zrm zrs zis zss zsc ak av bk bv br a_s a_t g1 g2 g3 pa ru tx dk dv ek ev er es et nT j tT hn hj.2) _) (cwV 0 hts gX7_readNumber_X7_seesDigit rfl rfl rfl (by decide +kernel) ⟨Nat.le_of_ble_eq_true rfl, Nat.le_of_ble_eq_true rfl⟩) (kpreV (wc := [(h, .inr (9, [.int zth, .int zsz, .int zch, .ref ak, .ref av, .ref bk, .ref bv, .ref br, .ref a_s, .ref a_t, .int zsg, .ref g1, .ref g2, .ref g3, .long zl1, .long zl2, .long zl3, .long zl4, .int zpb, .ref pa, .ref ru, .ref tx, .int (nI nT), .int (nI j), .int zrk, .int zrv, .int zre, .int 0, .int zrm, .int zrs, .int zis, .int zss, .int zsc, .ref dk, .ref dv, .ref ek, .ref ev, .ref er, .ref es, .ref et])), (tx, .inl (g.2.1.2.1, 100, .inl tT))]) (ci := 9) hK hP hD hS hA hE [0, 1] rfl rfl rfl rfl) rfl rfl hl.1 rfl (lv_room (Nat.le_of_ble_eq_true rfl)) dX7_readNumber_31 ⟨Nat.zero_le _, Nat.zero_le _⟩) hP hD hS hA rfl (fun r_2 w_2 H locs hp hP hD hS => ?_)
          obtain ⟨rfl, rfl⟩ := hp
          have hP : va_P g.1 vwCl [(h, .inr (9, [.int zth, .int zsz, .int zch, .ref ak, .ref av, .ref bk, .ref bv, .ref br, .ref a_s, .ref a_t, .int zsg, .ref g1, .ref g2, .ref g3, .long zl1, .long zl2, .long zl3, .long zl4, .int zpb, .ref pa, .ref ru, .ref tx, .int (nI nT), .int (nI j), .int zrk, .int zrv, .int zre, .int 0, .int zrm, .int zrs, .int zis, .int zss, .int zsc, .ref dk, .ref dv, .ref ek, .ref ev, .ref er, .ref es, .ref et])), (tx, .inl (g.2.1.2.1, 100, .inl tT))] H := hP
          have hD : va_D A [(h, .inr (9, [.int zth, .int zsz, .int zch, .ref ak, .ref av, .ref bk, .ref bv, .ref br, .ref a_s, .ref a_t, .int zsg, .ref g1, .ref g2, .ref g3, .long zl1, .long zl2, .long zl3, .long zl4, .int zpb, .ref pa, .ref ru, .ref tx, .int (nI nT), .int (nI j), .int zrk, .int zrv, .int zre, .int 0, .int zrm, .int zrs, .int zis, .int zss, .int zsc, .ref dk, .ref dv, .ref ek, .ref ev, .ref er, .ref es, .ref et])), (tx, .inl (g.2.1.2.1, 100, .inl tT))] := hD
          refine lv_if_eq (tgt := 71) hx hb dX7_readNumber_34 (by decide) (fun c_34 => ?_) (fun c_34 => ?_)
          · skip
            rw [if_pos c_34] at hr4
            have hres : rn tT nT 4 i 0 = (j, x) := hr4.symm
            have hji : ¬ j = i := fun z => c_9 (by rw [← z]; exact c_34)
            refine lv_iload_n hx hb dX7_readNumber_71 rfl (lv_at hl 1 rfl) ?_
            exact kreti hx hb hRt hlk hK hP hD hS rfl dX7_readNumber_72 (⟨by rw [hres], by rw [hres, if_neg hji]⟩)
          · skip
            rw [if_neg c_34] at hr4
            have hjn := ch_in c_34
            have hcj : ch tT nT j = tT j := by rw [ch, if_pos hjn]
            refine lv_bipush (v := 10) hx hb dX7_readNumber_37 (by decide) ?_
            refine lv_iload_n hx hb dX7_readNumber_39 rfl (lv_at hl 1 rfl) ?_
            refine lv_imul hx hb dX7_readNumber_40 ?_
            refine lv_aload_n hx hb dX7_readNumber_41 rfl (lv_at hl 2 rfl) ?_
            refine va_get (D := g.1) (ci := 9) (v := .ref tx) (C := RX7) (T := TX7) (N := 40) hx hb hts (by decide +kernel) hown hK hP 0 rfl rfl 21 (by decide) (hts (.fieldLink RX7 46 "LearnedIndexModel" "text" "[C") (by decide +kernel)) (fun _ h9 => h9) rfl dX7_readNumber_42 ?_
            refine lv_aload_n hx hb dX7_readNumber_45 rfl (lv_at hl 2 rfl) ?_
            refine va_get (D := g.1) (ci := 9) (v := .int (nI j)) (C := RX7) (T := TX7) (N := 40) hx hb hts (by decide +kernel) hown hK hP 0 rfl rfl 23 (by decide) (hts (.fieldLink RX7 220 "LearnedIndexModel" "at" "I") (by decide +kernel)) (fun _ h9 => h9) rfl dX7_readNumber_46 ?_
            refine va_cald hx hb hK hP 1 1 rfl rfl (vp_in_nI (show j < 100 by omega) (by omega)) dX7_readNumber_49 ?_
            rw [show (nI j : Int32).toNatClampNeg = j from nI_clamp (n := j) (by omega)]
            refine lv_iadd hx hb dX7_readNumber_50 ?_
            refine lv_bipush (v := 48) hx hb dX7_readNumber_51 (by decide) ?_
            refine lv_isub hx hb dX7_readNumber_53 ?_
            rw [show (((10 * x) + (tT j)) - 48 : Int32) = x * 10 + ch tT nT j - 48 from by rw [hcj, Int32.mul_comm]]
            refine lv_istore_n (lv' := [(1, .int (x * 10 + ch tT nT j - 48)), (2, .int (nI dgt)), (0, .ref h)]) hx hb dX7_readNumber_54 rfl hl (by decide) rfl (fun ls hl => ?_)
            refine lv_aload_n hx hb dX7_readNumber_55 rfl (lv_at hl 2 rfl) ?_
            refine lv_dup hx hb dX7_readNumber_56 rfl ?_
            refine va_get (D := g.1) (ci := 9) (v := .int (nI j)) (C := RX7) (T := TX7) (N := 40) hx hb hts (by decide +kernel) hown hK hP 0 rfl rfl 23 (by decide) (hts (.fieldLink RX7 220 "LearnedIndexModel" "at" "I") (by decide +kernel)) (fun _ h9 => h9) rfl dX7_readNumber_57 ?_
            refine lv_iconst (v := 1) hx hb dX7_readNumber_60 (by decide) ?_
            refine lv_iadd hx hb dX7_readNumber_61 ?_
            rw [show (nI j) + 1 = nI (j + 1) from nI_1 j]
            refine va_put (D := g.1) (ci := 9) (v := .int (nI (j + 1))) (ty := .int) (C := RX7) (T := TX7) (N := 40) hx hb hts (by decide +kernel) tyX7 tyX7_ok nmX7 hown hK hP hD hS 0 rfl rfl 23 (by decide) (hts (.fieldLink RX7 220 "LearnedIndexModel" "at" "I") (by decide +kernel)) (fun _ h9 => h9) rfl (by decide +kernel) rfl rfl (Nat.le_of_ble_eq_true rfl) dX7_readNumber_62 (fun H locs hP hD hS => ?_)
            have hP : va_P g.1 vwCl [(h, .inr (9, [.int zth, .int zsz, .int zch, .ref ak, .ref av, .ref bk, .ref bv, .ref br, .ref a_s, .ref a_t, .int zsg, .ref g1, .ref g2, .ref g3, .long zl1, .long zl2, .long zl3, .long zl4, .int zpb, .ref pa, .ref ru, .ref tx, .int (nI nT), .int (nI (j + 1)), .int zrk, .int zrv, .int zre, .int 0, .int zrm, .int zrs, .int zis, .int zss, .int zsc, .ref dk, .ref dv, .ref ek, .ref ev, .ref er, .ref es, .ref et])), (tx, .inl (g.2.1.2.1, 100, .inl tT))] H := hP
            have hD : va_D A [(h, .inr (9, [.int zth, .int zsz, .int zch, .ref ak, .ref av, .ref bk, .ref bv, .ref br, .ref a_s, .ref a_t, .int zsg, .ref g1, .ref g2, .ref g3, .long zl1, .long zl2, .long zl3, .long zl4, .int zpb, .ref pa, .ref ru, .ref tx, .int (nI nT), .int (nI (j + 1)), .int zrk, .int zrv, .int zre, .int 0, .int zrm, .int zrs, .int zis, .int zss, .int zsc, .ref dk, .ref dv, .ref ek, .ref ev, .ref er, .ref es, .ref et])), (tx, .inl (g.2.1.2.1, 100, .inl tT))] := hD
            refine lv_iinc (v := nI (dgt + 1)) (lv' := [(2, .int (nI (dgt + 1))), (1, .int (x * 10 + ch tT nT j - 48)), (0, .ref h)]) hx hb dX7_readNumber_65 hl (k := 1) rfl (nI_1 dgt) (by decide) rfl (fun ls hl => ?_)
            refine lv_goto (tgt := 25) hx hb dX7_readNumber_68 (by decide) ?_
            exact ih25 (dgt + 1) (j + 1) (x * 10 + ch tT nT j - 48) _ _ ls (⟨by omega, by omega⟩) (⟨by omega, by omega⟩) (by rw [show 4 - (dgt + 1) = 3 - dgt by omega]; exact hr4) (by omega) hP hD hS (lv_sub hl [0, 1, 2] rfl)
    exact L25 _ 0 i 0 _ _ ls (⟨by omega, rfl⟩) (⟨Nat.le_refl _, hi⟩) rfl (Nat.lt_succ_self _) hP hD hS (lv_sub hl [0, 1, 2] rfl)
  · skip
    have hres : rn tT nT 4 i 0 = (i, 0) := by rw [rn, if_pos c_9]
    refine lv_iconst (v := 1) hx hb dX7_readNumber_12 (by decide) ?_
    refine lv_goto (tgt := 17) hx hb dX7_readNumber_13 (by decide) ?_
    refine lv_ior hx hb dX7_readNumber_17 ?_
    rw [show (0 ||| 1 : Int32) = 1 from by decide]
    refine va_put (D := g.1) (ci := 9) (v := .int 1) (ty := .boolean) (C := RX7) (T := TX7) (N := 40) hx hb hts (by decide +kernel) tyX7 tyX7_ok nmX7 hown hK hP hD hS 0 rfl rfl 27 (by decide) (hts (.fieldLink RX7 216 "LearnedIndexModel" "isWrong" "Z") (by decide +kernel)) (fun _ h9 => h9) rfl (by decide +kernel) rfl rfl (Nat.le_of_ble_eq_true rfl) dX7_readNumber_18 (fun H locs hP hD hS => ?_)
    have hP : va_P g.1 vwCl [(h, .inr (9, [.int zth, .int zsz, .int zch, .ref ak, .ref av, .ref bk, .ref bv, .ref br, .ref a_s, .ref a_t, .int zsg, .ref g1, .ref g2, .ref g3, .long zl1, .long zl2, .long zl3, .long zl4, .int zpb, .ref pa, .ref ru, .ref tx, .int (nI nT), .int (nI i), .int zrk, .int zrv, .int zre, .int 1, .int zrm, .int zrs, .int zis, .int zss, .int zsc, .ref dk, .ref dv, .ref ek, .ref ev, .ref er, .ref es, .ref et])), (tx, .inl (g.2.1.2.1, 100, .inl tT))] H := hP
    have hD : va_D A [(h, .inr (9, [.int zth, .int zsz, .int zch, .ref ak, .ref av, .ref bk, .ref bv, .ref br, .ref a_s, .ref a_t, .int zsg, .ref g1, .ref g2, .ref g3, .long zl1, .long zl2, .long zl3, .long zl4, .int zpb, .ref pa, .ref ru, .ref tx, .int (nI nT), .int (nI i), .int zrk, .int zrv, .int zre, .int 1, .int zrm, .int zrs, .int zis, .int zss, .int zsc, .ref dk, .ref dv, .ref ek, .ref ev, .ref er, .ref es, .ref et])), (tx, .inl (g.2.1.2.1, 100, .inl tT))] := hD
    refine lv_iconst (v := 0) hx hb dX7_readNumber_21 (by decide) ?_
    refine lv_istore_n (lv' := [(1, .int 0), (0, .ref h)]) hx hb dX7_readNumber_22 rfl hl (by decide) rfl (fun ls hl => ?_)
    refine lv_iconst (v := 0) hx hb dX7_readNumber_23 (by decide) ?_
    refine lv_istore_n (lv' := [(2, .int 0), (1, .int 0), (0, .ref h)]) hx hb dX7_readNumber_24 rfl hl (by decide) rfl (fun ls hl => ?_)
    refine lv_iload_n hx hb dX7_readNumber_25 rfl (lv_at hl 0 rfl) ?_
    refine lv_iconst (v := 4) hx hb dX7_readNumber_26 (by decide) ?_
    refine lv_icmp_ge (tgt := 71) hx hb dX7_readNumber_27 (by decide) (fun c_27 => absurd c_27 (by decide)) (fun c_27 => ?_)
    refine lv_aload_n hx hb dX7_readNumber_30 rfl (lv_at hl 2 rfl) ?_
    refine kcalli (wc := [(h, .inr (9, [.int zth, .int zsz, .int zch, .ref ak, .ref av, .ref bk, .ref bv, .ref br, .ref a_s, .ref a_t, .int zsg, .ref g1, .ref g2, .ref g3, .long zl1, .long zl2, .long zl3, .long zl4, .int zpb, .ref pa, .ref ru, .ref tx, .int (nI nT), .int (nI i), .int zrk, .int zrv, .int zre, .int 1, .int zrm, .int zrs, .int zis, .int zss, .int zsc, .ref dk, .ref dv, .ref ek, .ref ev, .ref er, .ref es, .ref et]))]) [0] (va_runV (C := RX7) (As := []) (rest := []) ⟨hx, hb, hml, hown, hts⟩ ((c_X7_seesDigit1 l g h zth zsz zch zsg zl1 zl2 zl3 zl4 zpb (nI nT) (nI i) zrk zrv zre zrm zrs zis zss zsc ak av bk bv br a_s a_t g1 g2 g3 pa ru tx dk dv ek ev er es et) _) (cwV 0 hts gX7_readNumber_X7_seesDigit rfl rfl rfl (by decide +kernel) ⟨Nat.le_of_ble_eq_true rfl, Nat.le_of_ble_eq_true rfl⟩) (kpreV (wc := [(h, .inr (9, [.int zth, .int zsz, .int zch, .ref ak, .ref av, .ref bk, .ref bv, .ref br, .ref a_s, .ref a_t, .int zsg, .ref g1, .ref g2, .ref g3, .long zl1, .long zl2, .long zl3, .long zl4, .int zpb, .ref pa, .ref ru, .ref tx, .int (nI nT), .int (nI i), .int zrk, .int zrv, .int zre, .int 1, .int zrm, .int zrs, .int zis, .int zss, .int zsc, .ref dk, .ref dv, .ref ek, .ref ev, .ref er, .ref es, .ref et]))]) (ci := 9) hK hP hD hS hA hE [0] rfl rfl rfl rfl) rfl rfl hl.1 rfl (lv_room (Nat.le_of_ble_eq_true rfl)) dX7_readNumber_31 ⟨Nat.zero_le _, Nat.zero_le _⟩) hP hD hS hA rfl (fun r_3 w_3 H locs hp hP hD hS => ?_)
    obtain ⟨rfl, rfl⟩ := hp
    have hP : va_P g.1 vwCl [(h, .inr (9, [.int zth, .int zsz, .int zch, .ref ak, .ref av, .ref bk, .ref bv, .ref br, .ref a_s, .ref a_t, .int zsg, .ref g1, .ref g2, .ref g3, .long zl1, .long zl2, .long zl3, .long zl4, .int zpb, .ref pa, .ref ru, .ref tx, .int (nI nT), .int (nI i), .int zrk, .int zrv, .int zre, .int 1, .int zrm, .int zrs, .int zis, .int zss, .int zsc, .ref dk, .ref dv, .ref ek, .ref ev, .ref er, .ref es, .ref et])), (tx, .inl (g.2.1.2.1, 100, .inl tT))] H := hP
    have hD : va_D A [(h, .inr (9, [.int zth, .int zsz, .int zch, .ref ak, .ref av, .ref bk, .ref bv, .ref br, .ref a_s, .ref a_t, .int zsg, .ref g1, .ref g2, .ref g3, .long zl1, .long zl2, .long zl3, .long zl4, .int zpb, .ref pa, .ref ru, .ref tx, .int (nI nT), .int (nI i), .int zrk, .int zrv, .int zre, .int 1, .int zrm, .int zrs, .int zis, .int zss, .int zsc, .ref dk, .ref dv, .ref ek, .ref ev, .ref er, .ref es, .ref et])), (tx, .inl (g.2.1.2.1, 100, .inl tT))] := hD
    refine lv_if_eq (tgt := 71) hx hb dX7_readNumber_34 (by decide) (fun c_34 => ?_) (fun c_34 => absurd (by decide) c_34)
    refine lv_iload_n hx hb dX7_readNumber_71 rfl (lv_at hl 1 rfl) ?_
    exact kreti hx hb hRt hlk hK hP hD hS rfl dX7_readNumber_72 (⟨by rw [hres], by rw [hres, if_pos rfl]⟩)
