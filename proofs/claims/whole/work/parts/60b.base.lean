/-! ===== the law's loop: its state, its context ===== -/
theorem nI_2 (n : Nat) : nI n + 2 = nI (n + 2) := nI_add n 2
theorem lg_self (a : Int64) : lg_cmp a a = 0 := (lg_cmp_eq _ _).mpr rfl
theorem dcmp_s {r : UInt64} (h : FP.Core.val64 r ≠ .nan) : Op.cmpValue (FP.dcmp r r) CmpOp.l = 0 := by
  rw [show FP.dcmp r r = some .eq from FP.Core.dcmp_self h]; rfl
section
variable {p : Program} {l : Launch} {e : Env} {R : Room} {s : State} {m : MethodId} {args : Array Value} {below : List Frame} {meth : Method} {c : Code} {H : Heap} {locs : List Loc} {cells slots mc ms : Nat} {Q : State → Prop}
variable {g : kG} {A : Nat → Prop} {ws wc : va_W} {pc : Nat} {ls : Array Slot} {st0 rest : List Value} {a : Array Value}
theorem kcallh {post : Int32 → va_W → Prop} (is : List Nat) (hr : va_Run p l e R s m args below meth c H locs cells slots mc ms (F0 m pc ls st0) rest (va_Qi post (kB g wc.length (va_A wc H.size)) (va_A wc H.size) a) (va_A wc H.size)) (hP : va_P g.1 vwCl ws H) (hD : va_D A ws) (hS : va_S A s.heap H locs) (hA : ∀ q, s.heap.size ≤ q → A q) (hC : is.map (fun i => ws[i]?) = wc.map some)
    (kk : ∀ (r : Int32) (w1 : va_W) (H1 : Heap) (locs1 : List Loc), post r w1 → va_P g.1 vwCl (kMrg ws is w1) H1 → va_D A (kMrg ws is w1) → va_S A s.heap H1 locs1 → W p l e R s m args below meth c H1 locs1 (cells + mc) (slots + ms) Q (F0 m (pc + 3) ls (.int r :: rest))) : W p l e R s m args below meth c H locs cells slots Q (F0 m pc ls st0) := by
  have hF := va_free hD hS hA is hC
  refine va_calli hr hS (fun q _ h => hF q h) hF (fun r w1 t H1 locs1 ht hvm hw hB hz hk hS1 => ?_)
  obtain ⟨hlen, hP1, hK1, hD1⟩ := hB
  rw [ht] at hP1
  obtain ⟨x1, x2⟩ := kMrg_ok hP hD is hC hk hF hlen hP1 hD1
  exact kk r w1 H1 locs1 hw x1 x2 hS1
end
def kT0 (T : Nat → Int32) (k : Nat) : Prop := 0 ≤ (T 0).toInt ∧ (T 0).toInt ≤ (k : Int)
def kInv (C : List kE3) (S T : Nat → Int32) (k : Nat) : Prop := (C.length : Int) ≤ (S 1).toInt ∧ kT0 T k
theorem kInv_le {C : List kE3} {S T : Nat → Int32} {k k' : Nat} (h : kInv C S T k) (hk : k ≤ k') : kInv C S T k' := ⟨h.1, h.2.1, by have := h.2.2; omega⟩
theorem kT0_mrg {T : Nat → Int32} {k : Nat} (h : kT0 T k) : kT0 (mrgT T) k := by
  have : mrgT T 0 = T 0 := by simp [mrgT, upd]
  rw [kT0, this]; exact h
theorem kInv_nil {S T : Nat → Int32} {k : Nat} (hS : kSt S) (h : kT0 T k) : kInv [] S T k := ⟨by have := hS.2.1.1; simp; omega, h⟩
theorem kInv_moc {M C : List kE3} {S T : Nat → Int32} {k : Nat} (hS : kSt S) (h : kT0 T k) : kInv (mocS M C S T).2.1 S (mocS M C S T).2.2 k := by
  refine ⟨(moc_cap hS).2, ?_⟩
  unfold mocS
  split
  · exact kT0_mrg h
  · exact h
theorem kInv_ite {c : Prop} [Decidable c] {C1 C2 : List kE3} {S T1 T2 : Nat → Int32} {k : Nat} (h1 : c → kInv C1 S T1 k) (h2 : ¬ c → kInv C2 S T2 k) : kInv (if c then C1 else C2) S (if c then T1 else T2) k := by
  by_cases h : c
  · rw [if_pos h, if_pos h]; exact h1 h
  · rw [if_neg h, if_neg h]; exact h2 h
theorem kInv_ite3 {c : Prop} [Decidable c] {C1 C2 : List kE3} {S1 S2 T1 T2 : Nat → Int32} {k : Nat} (h1 : c → kInv C1 S1 T1 k) (h2 : ¬ c → kInv C2 S2 T2 k) : kInv (if c then C1 else C2) (if c then S1 else S2) (if c then T1 else T2) k := by
  by_cases h : c
  · rw [if_pos h, if_pos h, if_pos h]; exact h1 h
  · rw [if_neg h, if_neg h, if_neg h]; exact h2 h
theorem kInv_luk {M C : List kE3} {S T : Nat → Int32} {k : Nat} {x : Int32} (hS : kSt S) (h : kInv C S T k) (hk : k ≤ 600) : kInv (lukS M C S T x).2.1 S (lukS M C S T x).2.2 (k + 1) := by
  have h0 : lukT M C S T x 0 = T 0 + 1 := by
    unfold lukT tlB tlA
    split <;> simp [upd]
  have h1 : kT0 (lukT M C S T x) (k + 1) := by
    obtain ⟨-, h2, h3⟩ := h
    have : (T 0 + 1).toInt = (T 0).toInt + 1 := by
      conv => lhs; rw [kI_of (T 0)]
      rw [show (1 : Int32) = kI 1 from rfl, kI_add, kI_toInt (by omega) (by omega)]
    rw [kT0, h0, this]
    omega
  unfold lukS
  split
  · exact kInv_nil hS (kT0_mrg h1)
  · exact ⟨h.1, h1⟩
theorem kInv_set {M C : List kE3} {S T : Nat → Int32} {k : Nat} {w v : Int32} (hst : setK w v = 0) (hS : kSt S) (h : kInv C S T k) : kInv (setS M C S T w v).2.1 (upd S w.toNatClampNeg v) (setS M C S T w v).2.2 k := by
  have hst2 : stV w v = true := by
    cases hc : stV w v with
    | true => rfl
    | false => rw [setK, hc] at hst; exact absurd hst (by decide)
  obtain ⟨hw, hK2⟩ := stV_ok hst2 hS
  unfold setS
  by_cases c : w = 1
  · rw [if_pos c]; exact kInv_moc hK2 h.2
  · rw [if_neg c]
    refine ⟨?_, h.2⟩
    have : upd S w.toNatClampNeg v 1 = S 1 := by
      rcases hw with rfl | rfl | rfl | rfl
      · rfl
      · exact absurd rfl c
      · rfl
      · rfl
    rw [this]; exact h.1
theorem kInv_ldS {S : Nat → Int32} {k : Nat} (hS : kSt S) : ∀ (L : List kE3) (X : List kE3 × List kE3 × (Nat → Int32)), kInv X.2.1 S X.2.2 k → kInv (L.foldl (ldF S) X).2.1 S (L.foldl (ldF S) X).2.2 k
  | [], _, h => h
  | e :: L, X, h => kInv_ldS hS L (ldF S X e) (kInv_moc hS h.2)
theorem kInv_ldZ {M C : List kE3} {S T U : Nat → Int32} {n k : Nat} (hS : kSt S) (h : kInv C S T k) : kInv (ldZ M C S T U n).2.1 S (ldZ M C S T U n).2.2 k := by
  unfold ldZ
  split
  · exact kInv_ldS hS _ (M, C, T) h
  · exact h
theorem kSV_len {vn : Nat} {vfk vfv vfr : Nat → Int32} {vnc : Nat} {vgk vgv vgr vfs vft : Nat → Int32} {M C : List kE3} {S T : Nat → Int32} (h : kSV vn vfk vfv vfr vnc vgk vgv vgr vfs vft M C S T) : vn = M.length ∧ vnc = C.length := by
  obtain ⟨⟨h1, h2⟩, -⟩ := h
  exact ⟨by rw [← h1, EL_len], by rw [← h2, EL_len]⟩
theorem kMC_sv {nM : Nat} {fMk fMv fMr : Nat → Int32} {nC : Nat} {gk gv gr : Nat → Int32} {vn : Nat} {vfk vfv vfr : Nat → Int32} {vnc : Nat} {vgk vgv vgr vfs vft : Nat → Int32} {M C : List kE3} {S T : Nat → Int32} (h : kMC nM fMk fMv fMr nC gk gv gr M C) (hv : kSV vn vfk vfv vfr vnc vgk vgv vgr vfs vft M C S T) : kMC vn vfk vfv vfr vnc vgk vgv vgr M C := by
  have hl := kSV_len hv
  obtain ⟨⟨h1, h2⟩, ⟨h3, h4⟩, h5, h6⟩ := h
  have e1 : nM = M.length := by rw [← h1, EL_len]
  have e2 : nC = C.length := by rw [← h2, EL_len]
  exact ⟨hv.1, ⟨by omega, by omega⟩, h5, h6⟩
theorem kMM_sv {nA : Nat} {fk fv : Nat → Int32} {nB : Nat} {ck cv cr : Nat → Int32} {vn : Nat} {sk sv : Nat → Int32} {vc : Nat} {sck scv scr ss st : Nat → Int32} {M C : List kE3} {S T : Nat → Int32} (h : kMM nA fk fv nB ck cv cr M C) (hv : kSV vn sk sv fz0 vc sck scv scr ss st M C S T) : kMM vn sk sv vc sck scv scr M C := by
  have hl := kSV_len hv
  obtain ⟨⟨h1, h2⟩, ⟨h3, h4⟩, h5, h6, h7⟩ := h
  have e1 : nA = M.length := by rw [← h1, EL_len]
  have e2 : nB = C.length := by rw [← h2, EL_len]
  exact ⟨hv.1, ⟨by omega, by omega⟩, h5, h6, h7⟩
/-- what was saved, in the class and in the model -/
def kSvd (iS : Int32) (vn : Nat) (vfk : Nat → Int32) (vfv : Nat → Int32) (vfr : Nat → Int32) (vnc : Nat) (vgk : Nat → Int32) (vgv : Nat → Int32) (vgr : Nat → Int32) (vfs : Nat → Int32) (vft : Nat → Int32) (vn7 : Nat) (sk7 : Nat → Int32) (sv7 : Nat → Int32) (vc7 : Nat) (sck : Nat → Int32) (scv : Nat → Int32) (scr : Nat → Int32) (ss7 : Nat → Int32) (st7 : Nat → Int32) (M9 : List kE3) (C9 : List kE3) (S9 : Nat → Int32) (T9 : Nat → Int32) (k : Nat) : Prop := ¬ iS = 0 → kSV vn vfk vfv vfr vnc vgk vgv vgr vfs vft M9 C9 S9 T9 ∧ kMC vn vfk vfv vfr vnc vgk vgv vgr M9 C9 ∧ kSt S9 ∧ kMM vn7 sk7 sv7 vc7 sck scv scr M9 C9 ∧ (∀ j, j < 4 → ss7 j = S9 j) ∧ (∀ j, j < 5 → st7 j = T9 j) ∧ kInv C9 S9 T9 k
theorem kSvd_s {iS : Int32} {vn : Nat} {vfk : Nat → Int32} {vfv : Nat → Int32} {vfr : Nat → Int32} {vnc : Nat} {vgk : Nat → Int32} {vgv : Nat → Int32} {vgr : Nat → Int32} {vfs : Nat → Int32} {vft : Nat → Int32} {vn7 : Nat} {sk7 : Nat → Int32} {sv7 : Nat → Int32} {vc7 : Nat} {sck : Nat → Int32} {scv : Nat → Int32} {scr : Nat → Int32} {ss7 : Nat → Int32} {st7 : Nat → Int32} {M9 : List kE3} {C9 : List kE3} {S9 : Nat → Int32} {T9 : Nat → Int32} {k : Nat} (h : kSvd iS vn vfk vfv vfr vnc vgk vgv vgr vfs vft vn7 sk7 sv7 vc7 sck scv scr ss7 st7 M9 C9 S9 T9 k) : kSvd iS vn vfk vfv vfr vnc vgk vgv vgr vfs vft vn7 sk7 sv7 vc7 sck scv scr ss7 st7 M9 C9 S9 T9 (k + 1) := fun z => ⟨(h z).1, (h z).2.1, (h z).2.2.1, (h z).2.2.2.1, (h z).2.2.2.2.1, (h z).2.2.2.2.2.1, kInv_le (h z).2.2.2.2.2.2 (Nat.le_succ k)⟩
/-- what holds of the law's state behind k calls, whatever the cells hold: in words of continuations, so that no cell's name is ever taken out of an existential -/
def kLA (g : kG) (x0 : Nat) (yn : Nat) (ys : Nat) (xc : Nat) (xs : Nat) (xt : Nat) (xr : Nat) (xf : Nat) (xh : Nat) (xi : Nat) (am : Nat) (ac : Nat) (as_ : Nat) (atx : Nat) (mka : Nat) (mva : Nat) (mra : Nat) (cka : Nat) (cva : Nat) (cra : Nat) (oka : Nat) (ova : Nat) (ora : Nat) (s1 : Nat) (s2 : Nat) (s3 : Nat) (s4 : Nat) (s5 : Nat) (t1 : Nat) (t2 : Nat) (t3 : Nat) (t4 : Nat) (t5 : Nat) (iq1 : Nat) (iq2 : Nat) (iq3 : Nat) (iq4 : Nat) (vm : Nat) (vc : Nat) (vs_ : Nat) (vt_ : Nat) (vmk : Nat) (vmv : Nat) (vmr : Nat) (vck : Nat) (vcv : Nat) (vcr : Nat) (h : Nat) (ak : Nat) (av : Nat) (bk : Nat) (bv : Nat) (br : Nat) (a_s : Nat) (a_t : Nat) (g1 : Nat) (g2 : Nat) (g3 : Nat) (pa : Nat) (ru : Nat) (tx : Nat) (dk : Nat) (dv : Nat) (ek : Nat) (ev : Nat) (er : Nat) (es : Nat) (et : Nat) (ob : Nat) (od : Nat) (k : Nat) (G : va_W → Prop) : Prop := ∀ (iS : Int32) (nM : Nat) (fMk : Nat → Int32) (fMv : Nat → Int32) (fMr : Nat → Int32) (nC : Nat) (gk : Nat → Int32) (gv : Nat → Int32) (gr : Nat → Int32) (fS : Nat → Int32) (fT : Nat → Int32) (nO : Nat) (ok : Nat → Int32) (ov : Nat → Int32) (or : Nat → Int32) (mS : Nat) (u1 : Nat → Int32) (u2 : Nat → Int32) (u3 : Nat → Int32) (u4 : Nat → Int32) (u5 : Nat → Int32) (r1 : Int32) (r2 : Int32) (r3 : Int32) (r4 : Int32) (r5 : Int32) (p1 : Int32) (p2 : Int32) (p3 : Int32) (p4 : Int32) (p5 : Int32) (ff : Nat → Int32) (mT : Int32) (o1 : Nat → Int32) (o2 : Nat → Int32) (o3 : Nat → Int32) (o4 : Nat → Int32) (o5 : Nat → Int32) (nT : Nat) (ne : Nat) (iat : Nat) (ivv : Int32) (tT : Nat → Int32) (ik : Nat → Int32) (iv : Nat → Int32) (ir : Nat → Int32) (vn : Nat) (vfk : Nat → Int32) (vfv : Nat → Int32) (vfr : Nat → Int32) (vnc : Nat) (vgk : Nat → Int32) (vgv : Nat → Int32) (vgr : Nat → Int32) (vfs : Nat → Int32) (vft : Nat → Int32) (zth : Int32) (nA : Nat) (nB : Nat) (mS7 : Nat) (zl1 : Int64) (zl2 : Int64) (zl3 : Int64) (zl4 : Int64) (zpb : Int32) (zat : Int32) (zrk : Int32) (zrv : Int32) (zre : Int32) (zwr : Int32) (zrm : Int32) (zrs : Int32) (vn7 : Nat) (vc7 : Nat) (fk : Nat → Int32) (fv : Nat → Int32) (ck : Nat → Int32) (cv : Nat → Int32) (cr : Nat → Int32) (fS7 : Nat → Int32) (fT7 : Nat → Int32) (y1 : Nat → Int32) (y2 : Nat → Int32) (y3 : Nat → Int32) (fp : Nat → Int32) (fr7 : Nat → Int32) (sk7 : Nat → Int32) (sv7 : Nat → Int32) (sck : Nat → Int32) (scv : Nat → Int32) (scr : Nat → Int32) (ss7 : Nat → Int32) (st7 : Nat → Int32) (fo : Nat → Int64) (fd : Nat → UInt64) (M : List kE3) (C : List kE3) (S : Nat → Int32) (T : Nat → Int32) (M9 : List kE3) (C9 : List kE3) (S9 : Nat → Int32) (T9 : Nat → Int32), kXS nM fMk fMv fMr nC gk gv gr fS fT mS u1 u2 u3 u4 u5 M C S T → kMX nA fk fv nB ck cv cr fS7 fT7 mS7 y1 y2 y3 M C S T → kInv C S T k → nT ≤ 100 → kSvd iS vn vfk vfv vfr vnc vgk vgv vgr vfs vft vn7 sk7 sv7 vc7 sck scv scr ss7 st7 M9 C9 S9 T9 k → G [(x0, .inr (8, [.ref yn, .ref ys, .int iS, .ref xc, .ref xs, .ref xt, .ref xr, .ref xf, .ref xh, .ref xi])), (yn, .inr (7, [.ref am, .ref ac, .ref as_, .ref atx])), (am, .inr (2, [.ref mka, .ref mva, .ref mra, .int (nI nM)])), (mka, .inl (g.2.1.1, 160, .inl fMk)), (mva, .inl (g.2.1.1, 160, .inl fMv)), (mra, .inl (g.2.1.1, 160, .inl fMr)), (ac, .inr (2, [.ref cka, .ref cva, .ref cra, .int (nI nC)])), (cka, .inl (g.2.1.1, 160, .inl gk)), (cva, .inl (g.2.1.1, 160, .inl gv)), (cra, .inl (g.2.1.1, 160, .inl gr)), (as_, .inl (g.2.1.1, 4, .inl fS)), (atx, .inl (g.2.1.1, 5, .inl fT)), (xc, .inr (2, [.ref oka, .ref ova, .ref ora, .int (nI nO)])), (oka, .inl (g.2.1.1, 160, .inl ok)), (ova, .inl (g.2.1.1, 160, .inl ov)), (ora, .inl (g.2.1.1, 160, .inl or)), (xs, .inr (6, [.ref s1, .ref s2, .ref s3, .ref s4, .ref s5, .int (nI mS)])), (s1, .inl (g.2.1.1, 160, .inl u1)), (s2, .inl (g.2.1.1, 160, .inl u2)), (s3, .inl (g.2.1.1, 160, .inl u3)), (s4, .inl (g.2.1.1, 160, .inl u4)), (s5, .inl (g.2.1.1, 160, .inl u5)), (xr, .inr (4, [.int r1, .int r2, .int r3, .int r4, .int r5])), (xh, .inr (5, [.int p1, .int p2, .int p3, .int p4, .int p5])), (xf, .inl (g.2.1.1, 160, .inl ff)), (xt, .inr (6, [.ref t1, .ref t2, .ref t3, .ref t4, .ref t5, .int mT])), (t1, .inl (g.2.1.1, 160, .inl o1)), (t2, .inl (g.2.1.1, 160, .inl o2)), (t3, .inl (g.2.1.1, 160, .inl o3)), (t4, .inl (g.2.1.1, 160, .inl o4)), (t5, .inl (g.2.1.1, 160, .inl o5)), (xi, .inr (3, [.ref iq1, .int (nI nT), .ref iq2, .ref iq3, .ref iq4, .int (nI ne), .int (nI iat), .int ivv])), (iq1, .inl (g.2.1.1, 100, .inl tT)), (iq2, .inl (g.2.1.1, 100, .inl ik)), (iq3, .inl (g.2.1.1, 100, .inl iv)), (iq4, .inl (g.2.1.1, 100, .inl ir)), (ys, .inr (7, [.ref vm, .ref vc, .ref vs_, .ref vt_])), (vm, .inr (2, [.ref vmk, .ref vmv, .ref vmr, .int (nI vn)])), (vmk, .inl (g.2.1.1, 160, .inl vfk)), (vmv, .inl (g.2.1.1, 160, .inl vfv)), (vmr, .inl (g.2.1.1, 160, .inl vfr)), (vc, .inr (2, [.ref vck, .ref vcv, .ref vcr, .int (nI vnc)])), (vck, .inl (g.2.1.1, 160, .inl vgk)), (vcv, .inl (g.2.1.1, 160, .inl vgv)), (vcr, .inl (g.2.1.1, 160, .inl vgr)), (vs_, .inl (g.2.1.1, 4, .inl vfs)), (vt_, .inl (g.2.1.1, 5, .inl vft)), (h, .inr (9, [.int zth, .int (nI nA), .int (nI nB), .ref ak, .ref av, .ref bk, .ref bv, .ref br, .ref a_s, .ref a_t, .int (nI mS7), .ref g1, .ref g2, .ref g3, .long zl1, .long zl2, .long zl3, .long zl4, .int zpb, .ref pa, .ref ru, .ref tx, .int (nI nT), .int zat, .int zrk, .int zrv, .int zre, .int zwr, .int zrm, .int zrs, .int iS, .int (nI vn7), .int (nI vc7), .ref dk, .ref dv, .ref ek, .ref ev, .ref er, .ref es, .ref et])), (ak, .inl (g.2.1.1, 152, .inl fk)), (av, .inl (g.2.1.1, 152, .inl fv)), (bk, .inl (g.2.1.1, 24, .inl ck)), (bv, .inl (g.2.1.1, 24, .inl cv)), (br, .inl (g.2.1.1, 24, .inl cr)), (a_s, .inl (g.2.1.1, 4, .inl fS7)), (a_t, .inl (g.2.1.1, 5, .inl fT7)), (g1, .inl (g.2.1.1, 152, .inl y1)), (g2, .inl (g.2.1.1, 152, .inl y2)), (g3, .inl (g.2.1.1, 152, .inl y3)), (pa, .inl (g.2.1.1, 152, .inl fp)), (ru, .inl (g.2.1.1, 152, .inl fr7)), (tx, .inl (g.2.1.2.1, 100, .inl tT)), (dk, .inl (g.2.1.1, 152, .inl sk7)), (dv, .inl (g.2.1.1, 152, .inl sv7)), (ek, .inl (g.2.1.1, 24, .inl sck)), (ev, .inl (g.2.1.1, 24, .inl scv)), (er, .inl (g.2.1.1, 24, .inl scr)), (es, .inl (g.2.1.1, 4, .inl ss7)), (et, .inl (g.2.1.1, 5, .inl st7)), (ob, .inl (g.2.1.2.2.1, 1, .inr (.inl fo))), (od, .inl (g.2.1.2.2.2, 1, .inr (.inr (.inr (.inl fd)))))]
def lwL (b x0 h ob od k : Nat) : List (Nat × Value) := [(5, .int (nI (3 * k))), (4, .ref od), (3, .ref ob), (2, .ref h), (1, .ref x0), (0, .ref b)]
/-- the law goes on at pc -/
def kLG (p : Program) (l : Launch) (e : Env) (s : State) (m : MethodId) (below : List Frame) (meth : Method) (cd : Code) (g : kG) (A : Nat → Prop) (b x0 h ob od k cells slots pc : Nat) (Q : State → Prop) (ws : va_W) : Prop := ∀ (H : Heap) (locs : List Loc) (ls : Array Slot), va_P g.1 vwCl ws H → va_D A ws → va_S A s.heap H locs → lv_has ls 9 (lwL b x0 h ob od k) → W p l e room_1 s m #[Value.ref b] below meth cd H locs cells slots Q (F0 m pc ls [])
theorem kLA_mono {g : kG} {x0 yn ys xc xs xt xr xf xh xi am ac as_ atx mka mva mra cka cva cra oka ova ora s1 s2 s3 s4 s5 t1 t2 t3 t4 t5 iq1 iq2 iq3 iq4 vm vc vs_ vt_ vmk vmv vmr vck vcv vcr h ak av bk bv br a_s a_t g1 g2 g3 pa ru tx dk dv ek ev er es et ob od : Nat} {k : Nat} {G G' : va_W → Prop} (hG : ∀ ws, G ws → G' ws) (hk9 : kLA g x0 yn ys xc xs xt xr xf xh xi am ac as_ atx mka mva mra cka cva cra oka ova ora s1 s2 s3 s4 s5 t1 t2 t3 t4 t5 iq1 iq2 iq3 iq4 vm vc vs_ vt_ vmk vmv vmr vck vcv vcr h ak av bk bv br a_s a_t g1 g2 g3 pa ru tx dk dv ek ev er es et ob od k G) : kLA g x0 yn ys xc xs xt xr xf xh xi am ac as_ atx mka mva mra cka cva cra oka ova ora s1 s2 s3 s4 s5 t1 t2 t3 t4 t5 iq1 iq2 iq3 iq4 vm vc vs_ vt_ vmk vmv vmr vck vcv vcr h ak av bk bv br a_s a_t g1 g2 g3 pa ru tx dk dv ek ev er es et ob od k G' := by
  intro iS nM fMk fMv fMr nC gk gv gr fS fT nO ok ov or mS u1 u2 u3 u4 u5 r1 r2 r3 r4 r5 p1 p2 p3 p4 p5 ff mT o1 o2 o3 o4 o5 nT ne iat ivv tT ik iv ir vn vfk vfv vfr vnc vgk vgv vgr vfs vft zth nA nB mS7 zl1 zl2 zl3 zl4 zpb zat zrk zrv zre zwr zrm zrs vn7 vc7 fk fv ck cv cr fS7 fT7 y1 y2 y3 fp fr7 sk7 sv7 sck scv scr ss7 st7 fo fd M C S T M9 C9 S9 T9 hXS hMX hinv hn hsv
  exact hG _ (hk9 iS nM fMk fMv fMr nC gk gv gr fS fT nO ok ov or mS u1 u2 u3 u4 u5 r1 r2 r3 r4 r5 p1 p2 p3 p4 p5 ff mT o1 o2 o3 o4 o5 nT ne iat ivv tT ik iv ir vn vfk vfv vfr vnc vgk vgv vgr vfs vft zth nA nB mS7 zl1 zl2 zl3 zl4 zpb zat zrk zrv zre zwr zrm zrs vn7 vc7 fk fv ck cv cr fS7 fT7 y1 y2 y3 fp fr7 sk7 sv7 sck scv scr ss7 st7 fo fd M C S T M9 C9 S9 T9 hXS hMX hinv hn hsv)
theorem kLA_of {g : kG} {x0 yn ys xc xs xt xr xf xh xi am ac as_ atx mka mva mra cka cva cra oka ova ora s1 s2 s3 s4 s5 t1 t2 t3 t4 t5 iq1 iq2 iq3 iq4 vm vc vs_ vt_ vmk vmv vmr vck vcv vcr h ak av bk bv br a_s a_t g1 g2 g3 pa ru tx dk dv ek ev er es et ob od : Nat} {k : Nat} {G : va_W → Prop} (hG : ∀ ws, G ws) : kLA g x0 yn ys xc xs xt xr xf xh xi am ac as_ atx mka mva mra cka cva cra oka ova ora s1 s2 s3 s4 s5 t1 t2 t3 t4 t5 iq1 iq2 iq3 iq4 vm vc vs_ vt_ vmk vmv vmr vck vcv vcr h ak av bk bv br a_s a_t g1 g2 g3 pa ru tx dk dv ek ev er es et ob od k G := by
  intro iS nM fMk fMv fMr nC gk gv gr fS fT nO ok ov or mS u1 u2 u3 u4 u5 r1 r2 r3 r4 r5 p1 p2 p3 p4 p5 ff mT o1 o2 o3 o4 o5 nT ne iat ivv tT ik iv ir vn vfk vfv vfr vnc vgk vgv vgr vfs vft zth nA nB mS7 zl1 zl2 zl3 zl4 zpb zat zrk zrv zre zwr zrm zrs vn7 vc7 fk fv ck cv cr fS7 fT7 y1 y2 y3 fp fr7 sk7 sv7 sck scv scr ss7 st7 fo fd M C S T M9 C9 S9 T9 hXS hMX hinv hn hsv
  exact hG _
theorem kLA_s {g : kG} {x0 yn ys xc xs xt xr xf xh xi am ac as_ atx mka mva mra cka cva cra oka ova ora s1 s2 s3 s4 s5 t1 t2 t3 t4 t5 iq1 iq2 iq3 iq4 vm vc vs_ vt_ vmk vmv vmr vck vcv vcr h ak av bk bv br a_s a_t g1 g2 g3 pa ru tx dk dv ek ev er es et ob od : Nat} {k : Nat} {G : va_W → Prop} (hk9 : kLA g x0 yn ys xc xs xt xr xf xh xi am ac as_ atx mka mva mra cka cva cra oka ova ora s1 s2 s3 s4 s5 t1 t2 t3 t4 t5 iq1 iq2 iq3 iq4 vm vc vs_ vt_ vmk vmv vmr vck vcv vcr h ak av bk bv br a_s a_t g1 g2 g3 pa ru tx dk dv ek ev er es et ob od (k + 1) G) : kLA g x0 yn ys xc xs xt xr xf xh xi am ac as_ atx mka mva mra cka cva cra oka ova ora s1 s2 s3 s4 s5 t1 t2 t3 t4 t5 iq1 iq2 iq3 iq4 vm vc vs_ vt_ vmk vmv vmr vck vcv vcr h ak av bk bv br a_s a_t g1 g2 g3 pa ru tx dk dv ek ev er es et ob od k G := by
  intro iS nM fMk fMv fMr nC gk gv gr fS fT nO ok ov or mS u1 u2 u3 u4 u5 r1 r2 r3 r4 r5 p1 p2 p3 p4 p5 ff mT o1 o2 o3 o4 o5 nT ne iat ivv tT ik iv ir vn vfk vfv vfr vnc vgk vgv vgr vfs vft zth nA nB mS7 zl1 zl2 zl3 zl4 zpb zat zrk zrv zre zwr zrm zrs vn7 vc7 fk fv ck cv cr fS7 fT7 y1 y2 y3 fp fr7 sk7 sv7 sck scv scr ss7 st7 fo fd M C S T M9 C9 S9 T9 hXS hMX hinv hn hsv
  exact hk9 iS nM fMk fMv fMr nC gk gv gr fS fT nO ok ov or mS u1 u2 u3 u4 u5 r1 r2 r3 r4 r5 p1 p2 p3 p4 p5 ff mT o1 o2 o3 o4 o5 nT ne iat ivv tT ik iv ir vn vfk vfv vfr vnc vgk vgv vgr vfs vft zth nA nB mS7 zl1 zl2 zl3 zl4 zpb zat zrk zrv zre zwr zrm zrs vn7 vc7 fk fv ck cv cr fS7 fT7 y1 y2 y3 fp fr7 sk7 sv7 sck scv scr ss7 st7 fo fd M C S T M9 C9 S9 T9 hXS hMX (kInv_le hinv (Nat.le_succ k)) hn (kSvd_s hsv)
/-- the law's context -/
def kLx (l : Launch) (g : kG) (b L : Nat) (xs : Nat → Int32) (p : Program) (s : State) (m : MethodId) (c : Code) (A : Nat → Prop) : Prop :=
  l.stackTraces = false ∧ p.tables.exec = Jvm.exec ∧ c.code = cL_law ∧ c.maxLocals = 9 ∧ s.vm.findClass RL = some m.cls ∧ (∀ w ∈ wsL_law, w.before #[Value.ref b] s = true) ∧ va_X b L xs s s.heap ∧ b < s.heap.size ∧ ¬ A b ∧ (∀ q, s.heap.size ≤ q → A q) ∧ va_K g.1 vwCl (kTy g) s ∧ kEnv g A s s.heap ∧ L ≤ 1536

theorem ggL_law_X7_thrown : GoodIn wsL_law wsX7_thrown := goodIn_r _ [319, 249, 859, 860, 861, 862, 863, 864, 865, 866, 867, 868, 869, 870, 871, 872, 873, 874, 875, 876, 877, 878, 879, 880, 881, 882, 883, 884, 885, 886, 887, 888, 889, 890, 891, 892, 893, 894, 895, 896, 897, 898] (by decide +kernel) (by decide +kernel)
theorem gL_law_X7_thrown : GoodIn wsL_law (wsV RL 100 RX7 yX7_thrown wsX7_thrown) := goodIn_app (goodIn_of _ (by decide +kernel)) ggL_law_X7_thrown
