/-! ===== the state of the index: both parts, settings, tallies, segments ===== -/
def kap (M : List kE3) : Nat → Int := fun j => ((M[j]?).getD (0, 0, 0)).1.toInt
theorem EL_kap {n : Nat} {fk fv fr : Nat → Int32} {M : List kE3} (h : EL n fk fv fr = M) {j : Nat} (hj : j < n) : fk j = kI (kap M j) := by
  rw [kap, ← h, EL_get, if_pos hj]
  exact kI_of _
theorem kap_asc {n : Nat} {fk fv fr : Nat → Int32} {M : List kE3} (h : EL n fk fv fr = M) (hI : kIv M) : kasc (kap M) n := by
  have g : ∀ j, j < n → kap M j = (fk j).toInt := by
    intro j hj
    rw [kap, ← h, EL_get, if_pos hj]; rfl
  subst h
  refine ⟨fun j hj => ?_, fun i j hij hj => ?_⟩
  · rw [g j hj]
    exact (hI.2 (fk j, fv j, fr j) (List.mem_of_getElem? (i := j) (by rw [EL_get, if_pos hj]))).1
  · rw [g j hj, g i (by omega)]
    have := List.pairwise_iff_getElem.mp hI.1 i j (by rw [EL_len]; omega) (by rw [EL_len]; omega) hij
    rw [EL_at, EL_at] at this
    exact Int32.lt_iff_toInt_lt.mp this
/-- the two parts as the rows hold them -/
def kMC (nM : Nat) (fMk fMv fMr : Nat → Int32) (nC : Nat) (gk gv gr : Nat → Int32) (M C : List kE3) : Prop :=
  (EL nM fMk fMv fMr = M ∧ EL nC gk gv gr = C) ∧ (nM ≤ 150 ∧ nC ≤ 22) ∧ (kIv M ∧ kIv C) ∧ (gat M C).length ≤ 150
/-- the settings' ranges -/
def kSt (S : Nat → Int32) : Prop := (1 ≤ (S 0).toInt ∧ (S 0).toInt ≤ 8) ∧ (1 ≤ (S 1).toInt ∧ (S 1).toInt ≤ 20) ∧ (1 ≤ (S 2).toInt ∧ (S 2).toInt ≤ 16) ∧ (0 ≤ (S 3).toInt ∧ (S 3).toInt ≤ 9)
def ksegs (M : List kE3) (S : Nat → Int32) : List (Nat × Nat × Nat × Nat) := sgs (kap M) M.length (S 0).toInt
def kXS (nM : Nat) (fMk fMv fMr : Nat → Int32) (nC : Nat) (gk gv gr fS fT : Nat → Int32) (mS : Nat) (u1 u2 u3 u4 u5 : Nat → Int32) (M C : List kE3) (S T : Nat → Int32) : Prop :=
  kMC nM fMk fMv fMr nC gk gv gr M C ∧ (∀ j, j < 4 → fS j = S j) ∧ (∀ j, j < 5 → fT j = T j) ∧ kSt S ∧ SG mS u1 u2 u3 u4 u5 = (ksegs M S).map (sgc (kap M))
theorem sg_ok {κ : Nat → Int} {n : Nat} {β : Int} (h : kasc κ n) (hn : n ≤ 160) (hβ : 0 ≤ β ∧ β ≤ 8) : ∀ (k f : Nat), ∀ q ∈ sg κ n β k f, q.1 ≤ q.2.1 ∧ q.2.1 < n ∧ q.2.2.1 ≤ 200 ∧ 1 ≤ q.2.2.2 ∧ q.2.2.2 ≤ 10000
  | 0, f, q, hq => by simp [sg] at hq
  | k + 1, f, q, hq => by
    rw [sg_s] at hq
    by_cases hf : f < n
    · have hb := gw0_bd h hn hβ hf
      rw [if_pos hf] at hq
      rcases List.mem_cons.mp hq with rfl | hq
      · dsimp only
        have hpos : 0 < (gw0 κ n f β).2.2.toNat := by omega
        have hg : 0 < Nat.gcd (gw0 κ n f β).2.2.toNat (gw0 κ n f β).2.1.toNat := Nat.gcd_pos_of_pos_left _ hpos
        have h1 := Nat.div_le_self (gw0 κ n f β).2.1.toNat (Nat.gcd (gw0 κ n f β).2.2.toNat (gw0 κ n f β).2.1.toNat)
        have h2 := Nat.div_le_self (gw0 κ n f β).2.2.toNat (Nat.gcd (gw0 κ n f β).2.2.toNat (gw0 κ n f β).2.1.toNat)
        have h3 := Nat.div_pos (Nat.le_of_dvd hpos (Nat.gcd_dvd_left (gw0 κ n f β).2.2.toNat (gw0 κ n f β).2.1.toNat)) hg
        omega
      · exact sg_ok h hn hβ k _ q hq
    · rw [if_neg hf] at hq; cases hq
def sgAt (L : List (Nat × Nat × Nat × Nat)) (i : Nat) : Nat × Nat × Nat × Nat := (L[i]?).getD (0, 0, 0, 0)
theorem sgAt_mem {L : List (Nat × Nat × Nat × Nat)} {i : Nat} (h : i < L.length) : sgAt L i ∈ L := by
  rw [sgAt, List.getElem?_eq_getElem h]; exact List.getElem_mem h
theorem SG_get {m : Nat} {u1 u2 u3 u4 u5 : Nat → Int32} {i : Nat} (h : i < m) : (SG m u1 u2 u3 u4 u5)[i]? = some (u1 i, u2 i, u3 i, u4 i, u5 i) := by
  rw [SG, List.getElem?_map, List.getElem?_range h]; rfl
theorem SG_seg {m : Nat} {u1 u2 u3 u4 u5 : Nat → Int32} {L : List (Nat × Nat × Nat × Nat)} {κ : Nat → Int} (h : SG m u1 u2 u3 u4 u5 = L.map (sgc κ)) : m = L.length ∧ ∀ i, i < m → u1 i = nI (sgAt L i).1 ∧ u2 i = nI (sgAt L i).2.1 ∧ u3 i = kI (κ (sgAt L i).1) ∧ u4 i = nI (sgAt L i).2.2.1 ∧ u5 i = nI (sgAt L i).2.2.2 := by
  have hl : m = L.length := by
    have := congrArg List.length h
    rwa [SG_len, List.length_map] at this
  refine ⟨hl, fun i hi => ?_⟩
  have h1 := SG_get (u1 := u1) (u2 := u2) (u3 := u3) (u4 := u4) (u5 := u5) hi
  rw [h, List.getElem?_map, List.getElem?_eq_getElem (by omega)] at h1
  have h2 := Option.some.inj h1
  rw [sgAt, List.getElem?_eq_getElem (by omega)]
  simp only [sgc, Prod.mk.injEq] at h2
  exact ⟨h2.1.symm, h2.2.1.symm, h2.2.2.1.symm, h2.2.2.2.1.symm, h2.2.2.2.2.symm⟩
theorem kplc_cong {u v : Nat → Int32} {x : Int32} : ∀ {m : Nat}, (∀ i, i < m → u i = v i) → kplc u x m = kplc v x m
  | 0, _ => rfl
  | i + 1, h => by rw [kplc, kplc, h i (by omega), kplc_cong (fun j hj => h j (by omega))]
/-- the segment of a key, prediction and window -/
def pidx (κ : Nat → Int) (L : List (Nat × Nat × Nat × Nat)) (x : Int32) : Nat := kplc (fun i => kI (κ (sgAt L i).1)) x L.length
def sgOf (κ : Nat → Int) (L : List (Nat × Nat × Nat × Nat)) (x : Int32) : Nat × Nat × Nat × Nat := sgAt L (pidx κ L x)
def PRD (κ : Nat → Int) (L : List (Nat × Nat × Nat × Nat)) (x : Int32) : Nat := kpr (sgOf κ L x).1 (sgOf κ L x).2.1 (sgOf κ L x).2.2.1 (sgOf κ L x).2.2.2 (κ (sgOf κ L x).1) x.toInt
def PLO (κ : Nat → Int) (L : List (Nat × Nat × Nat × Nat)) (β : Int) (x : Int32) : Nat := klo (sgOf κ L x).1 (PRD κ L x) β
def PHI (κ : Nat → Int) (L : List (Nat × Nat × Nat × Nat)) (β : Int) (x : Int32) : Nat := khi (sgOf κ L x).2.1 (PRD κ L x) β
theorem pidx_eq {m : Nat} {u1 u2 u3 u4 u5 : Nat → Int32} {L : List (Nat × Nat × Nat × Nat)} {κ : Nat → Int} (h : SG m u1 u2 u3 u4 u5 = L.map (sgc κ)) (x : Int32) : kplc u3 x m = pidx κ L x := by
  obtain ⟨h1, h2⟩ := SG_seg h
  rw [pidx, ← h1]
  exact kplc_cong (fun i hi => (h2 i hi).2.2.1)
theorem sgs_pos {κ : Nat → Int} {n : Nat} {β : Int} (h : 0 < n) : 0 < (sgs κ n β).length := by
  rw [sgs, show n = (n - 1) + 1 by omega, sg_s, if_pos (by omega)]
  simp
theorem sgs_nil {κ : Nat → Int} {β : Int} : sgs κ 0 β = [] := rfl
theorem kpr_in {f j a b : Nat} {kf x : Int} (h : f ≤ j) : f ≤ kpr f j a b kf x ∧ kpr f j a b kf x ≤ j := by unfold kpr; omega
theorem kwin {f j pr : Nat} {β : Int} (h : f ≤ pr ∧ pr ≤ j) (hβ : 0 ≤ β ∧ β ≤ 8) : f ≤ klo f pr β ∧ klo f pr β ≤ pr ∧ pr ≤ khi j pr β ∧ khi j pr β ≤ j ∧ khi j pr β ≤ klo f pr β + 17 := by
  unfold klo khi
  omega
/-- the probes of a search in the main part -/
def PBS (M : List kE3) (S : Nat → Int32) (x : Int32) : List Nat :=
  if M.length = 0 then [] else prb (fun j => kI (kap M j)) x (PHI (kap M) (ksegs M S) (S 0).toInt x + 1 - PLO (kap M) (ksegs M S) (S 0).toInt x) (PLO (kap M) (ksegs M S) (S 0).toInt x) (PHI (kap M) (ksegs M S) (S 0).toInt x + 1)
theorem EL_kcpy {n : Nat} {fk fv fr gk gv gr : Nat → Int32} : EL n (kcpy fk gk n) (kcpy fv gv n) (kcpy fr gr n) = EL n fk fv fr := by
  refine EL_cong (fun j hj => ?_)
  simp [kcpy, hj]
theorem gat_iv {M C : List kE3} (h1 : kIv M) (h2 : kIv C) : kIv (gat M C) := by
  refine ⟨gat_so M C h1.1 h2.1, fun e he => ⟨?_, ?_⟩⟩
  · rcases gat_keys M C e he with ⟨m, hm, e'⟩ | ⟨c, hc, e'⟩
    · rw [e']; exact (h1.2 m hm).1
    · rw [e']; exact (h2.2 c hc).1
  · have := gat_lkp M C h1.1 h2.1 e.1
    rw [lkp_of (gat_so M C h1.1 h2.1) he] at this
    unfold rsl at this
    left
    cases hc : lkp C e.1 with
    | some c =>
      rw [hc] at this
      simp only at this
      split at this
      · cases this
      · exact congrArg (fun z : kE3 => z.2.2) (Option.some.inj this)
    | none =>
      rw [hc] at this
      cases hm : lkp M e.1 with
      | none => rw [hm] at this; cases this
      | some m => rw [hm] at this; exact congrArg (fun z : kE3 => z.2.2) (Option.some.inj this)
theorem gat_nilC : ∀ (M : List kE3), (∀ e ∈ M, e.2.2 = 0) → gat M [] = M
  | [], _ => gat_nn
  | m :: M, h => by
    rw [gat_nil, gat_nilC M (fun e he => h e (List.mem_cons_of_mem _ he))]
    have := h m List.mem_cons_self
    obtain ⟨a, b, c⟩ := m
    simp only at this
    rw [this]
/-- every entry of what is merged has no removal -/
theorem gat_z {M C : List kE3} (h1 : kSo M) (h2 : kSo C) : ∀ e ∈ gat M C, e.2.2 = 0 := by
  intro e he
  have := gat_lkp M C h1 h2 e.1
  rw [lkp_of (gat_so M C h1 h2) he] at this
  unfold rsl at this
  cases hc : lkp C e.1 with
  | some c =>
    rw [hc] at this
    simp only at this
    split at this
    · cases this
    · exact congrArg (fun z : kE3 => z.2.2) (Option.some.inj this)
  | none =>
    rw [hc] at this
    cases hm : lkp M e.1 with
    | none => rw [hm] at this; cases this
    | some m => rw [hm] at this; exact congrArg (fun z : kE3 => z.2.2) (Option.some.inj this)
def mrgT (T : Nat → Int32) : Nat → Int32 := upd (upd T 3 0) 4 (T 4 + 1)
theorem kst5 {f : Nat → Int32} {v : Int32} : kstore 5 f 0 v = upd f 0 v ∧ kstore 5 f 1 v = upd f 1 v ∧ kstore 5 f 2 v = upd f 2 v ∧ kstore 5 f 3 v = upd f 3 v ∧ kstore 5 f 4 v = upd f 4 v :=
  ⟨kstore_nI (j := 0) f v (by decide) (by decide), kstore_nI (j := 1) f v (by decide) (by decide), kstore_nI (j := 2) f v (by decide) (by decide), kstore_nI (j := 3) f v (by decide) (by decide), kstore_nI (j := 4) f v (by decide) (by decide)⟩
theorem kce5 {f : Nat → Int32} : kcell 5 f 0 = f 0 ∧ kcell 5 f 1 = f 1 ∧ kcell 5 f 2 = f 2 ∧ kcell 5 f 3 = f 3 ∧ kcell 5 f 4 = f 4 :=
  ⟨kcell_nI (j := 0) f (by decide) (by decide), kcell_nI (j := 1) f (by decide) (by decide), kcell_nI (j := 2) f (by decide) (by decide), kcell_nI (j := 3) f (by decide) (by decide), kcell_nI (j := 4) f (by decide) (by decide)⟩
theorem kce4 {f : Nat → Int32} : kcell 4 f 0 = f 0 ∧ kcell 4 f 1 = f 1 ∧ kcell 4 f 2 = f 2 ∧ kcell 4 f 3 = f 3 :=
  ⟨kcell_nI (j := 0) f (by decide) (by decide), kcell_nI (j := 1) f (by decide) (by decide), kcell_nI (j := 2) f (by decide) (by decide), kcell_nI (j := 3) f (by decide) (by decide)⟩
/-- a key taken away -/
def drpS (M C : List kE3) (x : Int32) : List kE3 := if (lkp M x).isSome then kput (x, 0, 1) C else C.filter (fun e => decide (¬ e.1 = x))
theorem erase_flt : ∀ (L : List kE3) (i : Nat) (x : Int32), kSo L → (∀ e, L[i]? = some e → e.1 = x) → i < L.length → L.eraseIdx i = L.filter (fun e => decide (¬ e.1 = x))
  | [], i, x, _, _, h => by simp at h
  | d :: L, 0, x, hs, hx, _ => by
    have e := hx d rfl
    have h1 : decide (¬ d.1 = x) = false := by simp [e]
    have h2 : L.filter (fun e => decide (¬ e.1 = x)) = L := List.filter_eq_self.mpr (fun a ha => by have := (kSo_c hs).1 a ha; rw [e] at this; simpa using k_ne' this)
    rw [List.filter_cons, h1, h2]
    rfl
  | d :: L, i + 1, x, hs, hx, hi => by
    have hi' : i < L.length := by simpa using hi
    have hm : L[i] ∈ L := List.getElem_mem hi'
    have e1 : (L[i]).1 = x := hx _ (by simp [hi'])
    have h1 : decide (¬ d.1 = x) = true := by have := (kSo_c hs).1 _ hm; rw [e1] at this; simpa using k_ne this
    rw [List.eraseIdx_cons_succ, List.filter_cons, h1, if_pos rfl, erase_flt L i x (kSo_c hs).2 (fun e he => hx e (by simpa using he)) hi']
theorem EL_mem {n : Nat} {fk fv fr : Nat → Int32} {j : Nat} (h : j < n) : (fk j, fv j, fr j) ∈ EL n fk fv fr := List.mem_of_getElem? (i := j) (by rw [EL_get, if_pos h])
theorem EL_nil {fk fv fr : Nat → Int32} : EL 0 fk fv fr = [] := rfl
theorem kIv_nil : kIv [] := ⟨List.Pairwise.nil, fun _ h => by cases h⟩
/-- the state behind a merging -/
theorem kXS_mrg {nM : Nat} {fMk fMv fMr : Nat → Int32} {nC : Nat} {gk gv gr fS fT : Nat → Int32} {mS : Nat} {u1 u2 u3 u4 u5 : Nat → Int32} {M C : List kE3} {S T : Nat → Int32} (h : kXS nM fMk fMv fMr nC gk gv gr fS fT mS u1 u2 u3 u4 u5 M C S T)
    {n2 : Nat} {mk2 mv2 mr2 t2 : Nat → Int32} {m2 : Nat} {v1 v2 v3 v4 v5 : Nat → Int32} (hO : EL n2 mk2 mv2 mr2 = gat M C) (ht : ∀ j, j < 5 → t2 j = mrgT fT j) (hg : SG m2 v1 v2 v3 v4 v5 = (sgs (kap (gat M C)) n2 (S 0).toInt).map (sgc (kap (gat M C)))) :
    kXS n2 mk2 mv2 mr2 0 gk gv gr fS t2 m2 v1 v2 v3 v4 v5 (gat M C) [] S (mrgT T) := by
  obtain ⟨⟨⟨hM, hC⟩, ⟨hnM, hnC⟩, ⟨hIM, hIC⟩, hlen⟩, hS, hT, hK, -⟩ := h
  have hn2 : n2 = (gat M C).length := by rw [← hO, EL_len]
  refine ⟨⟨⟨hO, EL_nil⟩, ⟨by omega, by omega⟩, ⟨gat_iv hIM hIC, kIv_nil⟩, by rw [gat_nilC _ (gat_z hIM.1 hIC.1)]; exact hlen⟩, hS, fun j hj => ?_, hK, by rw [hg, ksegs, hn2]⟩
  rw [ht j hj]
  have h4 := hT 4 (by decide)
  simp only [mrgT, upd, h4]
  split
  · rfl
  · split
    · rfl
    · exact hT j hj
/-- what a change leaves to be merged by capacity -/
def mocS (M C : List kE3) (S T : Nat → Int32) : List kE3 × List kE3 × (Nat → Int32) := if (S 1).toInt < C.length then (gat M C, [], mrgT T) else (M, C, T)
