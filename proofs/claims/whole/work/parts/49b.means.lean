/-! ===== doubles and floats: means ===== -/
theorem vf_of64 {r : UInt64} (h : FP.Core.val64 r ≠ .nan) : vf_n64 r := by
  have h1 := (FP.Core.ne_nan r).mp h
  unfold vf_n64
  rw [UInt64.le_iff_toNat_le, UInt64.toNat_and, show (0x7fffffffffffffff : UInt64).toNat = 2 ^ 63 - 1 from rfl, Nat.and_two_pow_sub_one_eq_mod, show (0x7ff0000000000000 : UInt64).toNat = 9218868437227405312 from rfl]
  exact h1
theorem DI_nan {i : Int} {a : UInt64} (h : FP.Core.DInt i a) : FP.Core.val64 a ≠ .nan := by
  intro z
  unfold FP.Core.DInt at h
  rw [z] at h
  exact h
theorem DI_0 : FP.Core.DInt ((0 : Nat) : Int) FP.dconst0 := by
  show FP.Core.Whole 0 (FP.Core.val64 FP.dconst0)
  rw [show FP.Core.val64 FP.dconst0 = .fin false 0 FP.Core.b64.qmin from by decide +kernel]
  rw [FP.Core.Whole]; simp [FP.Core.signed]
theorem DI_nI {n : Nat} (h : n < 2 ^ 31) : FP.Core.DInt ((n : Nat) : Int) (FP.i2d (nI n)) := by
  have := FP.Core.i2d_int (nI n)
  rwa [nI_toInt h] at this
theorem DI_add {a b : Nat} {d : UInt64} (hd : FP.Core.DInt ((a : Nat) : Int) d) (ha : a ≤ 100000) (hb : b ≤ 100000) : FP.Core.DInt ((a + b : Nat) : Int) (FP.dadd d (FP.i2d (nI b))) := by
  rw [Int.natCast_add]
  exact FP.Core.dadd_int hd (DI_nI (by omega)) (by omega)
theorem DI_eq {a : Nat} {d : UInt64} (hd : FP.Core.DInt ((a : Nat) : Int) d) (ha : 0 < a ∧ a ≤ 100000) : d = FP.i2d (nI a) :=
  FP.Core.val64_inj (DI_nan hd) (FP.Core.whole_unique FP.Core.good_b64 (i := ((a : Nat) : Int)) (by omega) hd (DI_nI (by omega)) (FP.Core.val64_fits _) (FP.Core.val64_fits _))
theorem quo_nan {f : FP.Core.Fmt} {x y : FP.Core.Datum} {j : Int} (hx : x ≠ .nan) (hy : FP.Core.Whole j y) (hj : j ≠ 0) : FP.Core.quotient f x y ≠ .nan := by
  cases y with
  | nan => exact hy.elim
  | inf s => exact hy.elim
  | fin t d r =>
    have hd : ¬ d = 0 := fun z => hj ((FP.Core.whole_zero hy).mp z)
    cases x with
    | nan => exact absurd rfl hx
    | inf s => exact fun z => FP.Core.Datum.noConfusion z
    | fin s c q =>
      rw [FP.Core.quotient, if_neg hd]
      exact FP.Core.roundRatio_ne_nan _ _ _ _ _
theorem ddiv_fin {d : UInt64} {a n : Nat} (hd : FP.Core.DInt ((a : Nat) : Int) d) (hn : 0 < n ∧ n < 2 ^ 31) : vf_n64 (FP.ddiv d (FP.i2d (nI n))) := by
  refine vf_of64 ?_
  rw [show FP.Core.val64 (FP.ddiv d (FP.i2d (nI n))) = _ from FP.Core.val64_ddiv _ _]
  exact quo_nan (DI_nan hd) (DI_nI hn.2) (by omega)
theorem ddiv_val {a n : Nat} (ha : a ≤ 100000) (hn : 0 < n ∧ n < 2 ^ 31) : FP.Core.val64 (FP.ddiv (FP.i2d (nI a)) (FP.i2d (nI n))) ≠ .nan := by
  rw [show FP.Core.val64 (FP.ddiv (FP.i2d (nI a)) (FP.i2d (nI n))) = _ from FP.Core.val64_ddiv _ _]
  exact quo_nan (DI_nan (DI_nI (by omega))) (DI_nI hn.2) (by omega)
theorem rnd_nan {f : FP.Core.Fmt} {x : FP.Core.Datum} (h : x ≠ .nan) : FP.Core.round f x ≠ .nan := by
  cases x with
  | nan => exact absurd rfl h
  | inf s => exact fun z => FP.Core.Datum.noConfusion z
  | fin s c q => exact FP.Core.roundRatio_ne_nan _ _ _ _ _
theorem i2f_nan (x : Int32) : FP.Core.val32 (FP.i2f x) ≠ .nan := by
  rw [show FP.Core.val32 (FP.i2f x) = _ from FP.Core.val32_i2f x]
  exact rnd_nan (fun z => FP.Core.Datum.noConfusion z)
theorem fdiv_val {x y : Int32} (hy : 0 < y.toInt ∧ y.toInt ≤ 1000) : FP.Core.val32 (FP.fdiv (FP.i2f x) (FP.i2f y)) ≠ .nan := by
  rw [show FP.Core.val32 (FP.fdiv (FP.i2f x) (FP.i2f y)) = _ from FP.Core.val32_fdiv _ _]
  exact quo_nan (i2f_nan x) (FP.Core.i2f_int (a := y) (by omega)) (by omega)
theorem vf_of32 {r : UInt32} (h : FP.Core.val32 r ≠ .nan) : vf_n32 r := by
  have h1 : ¬ FP.Core.fIsNaN r = true := fun z => h ((FP.Core.fIsNaN_iff r).mp z)
  have h2 : ¬ FP.Core.infBits FP.Core.b32 < FP.Core.mag FP.Core.b32 r.toNat := fun z => h ((FP.Core.decode_nan r.toNat).mpr z)
  unfold vf_n32
  rw [UInt32.le_iff_toNat_le, UInt32.toNat_and, show (0x7fffffff : UInt32).toNat = 2 ^ 31 - 1 from rfl, Nat.and_two_pow_sub_one_eq_mod, show (0x7f800000 : UInt32).toNat = FP.Core.infBits FP.Core.b32 from by decide +kernel]
  exact Nat.le_of_not_lt h2
theorem f2d_val {r : UInt32} (h : FP.Core.val32 r ≠ .nan) : FP.Core.val64 (FP.f2d r) ≠ .nan := by
  have h1 : ¬ FP.Core.fIsNaN r = true := fun z => h ((FP.Core.fIsNaN_iff r).mp z)
  rw [FP.f2d, if_neg h1, FP.Core.val64_f2d]
  exact rnd_nan h
/-- the sum of the windows' positions -/
def wsm (κ : Nat → Int) (L : List (Nat × Nat × Nat × Nat)) (β : Int) : Nat → Nat
  | 0 => 0
  | p + 1 => wsm κ L β p + (PHI κ L β (kI (κ p)) - PLO κ L β (kI (κ p)) + 1)
def mwK (M : List kE3) : Int32 := if M.length = 0 then 1 else 0
def mwV (M : List kE3) (S : Nat → Int32) : UInt64 := FP.ddiv (FP.i2d (nI (wsm (kap M) (ksegs M S) (S 0).toInt M.length))) (FP.i2d (nI M.length))
def mpK (T : Nat → Int32) : Int32 := if T 0 = 0 then 1 else 0
def mpV (T : Nat → Int32) : UInt32 := FP.fdiv (FP.i2f (T 1)) (FP.i2f (T 0))
theorem wsm_le {M : List kE3} {S : Nat → Int32} (hI : kIv M) (hn : M.length ≤ 160) (hS : kSt S) : ∀ p, p ≤ M.length → p ≤ wsm (kap M) (ksegs M S) (S 0).toInt p ∧ wsm (kap M) (ksegs M S) (S 0).toInt p ≤ 18 * p
  | 0, _ => ⟨Nat.le_refl 0, Nat.zero_le _⟩
  | p + 1, h => by
    obtain ⟨h1, h2⟩ := wsm_le hI hn hS p (by omega)
    obtain ⟨lo, hi, e1, e2, h3, h4, -⟩ := win_ok hI hn hS (by omega) (kI (kap M p))
    rw [wsm, e1 (), e2 ()]
    omega
theorem wsm_s {M : List kE3} {S : Nat → Int32} {p lo hi : Nat} (e1 : Unit → PLO (kap M) (ksegs M S) (S 0).toInt (kI (kap M p)) = lo) (e2 : Unit → PHI (kap M) (ksegs M S) (S 0).toInt (kI (kap M p)) = hi) : wsm (kap M) (ksegs M S) (S 0).toInt (p + 1) = wsm (kap M) (ksegs M S) (S 0).toInt p + (hi - lo + 1) := by rw [wsm, e1 (), e2 ()]
theorem nm_u {α : Type} (a : α) : ∃ z, (Unit → a = z) := ⟨a, fun _ => rfl⟩
section
variable {p : Program} {l : Launch} {e : Env} {R : Room} {s : State} {m : MethodId} {args : Array Value} {below : List Frame} {meth : Method} {c : Code} {H : Heap} {locs : List Loc} {cells slots : Nat}
variable {g : kG} {A : Nat → Prop} {w1 ws : va_W} {pc : Nat} {ls : Array Slot} {cc : ByteArray} {k : Nat}
theorem kretd {post : UInt64 → va_W → Prop} {v : UInt64} (hx : p.tables.exec = Jvm.exec) (hb : c.code = cc) (hr : meth.sig.returnType = some .double) (hlk : meth.locks = false) (hK : va_K g.1 vwCl (kTy g) s) (hP : va_P g.1 vwCl w1 H) (hD : va_D A w1) (hS : va_S A s.heap H locs) (hlen : w1.length = k) (hdg : decode cc pc = .ok (.dreturn, 1)) (hp : post v w1) : W p l e R s m args below meth c H locs 0 0 (kQd g k A post below args s) (F0 m pc ls [.double v]) :=
  W.dret hx hb hr (fun t ht hW => ⟨⟨v, w1, rfl, hp, hlen, by rw [ht]; exact hP, va_K.moved hW.alike hK, hD⟩, hS.F ht⟩) hS.2.2 hdg hlk
theorem kretf {post : UInt32 → va_W → Prop} {v : UInt32} (hx : p.tables.exec = Jvm.exec) (hb : c.code = cc) (hr : meth.sig.returnType = some .float) (hlk : meth.locks = false) (hK : va_K g.1 vwCl (kTy g) s) (hP : va_P g.1 vwCl w1 H) (hD : va_D A w1) (hS : va_S A s.heap H locs) (hlen : w1.length = k) (hdg : decode cc pc = .ok (.freturn, 1)) (hp : post v w1) : W p l e R s m args below meth c H locs 0 0 (kQf g k A post below args s) (F0 m pc ls [.float v]) :=
  W.fret hx hb hr (fun t ht hW => ⟨⟨v, w1, rfl, hp, hlen, by rw [ht]; exact hP, va_K.moved hW.alike hK, hD⟩, hS.F ht⟩) hS.2.2 hdg hlk
end

