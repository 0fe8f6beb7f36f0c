/-! ===== the base of all contracts: one context, one environment, contracts by the answer's type, calls with the world put back ===== -/
abbrev kG : Type := va_G × (ClassId × ClassId × ClassId × ClassId) × (Nat × Nat × Nat)
abbrev kTy (g : kG) : List (ClassId × FieldType) := [(g.2.1.1, .int), (g.2.1.2.1, .char), (g.2.1.2.2.1, .long), (g.2.1.2.2.2, .double)]
/-- the links between nest mates -/
def kNw : List Cond := [
  .methodLinkNest "LearnedIndex" 42 ⟨"LearnedIndex$Run", "<init>", "()V"⟩ "LearnedIndex",
  .methodLinkNest "LearnedIndex" 53 ⟨"LearnedIndex$Search", "<init>", "()V"⟩ "LearnedIndex",
  .fieldLinkNest "LearnedIndex" 77 "LearnedIndex$Entries" "size" "I" "LearnedIndex",
  .fieldLinkNest "LearnedIndex" 88 "LearnedIndex$State" "changes" "LLearnedIndex$Entries;" "LearnedIndex",
  .fieldLinkNest "LearnedIndex" 113 "LearnedIndex$State" "main" "LLearnedIndex$Entries;" "LearnedIndex",
  .fieldLinkNest "LearnedIndex" 120 "LearnedIndex$Segments" "size" "I" "LearnedIndex",
  .fieldLinkNest "LearnedIndex" 121 "LearnedIndex$State" "tallies" "[I" "LearnedIndex",
  .fieldLinkNest "LearnedIndex" 178 "LearnedIndex$State" "settings" "[I" "LearnedIndex",
  .fieldLinkNest "LearnedIndex" 183 "LearnedIndex$Segments" "firsts" "[I" "LearnedIndex",
  .fieldLinkNest "LearnedIndex" 186 "LearnedIndex$Segments" "lasts" "[I" "LearnedIndex",
  .fieldLinkNest "LearnedIndex" 189 "LearnedIndex$Segments" "firstKeys" "[I" "LearnedIndex",
  .fieldLinkNest "LearnedIndex" 192 "LearnedIndex$Segments" "numerators" "[I" "LearnedIndex",
  .fieldLinkNest "LearnedIndex" 195 "LearnedIndex$Segments" "denominators" "[I" "LearnedIndex",
  .fieldLinkNest "LearnedIndex" 211 "LearnedIndex$Search" "prediction" "I" "LearnedIndex",
  .fieldLinkNest "LearnedIndex" 214 "LearnedIndex$Search" "low" "I" "LearnedIndex",
  .fieldLinkNest "LearnedIndex" 217 "LearnedIndex$Search" "high" "I" "LearnedIndex",
  .fieldLinkNest "LearnedIndex" 241 "LearnedIndex$Run" "last" "I" "LearnedIndex",
  .fieldLinkNest "LearnedIndex" 260 "LearnedIndex$Search" "probed" "I" "LearnedIndex",
  .fieldLinkNest "LearnedIndex" 270 "LearnedIndex$Input" "length" "I" "LearnedIndex",
  .fieldLinkNest "LearnedIndex" 283 "LearnedIndex$Input" "at" "I" "LearnedIndex",
  .fieldLinkNest "LearnedIndex" 291 "LearnedIndex$Input" "entries" "I" "LearnedIndex",
  .fieldLinkNest "LearnedIndex" 322 "LearnedIndex$Search" "pages" "I" "LearnedIndex",
  .fieldLinkNest "LearnedIndex" 336 "LearnedIndex$Input" "keys" "[I" "LearnedIndex",
  .fieldLinkNest "LearnedIndex" 339 "LearnedIndex$Input" "values" "[I" "LearnedIndex",
  .methodLinkNest "LearnedIndex$Entries" 25 ⟨"LearnedIndex", "cell", "([II)I"⟩ "LearnedIndex",
  .methodLinkNest "LearnedIndex$Entries" 53 ⟨"LearnedIndex", "copyRow", "([I[II)V"⟩ "LearnedIndex",
  .methodLinkNest "LearnedIndex$Entries" 67 ⟨"LearnedIndex", "store", "([III)V"⟩ "LearnedIndex",
  .methodLinkNest "LearnedIndex$Input" 28 ⟨"LearnedIndex", "store", "([III)V"⟩ "LearnedIndex",
  .methodLinkNest "LearnedIndex$Input" 38 ⟨"LearnedIndex", "cell", "([II)I"⟩ "LearnedIndex",
  .fieldLinkNest "LearnedIndex$Run" 27 "LearnedIndex$Entries" "size" "I" "LearnedIndex",
  .fieldLinkNest "LearnedIndex$Search" 21 "LearnedIndex$Segments" "size" "I" "LearnedIndex",
  .fieldLinkNest "LearnedIndex$Search" 26 "LearnedIndex$Segments" "firsts" "[I" "LearnedIndex",
  .methodLinkNest "LearnedIndex$Search" 30 ⟨"LearnedIndex", "cell", "([II)I"⟩ "LearnedIndex",
  .fieldLinkNest "LearnedIndex$Search" 34 "LearnedIndex$Segments" "lasts" "[I" "LearnedIndex",
  .fieldLinkNest "LearnedIndex$Search" 37 "LearnedIndex$Segments" "numerators" "[I" "LearnedIndex",
  .fieldLinkNest "LearnedIndex$Search" 40 "LearnedIndex$Segments" "firstKeys" "[I" "LearnedIndex",
  .fieldLinkNest "LearnedIndex$Search" 43 "LearnedIndex$Segments" "denominators" "[I" "LearnedIndex",
  .fieldLinkNest "LearnedIndex$Segments" 31 "LearnedIndex$Entries" "size" "I" "LearnedIndex",
  .methodLinkNest "LearnedIndex$Segments" 40 ⟨"LearnedIndex", "store", "([III)V"⟩ "LearnedIndex",
  .fieldLinkNest "LearnedIndex$Segments" 44 "LearnedIndex$Run" "last" "I" "LearnedIndex",
  .fieldLinkNest "LearnedIndex$Segments" 51 "LearnedIndex$Run" "numerator" "I" "LearnedIndex",
  .fieldLinkNest "LearnedIndex$Segments" 54 "LearnedIndex$Run" "denominator" "I" "LearnedIndex",
  .methodLinkNest "LearnedIndex$Segments" 57 ⟨"LearnedIndex", "cell", "([II)I"⟩ "LearnedIndex",
  .fieldLinkNest "LearnedIndex$State" 28 "LearnedIndex" "FIRST_SETTINGS" "[I" "LearnedIndex",
  .methodLinkNest "LearnedIndex$State" 31 ⟨"LearnedIndex", "copyRow", "([I[II)V"⟩ "LearnedIndex",
  .methodLinkNest "LearnedIndex$State" 35 ⟨"LearnedIndex", "cell", "([II)I"⟩ "LearnedIndex",
  .methodLinkNest "LearnedIndex$State" 39 ⟨"LearnedIndex", "store", "([III)V"⟩ "LearnedIndex"]
def kFirst : Nat → Int32 := fun j => match j with | 0 => 2 | 1 => 8 | 2 => 4 | _ => 0
def kLeast : Nat → Int32 := fun j => match j with | 0 => 1 | 1 => 1 | 2 => 1 | _ => 0
def kGreatest : Nat → Int32 := fun j => match j with | 0 => 8 | 1 => 20 | 2 => 16 | _ => 9
/-- a static row of the class -/
def kRow (n : String) (t : Nat) (f : Nat → Int32) (A : Nat → Prop) (U : State) (H : Heap) : Prop := va_Z "LearnedIndex" n "[I" (.ref t) A U H ∧ va_T .int t 4 (fun j => .int (f j)) A U H
/-- what a throw and its catching may use of the tables: words that the tables alone decide, the texts, what isn't castable -/
def kIAE : String := "java/lang/IllegalArgumentException"
def kISE : String := "java/lang/IllegalStateException"
def kNSE : String := "java/util/NoSuchElementException"
def kIOB : String := "java/lang/IndexOutOfBoundsException"
def kARE : String := "java/lang/ArithmeticException"
def kXw : List Cond := [.castable "java/lang/IllegalArgumentException" "java/lang/IllegalArgumentException", .castable "java/lang/IllegalStateException" "java/lang/IllegalStateException", .castable "java/util/NoSuchElementException" "java/util/NoSuchElementException",
  .castable "java/lang/IndexOutOfBoundsException" "java/lang/IndexOutOfBoundsException", .castable "java/lang/ArithmeticException" "java/lang/ArithmeticException",
  .declares (Bundle.initS "java/lang/RuntimeException"), .declares (Bundle.initS "java/lang/Exception"), .declares (Bundle.initS "java/lang/Throwable")]
def kXt : List (Nat × String) := [(100, "the index does not contain the key"), (130, "there is no such count"), (146, "there is no key of this rank"), (155, "there is no key on this side"), (160, "there is no such position"), (162, "there is no such change"), (167, "a change has no such part"), (176, "there is no such setting or value"), (181, "there is no such segment"), (198, "a segment has no such number"), (206, "a prediction has no such number"), (235, "the bound is out of range"), (247, "the number of segments is negative"), (255, "there is no such bound"), (265, "the main part is empty"), (268, "there were no lookups"), (273, "the input buffer is full"), (289, "there would be too many entries"), (301, "nothing was saved"), (303, "there is no such key"), (83, "the index is full")]
def kX (U : State) : Prop := (∀ w ∈ kXw, w.before #[] U = true) ∧ (∀ q ∈ kXt, ∃ a, vk_R "LearnedIndex" q.1 q.2 a U) ∧ va_Nc kISE kIAE U ∧ va_Nc kNSE kIAE U ∧ va_Nc kIAE kIOB U
theorem kXw_ok : ∀ w ∈ kXw, w.onTables = true ∧ w.faceAtom = true := by
  intro w hw
  have h := List.all_eq_true.mp (show kXw.all (fun w => w.onTables && w.faceAtom) = true by decide +kernel) w hw
  exact Bool.and_eq_true_iff.mp h
theorem kX.warm {s U : State} (hW : s.WarmedH U.vm) (h : kX s) : kX U := by
  obtain ⟨h1, h2, h3, h4, h5⟩ := h
  refine ⟨fun w hw => ?_, fun q hq => ?_, va_Nc.moved hW.alike h3, va_Nc.moved hW.alike h4, va_Nc.moved hW.alike h5⟩
  · have g := kXw_ok w hw
    exact va_tabs g.1 (u := s.setVm U.vm) rfl (Cond.faceAtom_setVm hW.alike w g.2 (h1 w hw))
  · obtain ⟨a, ha⟩ := h2 q hq
    exact ⟨a, vk_R.warm hW ha⟩
theorem kX.same {u U : State} (hv : u.vm = U.vm) (h : kX u) : kX U := by
  obtain ⟨h1, h2, h3, h4, h5⟩ := h
  have ha : u.vm.Alike U.vm := by rw [hv]; exact Vm.Alike.refl _
  refine ⟨fun w hw => va_tabs (kXw_ok w hw).1 hv (h1 w hw), fun q hq => ?_, va_Nc.moved ha h3, va_Nc.moved ha h4, va_Nc.moved ha h5⟩
  obtain ⟨a, hq2⟩ := h2 q hq
  exact ⟨a, vk_R.same hv.symm hq2⟩
/-- what every method may use of the tables and the statics -/
def kEnv (g : kG) (A : Nat → Prop) (U : State) (H : Heap) : Prop :=
  (∀ w ∈ kNw, va_Nw w U) ∧ (kRow "FIRST_SETTINGS" g.2.2.1 kFirst A U H ∧ kRow "LEAST_SETTINGS" g.2.2.2.1 kLeast A U H ∧ kRow "GREATEST_SETTINGS" g.2.2.2.2 kGreatest A U H) ∧
  vx_Zq Bundle.tN "UNASSIGNED_STACK" Bundle.steD A U H ∧ vx_Zq Bundle.tN "SUPPRESSED_SENTINEL" Bundle.listD A U H ∧ kX U
theorem kNw_warm {s U : State} (hW : s.WarmedH U.vm) (h : ∀ w ∈ kNw, va_Nw w s) : ∀ w ∈ kNw, va_Nw w U := by
  intro w hw
  have h1 := h w hw
  simp only [kNw, List.mem_cons, List.not_mem_nil, or_false] at hw
  rcases hw with rfl | rfl | rfl | rfl | rfl | rfl | rfl | rfl | rfl | rfl | rfl | rfl | rfl | rfl | rfl | rfl | rfl | rfl | rfl | rfl | rfl | rfl | rfl | rfl | rfl | rfl | rfl | rfl | rfl | rfl | rfl | rfl | rfl | rfl | rfl | rfl | rfl | rfl | rfl | rfl | rfl | rfl | rfl | rfl | rfl | rfl | rfl <;> first | exact va_Nw.warmF hW h1 | exact va_Nw.warmM hW h1
theorem kNw_same {u U : State} (hv : u.vm = U.vm) (h : ∀ w ∈ kNw, va_Nw w u) : ∀ w ∈ kNw, va_Nw w U := by
  intro w hw
  have h1 := h w hw
  simp only [kNw, List.mem_cons, List.not_mem_nil, or_false] at hw
  rcases hw with rfl | rfl | rfl | rfl | rfl | rfl | rfl | rfl | rfl | rfl | rfl | rfl | rfl | rfl | rfl | rfl | rfl | rfl | rfl | rfl | rfl | rfl | rfl | rfl | rfl | rfl | rfl | rfl | rfl | rfl | rfl | rfl | rfl | rfl | rfl | rfl | rfl | rfl | rfl | rfl | rfl | rfl | rfl | rfl | rfl | rfl | rfl <;> exact va_Nw.same rfl hv h1
theorem kRow.go {n : String} {t : Nat} {f : Nat → Int32} {A B : Nat → Prop} {s U : State} {H0 H : Heap} (h : kRow n t f A s H0) (hvm : s.vm.Alike U.vm) (hq : ∀ a : Nat, a < H0.size → ¬ A a → H[a]? = H0[a]?) (hB : ∀ q, B q → A q) : kRow n t f B U H :=
  ⟨va_Z.narrow (va_Z.kept (va_Z.moved hvm h.1) hq) hB, va_T.narrow (va_T.kept (va_T.moved hvm h.2) hq) hB⟩
theorem kEnv.go {g : kG} {A B : Nat → Prop} {s U : State} {H0 H : Heap} (h : kEnv g A s H0) (hW : s.WarmedH U.vm) (hq : ∀ a : Nat, a < H0.size → ¬ A a → H[a]? = H0[a]?) (hB : ∀ q, B q → A q) : kEnv g B U H := by
  obtain ⟨h1, ⟨h2, h3, h4⟩, h5, h6, h7⟩ := h
  exact ⟨kNw_warm hW h1, ⟨h2.go hW.alike hq hB, h3.go hW.alike hq hB, h4.go hW.alike hq hB⟩, vx_Zq.narrow (vx_Zq.kept (vx_Zq.moved hW.alike h5) hq) hB, vx_Zq.narrow (vx_Zq.kept (vx_Zq.moved hW.alike h6) hq) hB, kX.warm hW h7⟩
theorem kEnv.same {g : kG} {A : Nat → Prop} {u U : State} {H : Heap} (h : kEnv g A u H) (hv : u.vm = U.vm) : kEnv g A U H := by
  obtain ⟨h1, ⟨h2, h3, h4⟩, h5, h6, h7⟩ := h
  have ha : u.vm.Alike U.vm := by rw [hv]; exact Vm.Alike.refl _
  exact ⟨kNw_same hv h1, ⟨h2.go ha (fun _ _ _ => rfl) (fun _ x => x), h3.go ha (fun _ _ _ => rfl) (fun _ x => x), h4.go ha (fun _ _ _ => rfl) (fun _ x => x)⟩, vx_Zq.moved ha h5, vx_Zq.moved ha h6, kX.same hv h7⟩
/-- a method's start: the cells that it may touch, apart -/
def kPre (g : kG) (av : List Value) (ws : va_W) (sz : Nat) : Array Value → State → Prop := va_Pc av (fun U => U.heap.size = sz ∧ va_P g.1 vwCl ws U.heap ∧ va_K g.1 vwCl (kTy g) U ∧ va_D (fun _ => True) ws ∧ kEnv g (va_A ws sz) U U.heap)
/-- the world behind it: as many cells -/
def kB (g : kG) (n : Nat) (A : Nat → Prop) (w1 : va_W) (t : State) : Prop := w1.length = n ∧ va_P g.1 vwCl w1 t.heap ∧ va_K g.1 vwCl (kTy g) t ∧ va_D A w1
def KV (l : Launch) (y : MethodName) (w : List Cond) (rm : Room) (g : kG) (av : List Value) (ws : va_W) (post : va_W → Prop) : Prop := ∀ sz : Nat, Met l y w rm (kPre g av ws sz) (va_Qv post (kB g ws.length (va_A ws sz)) (va_A ws sz)) 0 0 (va_A ws sz)
def KI (l : Launch) (y : MethodName) (w : List Cond) (rm : Room) (g : kG) (av : List Value) (ws : va_W) (post : Int32 → va_W → Prop) : Prop := ∀ sz : Nat, Met l y w rm (kPre g av ws sz) (va_Qi post (kB g ws.length (va_A ws sz)) (va_A ws sz)) 0 0 (va_A ws sz)
def KL (l : Launch) (y : MethodName) (w : List Cond) (rm : Room) (g : kG) (av : List Value) (ws : va_W) (post : Int64 → va_W → Prop) : Prop := ∀ sz : Nat, Met l y w rm (kPre g av ws sz) (va_Ql post (kB g ws.length (va_A ws sz)) (va_A ws sz)) 0 0 (va_A ws sz)
def KF (l : Launch) (y : MethodName) (w : List Cond) (rm : Room) (g : kG) (av : List Value) (ws : va_W) (post : UInt32 → va_W → Prop) : Prop := ∀ sz : Nat, Met l y w rm (kPre g av ws sz) (va_Qf post (kB g ws.length (va_A ws sz)) (va_A ws sz)) 0 0 (va_A ws sz)
def KD (l : Launch) (y : MethodName) (w : List Cond) (rm : Room) (g : kG) (av : List Value) (ws : va_W) (post : UInt64 → va_W → Prop) : Prop := ∀ sz : Nat, Met l y w rm (kPre g av ws sz) (va_Qd post (kB g ws.length (va_A ws sz)) (va_A ws sz)) 0 0 (va_A ws sz)
def KR (l : Launch) (y : MethodName) (w : List Cond) (rm : Room) (g : kG) (av : List Value) (ws : va_W) (q : Nat) (post : va_W → Prop) : Prop := ∀ sz : Nat, Met l y w rm (kPre g av ws sz) (va_Qr post (fun w1 a t => a = q ∧ kB g ws.length (va_A ws sz) w1 t) (va_A ws sz)) 0 0 (va_A ws sz)
theorem kPre.blind {g : kG} {av : List Value} {ws : va_W} {sz : Nat} : FrameBlind (kPre g av ws sz) := fun a U gg mk q => by
  obtain ⟨q0, q1, qP, qK, qD, qE⟩ := q
  exact ⟨q0, q1, qP, va_K.moved (u := U) (U := U.calling gg mk a) (Vm.Alike.refl U.vm) qK, qD, kEnv.same (u := U) (U := U.calling gg mk a) qE rfl⟩
/-- cells put back at their places -/
def kPick (x : Nat × va_E) (k : Nat) : List Nat → va_W → Nat × va_E
  | i :: is, q :: qs => cond (Nat.beq k i) q (kPick x k is qs)
  | _, _ => x
def kMrgF (is : List Nat) (qs : va_W) : Nat → va_W → va_W
  | _, [] => []
  | k, x :: ws => kPick x k is qs :: kMrgF is qs (k + 1) ws
def kMrg (ws : va_W) (is : List Nat) (qs : va_W) : va_W := kMrgF is qs 0 ws
theorem kMrgF_len (is : List Nat) (qs : va_W) : ∀ (ws : va_W) (k : Nat), (kMrgF is qs k ws).length = ws.length
  | [], _ => rfl
  | _ :: ws, k => by simp [kMrgF, kMrgF_len is qs ws (k + 1)]
theorem kMrg_len (is : List Nat) (qs ws : va_W) : (kMrg ws is qs).length = ws.length := kMrgF_len is qs ws 0
theorem kPick_at (x : Nat × va_E) (k : Nat) : ∀ (is : List Nat) (qs : va_W), is.length = qs.length → (∃ j : Nat, qs[j]? = some (kPick x k is qs) ∧ is[j]? = some k) ∨ (kPick x k is qs = x ∧ k ∉ is)
  | [], [], _ => Or.inr ⟨rfl, List.not_mem_nil⟩
  | [], _ :: _, h => by simp at h
  | _ :: _, [], h => by simp at h
  | i :: is, q :: qs, h => by
    by_cases e : k = i
    · have h1 : Nat.beq k i = true := Nat.beq_eq ▸ e
      refine Or.inl ⟨0, ?_, by simp [e]⟩
      simp [kPick, h1]
    · have h1 : Nat.beq k i = false := by
        cases hb : Nat.beq k i with
        | false => rfl
        | true => exact absurd (Nat.eq_of_beq_eq_true hb) e
      have h2 : kPick x k (i :: is) (q :: qs) = kPick x k is qs := by simp [kPick, h1]
      rw [h2]
      rcases kPick_at x k is qs (by simpa using h) with ⟨j, h3, h4⟩ | ⟨h3, h4⟩
      · exact Or.inl ⟨j + 1, by simpa using h3, by simpa using h4⟩
      · exact Or.inr ⟨h3, by simp [e, h4]⟩
theorem kMrgF_at (is : List Nat) (qs : va_W) : ∀ (ws : va_W) (k0 k : Nat), (kMrgF is qs k0 ws)[k]? = (ws[k]?).map (fun x => kPick x (k0 + k) is qs)
  | [], _, _ => by simp [kMrgF]
  | x :: ws, k0, 0 => by simp [kMrgF]
  | x :: ws, k0, k + 1 => by
    rw [kMrgF, List.getElem?_cons_succ, kMrgF_at is qs ws (k0 + 1) k, List.getElem?_cons_succ, show k0 + 1 + k = k0 + (k + 1) by omega]
theorem kMrg_at (is : List Nat) (qs ws : va_W) (hl : is.length = qs.length) (k : Nat) (q : Nat × va_E) (h : (kMrg ws is qs)[k]? = some q) : (∃ j : Nat, qs[j]? = some q ∧ is[j]? = some k) ∨ (ws[k]? = some q ∧ k ∉ is) := by
  rw [kMrg, kMrgF_at, Nat.zero_add] at h
  cases hw : ws[k]? with
  | none => rw [hw] at h; cases h
  | some x =>
    rw [hw] at h
    have h1 : kPick x k is qs = q := Option.some.inj h
    rcases kPick_at x k is qs hl with ⟨j, h3, h4⟩ | ⟨h3, h4⟩
    · exact Or.inl ⟨j, by rw [← h1]; exact h3, h4⟩
    · exact Or.inr ⟨by rw [← h1, h3], h4⟩
theorem kMrg_ok {A : Nat → Prop} {D : va_G} {cl : List vw_C} {ws wc w1 : va_W} {H H1 : Heap} (hP : va_P D cl ws H) (hD : va_D A ws) (is : List Nat) (hC : is.map (fun i => ws[i]?) = wc.map some)
    (hk : ∀ q : Nat, q < H.size → ¬ va_A wc H.size q → H1[q]? = H[q]?) (hF : ∀ q, va_A wc H.size q → A q) (hlen : w1.length = wc.length) (hP1 : va_P D cl w1 H1) (hD1 : va_D (va_A wc H.size) w1) : va_P D cl (kMrg ws is w1) H1 ∧ va_D A (kMrg ws is w1) := by
  have hil : is.length = w1.length := by
    have := congrArg List.length hC
    simp at this
    omega
  -- an old cell at a place that isn't the callee's: its address is below the heap's end and none of the callee's
  have old : ∀ (k : Nat) (q : Nat × va_E), ws[k]? = some q → k ∉ is → q.1 < H.size ∧ ¬ va_A wc H.size q.1 := by
    intro k q hq hni
    have hlt := (hP k q hq).lt
    refine ⟨hlt, fun h => ?_⟩
    rcases h with ⟨j, e, hj⟩ | h
    · have h1 : (is.map (fun i => ws[i]?))[j]? = some (some (q.1, e)) := by rw [hC, List.getElem?_map, hj]; rfl
      rw [List.getElem?_map] at h1
      cases hi : is[j]? with
      | none => rw [hi] at h1; cases h1
      | some i =>
        rw [hi] at h1
        have h2 : ws[i]? = some (q.1, e) := Option.some.inj h1
        have h3 : k = i := hD.1 k i q (q.1, e) hq h2 rfl
        exact hni (by rw [h3]; exact List.mem_of_getElem? hi)
    · exact absurd hlt (Nat.not_lt.mpr h)
  refine ⟨fun k q hq => ?_, fun i j p q hp hq hpq => ?_, fun k q hq => ?_⟩
  · rcases kMrg_at is w1 ws hil k q hq with ⟨j, h1, -⟩ | ⟨h1, h2⟩
    · exact hP1 j q h1
    · obtain ⟨a1, a2⟩ := old k q h1 h2
      exact (hP k q h1).kept (hk q.1 a1 a2)
  · rcases kMrg_at is w1 ws hil i p hp with ⟨a, h1, h2⟩ | ⟨h1, h2⟩ <;> rcases kMrg_at is w1 ws hil j q hq with ⟨b, h3, h4⟩ | ⟨h3, h4⟩
    · have := hD1.1 a b p q h1 h3 hpq
      subst this
      rw [h2] at h4
      exact Option.some.inj h4
    · have := (old j q h3 h4).2
      rw [← hpq] at this
      exact absurd (hD1.2 a p h1) this
    · have := (old i p h1 h2).2
      rw [hpq] at this
      exact absurd (hD1.2 b q h3) this
    · exact hD.1 i j p q h1 h3 hpq
  · rcases kMrg_at is w1 ws hil k q hq with ⟨j, h1, -⟩ | ⟨h1, -⟩
    · exact hF _ (hD1.2 j q h1)
    · exact hD.2 k q h1
/-- what a call owes for its callee's start -/
theorem kpreS {g : kG} {s : State} {A : Nat → Prop} {ws wc : va_W} {H : Heap} {locs : List Loc} {As : List Value} (hK : va_K g.1 vwCl (kTy g) s) (hP : va_P g.1 vwCl ws H) (hD : va_D A ws) (hS : va_S A s.heap H locs) (hA : ∀ q, s.heap.size ≤ q → A q) (hE : kEnv g A s s.heap) (is : List Nat) (hn : va_nd is = true) (hC : is.map (fun i => ws[i]?) = wc.map some) : PreS s H (kPre g As wc H.size) As := by
  refine ⟨kPre.blind, fun U hU hW => ⟨rfl, by rw [hU], ?_, va_K.moved hW.alike hK, (hD.sub is hn hC).weaken (fun _ _ _ _ => trivial), ?_⟩⟩
  · rw [hU]
    intro k q hq
    have h1 : (is.map (fun i => ws[i]?))[k]? = some (some q) := by rw [hC, List.getElem?_map, hq]; rfl
    rw [List.getElem?_map] at h1
    cases hi : is[k]? with
    | none => rw [hi] at h1; cases h1
    | some i => rw [hi] at h1; exact hP i q (Option.some.inj h1)
  · rw [hU]
    exact hE.go hW (fun a h1 h2 => hS.2.1 a h1 h2) (va_free hD hS hA is hC)
theorem kpreV {g : kG} {s : State} {A : Nat → Prop} {ws wc : va_W} {H : Heap} {locs : List Loc} {As : List Value} (hK : va_K g.1 vwCl (kTy g) s) (hP : va_P g.1 vwCl ws H) (hD : va_D A ws) (hS : va_S A s.heap H locs) (hA : ∀ q, s.heap.size ≤ q → A q) (hE : kEnv g A s s.heap) (is : List Nat) (hn : va_nd is = true) (hC : is.map (fun i => ws[i]?) = wc.map some)
    {b : Addr} {ci : Nat} {q : vw_C} {fs : List Value} (hr : wc[0]? = some (b, .inr (ci, fs))) (hc : vwCl[ci]? = some q) : PreV s H q.1 b (kPre g (.ref b :: As) wc H.size) As := by
  have hS' := kpreS (As := .ref b :: As) hK hP hD hS hA hE is hn hC
  refine ⟨hS'.1, ?_, hS'.2⟩
  have h1 : (is.map (fun i => ws[i]?))[0]? = some (some (b, .inr (ci, fs))) := by rw [hC, List.getElem?_map, hr]; rfl
  rw [List.getElem?_map] at h1
  cases hi : is[0]? with
  | none => rw [hi] at h1; cases h1
  | some i => rw [hi] at h1; exact va_recv hK hP hc (Option.some.inj h1)
section KCALL
variable {p : Program} {l : Launch} {e : Env} {R : Room} {s : State} {m : MethodId} {args : Array Value} {below : List Frame} {meth : Method} {c : Code} {H : Heap} {locs : List Loc} {cells slots : Nat} {Q : State → Prop}
variable {g : kG} {A : Nat → Prop} {ws wc : va_W} {pc : Nat} {ls : Array Slot} {st0 rest : List Value} {a : Array Value}
theorem kcalli {post : Int32 → va_W → Prop} (is : List Nat) (hr : va_Run p l e R s m args below meth c H locs cells slots 0 0 (F0 m pc ls st0) rest (va_Qi post (kB g wc.length (va_A wc H.size)) (va_A wc H.size) a) (va_A wc H.size)) (hP : va_P g.1 vwCl ws H) (hD : va_D A ws) (hS : va_S A s.heap H locs) (hA : ∀ q, s.heap.size ≤ q → A q) (hC : is.map (fun i => ws[i]?) = wc.map some)
    (kk : ∀ (r : Int32) (w1 : va_W) (H1 : Heap) (locs1 : List Loc), post r w1 → va_P g.1 vwCl (kMrg ws is w1) H1 → va_D A (kMrg ws is w1) → va_S A s.heap H1 locs1 → W p l e R s m args below meth c H1 locs1 cells slots Q (F0 m (pc + 3) ls (.int r :: rest))) : W p l e R s m args below meth c H locs cells slots Q (F0 m pc ls st0) := by
  have hF := va_free hD hS hA is hC
  refine va_calli hr hS (fun q _ h => hF q h) hF (fun r w1 t H1 locs1 ht hvm hw hB hz hk hS1 => ?_)
  obtain ⟨hlen, hP1, hK1, hD1⟩ := hB
  rw [ht] at hP1
  obtain ⟨x1, x2⟩ := kMrg_ok hP hD is hC hk hF hlen hP1 hD1
  exact kk r w1 H1 locs1 hw x1 x2 hS1
theorem kcallv {post : va_W → Prop} (is : List Nat) (hr : va_Run p l e R s m args below meth c H locs cells slots 0 0 (F0 m pc ls st0) rest (va_Qv post (kB g wc.length (va_A wc H.size)) (va_A wc H.size) a) (va_A wc H.size)) (hP : va_P g.1 vwCl ws H) (hD : va_D A ws) (hS : va_S A s.heap H locs) (hA : ∀ q, s.heap.size ≤ q → A q) (hC : is.map (fun i => ws[i]?) = wc.map some)
    (kk : ∀ (w1 : va_W) (H1 : Heap) (locs1 : List Loc), post w1 → va_P g.1 vwCl (kMrg ws is w1) H1 → va_D A (kMrg ws is w1) → va_S A s.heap H1 locs1 → W p l e R s m args below meth c H1 locs1 cells slots Q (F0 m (pc + 3) ls rest)) : W p l e R s m args below meth c H locs cells slots Q (F0 m pc ls st0) := by
  have hF := va_free hD hS hA is hC
  refine va_callv hr hS (fun q _ h => hF q h) hF (fun w1 t H1 locs1 ht hvm hw hB hz hk hS1 => ?_)
  obtain ⟨hlen, hP1, hK1, hD1⟩ := hB
  rw [ht] at hP1
  obtain ⟨x1, x2⟩ := kMrg_ok hP hD is hC hk hF hlen hP1 hD1
  exact kk w1 H1 locs1 hw x1 x2 hS1
theorem kcalll {post : Int64 → va_W → Prop} (is : List Nat) (hr : va_Run p l e R s m args below meth c H locs cells slots 0 0 (F0 m pc ls st0) rest (va_Ql post (kB g wc.length (va_A wc H.size)) (va_A wc H.size) a) (va_A wc H.size)) (hP : va_P g.1 vwCl ws H) (hD : va_D A ws) (hS : va_S A s.heap H locs) (hA : ∀ q, s.heap.size ≤ q → A q) (hC : is.map (fun i => ws[i]?) = wc.map some)
    (kk : ∀ (r : Int64) (w1 : va_W) (H1 : Heap) (locs1 : List Loc), post r w1 → va_P g.1 vwCl (kMrg ws is w1) H1 → va_D A (kMrg ws is w1) → va_S A s.heap H1 locs1 → W p l e R s m args below meth c H1 locs1 cells slots Q (F0 m (pc + 3) ls (.long r :: rest))) : W p l e R s m args below meth c H locs cells slots Q (F0 m pc ls st0) := by
  have hF := va_free hD hS hA is hC
  refine va_calll hr hS (fun q _ h => hF q h) hF (fun r w1 t H1 locs1 ht hvm hw hB hz hk hS1 => ?_)
  obtain ⟨hlen, hP1, hK1, hD1⟩ := hB
  rw [ht] at hP1
  obtain ⟨x1, x2⟩ := kMrg_ok hP hD is hC hk hF hlen hP1 hD1
  exact kk r w1 H1 locs1 hw x1 x2 hS1
theorem kcallf {post : UInt32 → va_W → Prop} (is : List Nat) (hr : va_Run p l e R s m args below meth c H locs cells slots 0 0 (F0 m pc ls st0) rest (va_Qf post (kB g wc.length (va_A wc H.size)) (va_A wc H.size) a) (va_A wc H.size)) (hP : va_P g.1 vwCl ws H) (hD : va_D A ws) (hS : va_S A s.heap H locs) (hA : ∀ q, s.heap.size ≤ q → A q) (hC : is.map (fun i => ws[i]?) = wc.map some)
    (kk : ∀ (r : UInt32) (w1 : va_W) (H1 : Heap) (locs1 : List Loc), post r w1 → va_P g.1 vwCl (kMrg ws is w1) H1 → va_D A (kMrg ws is w1) → va_S A s.heap H1 locs1 → W p l e R s m args below meth c H1 locs1 cells slots Q (F0 m (pc + 3) ls (.float r :: rest))) : W p l e R s m args below meth c H locs cells slots Q (F0 m pc ls st0) := by
  have hF := va_free hD hS hA is hC
  refine va_callf hr hS (fun q _ h => hF q h) hF (fun r w1 t H1 locs1 ht hvm hw hB hz hk hS1 => ?_)
  obtain ⟨hlen, hP1, hK1, hD1⟩ := hB
  rw [ht] at hP1
  obtain ⟨x1, x2⟩ := kMrg_ok hP hD is hC hk hF hlen hP1 hD1
  exact kk r w1 H1 locs1 hw x1 x2 hS1
theorem kcalld {post : UInt64 → va_W → Prop} (is : List Nat) (hr : va_Run p l e R s m args below meth c H locs cells slots 0 0 (F0 m pc ls st0) rest (va_Qd post (kB g wc.length (va_A wc H.size)) (va_A wc H.size) a) (va_A wc H.size)) (hP : va_P g.1 vwCl ws H) (hD : va_D A ws) (hS : va_S A s.heap H locs) (hA : ∀ q, s.heap.size ≤ q → A q) (hC : is.map (fun i => ws[i]?) = wc.map some)
    (kk : ∀ (r : UInt64) (w1 : va_W) (H1 : Heap) (locs1 : List Loc), post r w1 → va_P g.1 vwCl (kMrg ws is w1) H1 → va_D A (kMrg ws is w1) → va_S A s.heap H1 locs1 → W p l e R s m args below meth c H1 locs1 cells slots Q (F0 m (pc + 3) ls (.double r :: rest))) : W p l e R s m args below meth c H locs cells slots Q (F0 m pc ls st0) := by
  have hF := va_free hD hS hA is hC
  refine va_calld hr hS (fun q _ h => hF q h) hF (fun r w1 t H1 locs1 ht hvm hw hB hz hk hS1 => ?_)
  obtain ⟨hlen, hP1, hK1, hD1⟩ := hB
  rw [ht] at hP1
  obtain ⟨x1, x2⟩ := kMrg_ok hP hD is hC hk hF hlen hP1 hD1
  exact kk r w1 H1 locs1 hw x1 x2 hS1
theorem kcallr {post : va_W → Prop} {q0 : Nat} (is : List Nat) (hr : va_Run p l e R s m args below meth c H locs cells slots 0 0 (F0 m pc ls st0) rest (va_Qr post (fun w1 a t => a = q0 ∧ kB g wc.length (va_A wc H.size) w1 t) (va_A wc H.size) a) (va_A wc H.size)) (hP : va_P g.1 vwCl ws H) (hD : va_D A ws) (hS : va_S A s.heap H locs) (hA : ∀ q, s.heap.size ≤ q → A q) (hC : is.map (fun i => ws[i]?) = wc.map some)
    (kk : ∀ (w1 : va_W) (H1 : Heap) (locs1 : List Loc), post w1 → va_P g.1 vwCl (kMrg ws is w1) H1 → va_D A (kMrg ws is w1) → va_S A s.heap H1 locs1 → W p l e R s m args below meth c H1 locs1 cells slots Q (F0 m (pc + 3) ls (.ref q0 :: rest))) : W p l e R s m args below meth c H locs cells slots Q (F0 m pc ls st0) := by
  have hF := va_free hD hS hA is hC
  refine va_callr hr hS (fun q _ h => hF q h) hF (fun w1 ra t H1 locs1 ht hvm hw hB hz hk hS1 => ?_)
  obtain ⟨rfl, hlen, hP1, hK1, hD1⟩ := hB
  rw [ht] at hP1
  obtain ⟨x1, x2⟩ := kMrg_ok hP hD is hC hk hF hlen hP1 hD1
  exact kk w1 H1 locs1 hw x1 x2 hS1
end KCALL
/-- as the kit's own, of a method that no row of the natives stands for (a class of the JDK too) -/
theorem Met_ofWF {l : Launch} {y : MethodName} {ws ws' : List Cond} {rm : Room} {Pc : Array Value → State → Prop} {Qc : Array Value → State → Outcome → State → Prop} {mc ms : Nat} {free : Addr → Prop} {cc : ByteArray} {maxL : Nat} {ret : Option FieldType}
    (hy : plainFor y = true) (hw : ws = Cond.code y cc maxL ret :: ws')
    (body : ∀ p e s m args below meth c s₁, BodyLoose p l y (headSpec ws rm) cc maxL ret e s m args below meth c s₁ → c.maxLocals = maxL → Pc args s →
      W p l e (headSpec ws rm).room s m args below meth c s.heap [] 0 0 (MQ below Qc args s mc ms free) (entryFrame m args maxL)) : Met l y ws rm Pc Qc mc ms free := by
  refine MetFree.of_bodySF (code := cc) (maxLocals := maxL) (ret := ret) hy ?_ ?_
  · intro args s m h hn
    obtain ⟨meth, c, h1, h2, h3, h4, h5, h6, -, -⟩ := Cond.code_spec hn (atoms_spec (ws := ws) h _ (by rw [hw]; exact List.mem_cons_self))
    exact ⟨meth, c, h1, h2, h3, h4, h5, h6⟩
  · intro p e s m args below meth c s₁ B hml hP _
    have hh0 : s₁.heap = s.heap := by rw [B.state]; rfl
    obtain ⟨t, a1, o, b1, b2, b3⟩ := body p e s m args below meth c s₁ B hml hP s₁ hh0 (Stand.of_body B)
    exact ⟨t, o, a1, b1, b2, ⟨b3.1, b3.2⟩⟩
section KBODY
variable {l : Launch} {y : MethodName} {w w' : List Cond} {rm : Room} {g : kG} {av : List Value} {ws : va_W} {cc : ByteArray} {n : Nat}
/-- a body's end: by the answer's type -/
def kQv (g : kG) (k : Nat) (A : Nat → Prop) (post : va_W → Prop) (below : List Frame) (args : Array Value) (s : State) : State → Prop := MQ below (va_Qv post (kB g k A) A) args s 0 0 A
def kQi (g : kG) (k : Nat) (A : Nat → Prop) (post : Int32 → va_W → Prop) (below : List Frame) (args : Array Value) (s : State) : State → Prop := MQ below (va_Qi post (kB g k A) A) args s 0 0 A
def kQl (g : kG) (k : Nat) (A : Nat → Prop) (post : Int64 → va_W → Prop) (below : List Frame) (args : Array Value) (s : State) : State → Prop := MQ below (va_Ql post (kB g k A) A) args s 0 0 A
def kQf (g : kG) (k : Nat) (A : Nat → Prop) (post : UInt32 → va_W → Prop) (below : List Frame) (args : Array Value) (s : State) : State → Prop := MQ below (va_Qf post (kB g k A) A) args s 0 0 A
def kQd (g : kG) (k : Nat) (A : Nat → Prop) (post : UInt64 → va_W → Prop) (below : List Frame) (args : Array Value) (s : State) : State → Prop := MQ below (va_Qd post (kB g k A) A) args s 0 0 A
def kQr (g : kG) (k : Nat) (A : Nat → Prop) (q : Nat) (post : va_W → Prop) (below : List Frame) (args : Array Value) (s : State) : State → Prop := MQ below (va_Qr post (fun w1 a t => a = q ∧ kB g k A w1 t) A) args s 0 0 A
/-- what a body has at its start -/
def kCx (g : kG) (own : String) (w : List Cond) (cc : ByteArray) (n : Nat) (ret : Option FieldType) (av : List Value) (ws : va_W) (p : Program) (s : State) (m : MethodId) (meth : Method) (c : Code) (A : Nat → Prop) (ls : Array Slot) : Prop :=
  p.tables.exec = Jvm.exec ∧ c.code = cc ∧ meth.sig.returnType = ret ∧ c.maxLocals = n ∧ (∀ x ∈ w, x.before av.toArray s = true) ∧ s.vm.findClass own = some m.cls ∧ meth.locks = false ∧ (∀ q, s.heap.size ≤ q → A q) ∧
  va_P g.1 vwCl ws s.heap ∧ va_K g.1 vwCl (kTy g) s ∧ va_D A ws ∧ kEnv g A s s.heap ∧ va_S A s.heap s.heap [] ∧ lv_has ls n (lv_args 0 av)
theorem kbody {Qc : Array Value → State → Outcome → State → Prop} {ret : Option FieldType} (sz : Nat) (hy : plainFor y = true) (hw : w = Cond.code y cc n ret :: w') (hn : Nat.ble (lg_sl av).length n = true)
    (body : ∀ p e s m below meth c A ls, s.heap.size = sz → va_A ws sz = A → kCx g y.cls w cc n ret av ws p s m meth c A ls → W p l e rm s m av.toArray below meth c s.heap [] 0 0 (MQ below Qc av.toArray s 0 0 A) (F0 m 0 ls [])) : Met l y w rm (kPre g av ws sz) Qc 0 0 (va_A ws sz) := by
  refine Met_ofWF (cc := cc) (maxL := n) (ret := ret) hy hw ?_
  intro p e s m args below meth c s₁ B hml hv
  obtain ⟨rfl, hsz, hP, hK, hD0, hE⟩ := hv
  have hl := lv_entry av (n := n) (Nat.le_of_ble_eq_true hn)
  rw [lg_entry_eq]
  refine body p e s m below meth c _ _ hsz rfl ⟨B.exec, B.bytes, B.returns, hml, atoms_spec (ws := w) B.pre, findClass_of_methodNamed B.named, B.notSynchronized, ?_, hP, hK, hD0.self, hE, va_S.rf, hl⟩
  rw [← hsz]
  exact fun q h => Or.inr h
theorem kbodyV {post : va_W → Prop} {ret : Option FieldType} {k : Nat} {own : String} (hy : plainFor y = true) (hw : w = Cond.code y cc n ret :: w') (hn : Nat.ble (lg_sl av).length n = true) (hk : ws.length = k) (hown : y.cls = own)
    (body : ∀ p e s m below meth c A ls, kCx g own w cc n ret av ws p s m meth c A ls → W p l e rm s m av.toArray below meth c s.heap [] 0 0 (kQv g k A post below av.toArray s) (F0 m 0 ls [])) : KV l y w rm g av ws post := by
  subst hk; subst hown
  exact fun sz => kbody sz hy hw hn (fun p e s m below meth c A ls _ hAe h => by rw [hAe]; exact body p e s m below meth c A ls h)
theorem kbodyI {post : Int32 → va_W → Prop} {ret : Option FieldType} {k : Nat} {own : String} (hy : plainFor y = true) (hw : w = Cond.code y cc n ret :: w') (hn : Nat.ble (lg_sl av).length n = true) (hk : ws.length = k) (hown : y.cls = own)
    (body : ∀ p e s m below meth c A ls, kCx g own w cc n ret av ws p s m meth c A ls → W p l e rm s m av.toArray below meth c s.heap [] 0 0 (kQi g k A post below av.toArray s) (F0 m 0 ls [])) : KI l y w rm g av ws post := by
  subst hk; subst hown
  exact fun sz => kbody sz hy hw hn (fun p e s m below meth c A ls _ hAe h => by rw [hAe]; exact body p e s m below meth c A ls h)
theorem kbodyL {post : Int64 → va_W → Prop} {ret : Option FieldType} {k : Nat} {own : String} (hy : plainFor y = true) (hw : w = Cond.code y cc n ret :: w') (hn : Nat.ble (lg_sl av).length n = true) (hk : ws.length = k) (hown : y.cls = own)
    (body : ∀ p e s m below meth c A ls, kCx g own w cc n ret av ws p s m meth c A ls → W p l e rm s m av.toArray below meth c s.heap [] 0 0 (kQl g k A post below av.toArray s) (F0 m 0 ls [])) : KL l y w rm g av ws post := by
  subst hk; subst hown
  exact fun sz => kbody sz hy hw hn (fun p e s m below meth c A ls _ hAe h => by rw [hAe]; exact body p e s m below meth c A ls h)
theorem kbodyF {post : UInt32 → va_W → Prop} {ret : Option FieldType} {k : Nat} {own : String} (hy : plainFor y = true) (hw : w = Cond.code y cc n ret :: w') (hn : Nat.ble (lg_sl av).length n = true) (hk : ws.length = k) (hown : y.cls = own)
    (body : ∀ p e s m below meth c A ls, kCx g own w cc n ret av ws p s m meth c A ls → W p l e rm s m av.toArray below meth c s.heap [] 0 0 (kQf g k A post below av.toArray s) (F0 m 0 ls [])) : KF l y w rm g av ws post := by
  subst hk; subst hown
  exact fun sz => kbody sz hy hw hn (fun p e s m below meth c A ls _ hAe h => by rw [hAe]; exact body p e s m below meth c A ls h)
theorem kbodyD {post : UInt64 → va_W → Prop} {ret : Option FieldType} {k : Nat} {own : String} (hy : plainFor y = true) (hw : w = Cond.code y cc n ret :: w') (hn : Nat.ble (lg_sl av).length n = true) (hk : ws.length = k) (hown : y.cls = own)
    (body : ∀ p e s m below meth c A ls, kCx g own w cc n ret av ws p s m meth c A ls → W p l e rm s m av.toArray below meth c s.heap [] 0 0 (kQd g k A post below av.toArray s) (F0 m 0 ls [])) : KD l y w rm g av ws post := by
  subst hk; subst hown
  exact fun sz => kbody sz hy hw hn (fun p e s m below meth c A ls _ hAe h => by rw [hAe]; exact body p e s m below meth c A ls h)
theorem kbodyR {post : va_W → Prop} {q : Nat} {ret : Option FieldType} {k : Nat} {own : String} (hy : plainFor y = true) (hw : w = Cond.code y cc n ret :: w') (hn : Nat.ble (lg_sl av).length n = true) (hk : ws.length = k) (hown : y.cls = own)
    (body : ∀ p e s m below meth c A ls, kCx g own w cc n ret av ws p s m meth c A ls → W p l e rm s m av.toArray below meth c s.heap [] 0 0 (kQr g k A q post below av.toArray s) (F0 m 0 ls [])) : KR l y w rm g av ws q post := by
  subst hk; subst hown
  exact fun sz => kbody sz hy hw hn (fun p e s m below meth c A ls _ hAe h => by rw [hAe]; exact body p e s m below meth c A ls h)
end KBODY
section KRET
variable {p : Program} {l : Launch} {e : Env} {R : Room} {s : State} {m : MethodId} {args : Array Value} {below : List Frame} {meth : Method} {c : Code} {H : Heap} {locs : List Loc}
variable {g : kG} {A : Nat → Prop} {w1 : va_W} {pc : Nat} {ls : Array Slot} {cc : ByteArray} {k : Nat}
theorem kretv {post : va_W → Prop} (hx : p.tables.exec = Jvm.exec) (hb : c.code = cc) (hr : meth.sig.returnType = none) (hlk : meth.locks = false) (hK : va_K g.1 vwCl (kTy g) s) (hP : va_P g.1 vwCl w1 H) (hD : va_D A w1) (hS : va_S A s.heap H locs) (hlen : w1.length = k) (hdg : decode cc pc = .ok (.return_, 1)) (hp : post w1) : W p l e R s m args below meth c H locs 0 0 (kQv g k A post below args s) (F0 m pc ls []) :=
  W.vret hx hb hr (fun t ht hW => ⟨⟨w1, rfl, hp, hlen, by rw [ht]; exact hP, va_K.moved hW.alike hK, hD⟩, hS.F ht⟩) hS.2.2 hdg hlk
theorem kreti {post : Int32 → va_W → Prop} {v : Int32} (hx : p.tables.exec = Jvm.exec) (hb : c.code = cc) (hr : meth.sig.returnType = some .int) (hlk : meth.locks = false) (hK : va_K g.1 vwCl (kTy g) s) (hP : va_P g.1 vwCl w1 H) (hD : va_D A w1) (hS : va_S A s.heap H locs) (hlen : w1.length = k) (hdg : decode cc pc = .ok (.ireturn, 1)) (hp : post v w1) : W p l e R s m args below meth c H locs 0 0 (kQi g k A post below args s) (F0 m pc ls [.int v]) :=
  W.iret hx hb hr (fun t ht hW => ⟨⟨v, w1, rfl, hp, hlen, by rw [ht]; exact hP, va_K.moved hW.alike hK, hD⟩, hS.F ht⟩) hS.2.2 hdg hlk
theorem kretz {post : Int32 → va_W → Prop} {v : Int32} (hx : p.tables.exec = Jvm.exec) (hb : c.code = cc) (hr : meth.sig.returnType = some .boolean) (hlk : meth.locks = false) (hK : va_K g.1 vwCl (kTy g) s) (hP : va_P g.1 vwCl w1 H) (hD : va_D A w1) (hS : va_S A s.heap H locs) (hlen : w1.length = k) (hdg : decode cc pc = .ok (.ireturn, 1)) (hv : v = 0 ∨ v = 1) (hp : post v w1) : W p l e R s m args below meth c H locs 0 0 (kQi g k A post below args s) (F0 m pc ls [.int v]) :=
  W.zret hx hb hr (by rcases hv with rfl | rfl <;> rfl) (fun t ht hW => ⟨⟨v, w1, rfl, hp, hlen, by rw [ht]; exact hP, va_K.moved hW.alike hK, hD⟩, hS.F ht⟩) hS.2.2 hdg hlk
theorem kretr {post : va_W → Prop} {q : Nat} {rt : FieldType} (hx : p.tables.exec = Jvm.exec) (hb : c.code = cc) (hr : meth.sig.returnType = some rt) (hrt : (∃ n, rt = .object n) ∨ ∃ t, rt = .array t) (hlk : meth.locks = false) (hK : va_K g.1 vwCl (kTy g) s) (hP : va_P g.1 vwCl w1 H) (hD : va_D A w1) (hS : va_S A s.heap H locs) (hlen : w1.length = k) (hdg : decode cc pc = .ok (.areturn, 1)) (hp : post w1) : W p l e R s m args below meth c H locs 0 0 (kQr g k A q post below args s) (F0 m pc ls [.ref q]) :=
  W.aret hx hb hr hrt (Or.inr ⟨q, rfl⟩) (fun t ht hW => ⟨⟨w1, q, rfl, hp, rfl, hlen, by rw [ht]; exact hP, va_K.moved hW.alike hK, hD⟩, hS.F ht⟩) hS.2.2 hdg hlk
end KRET
