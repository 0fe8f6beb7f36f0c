/-! ===== methods that may throw: contracts, bodies, ends, throws, calls ===== -/
def kBX (g : kG) (n : Nat) (A : Nat → Prop) : String → (String × va_W) → State → Prop := fun E u t => E = u.1 ∧ kB g n A u.2 t
def kXX (g : kG) (k : Nat) (A : Nat → Prop) (px : String → va_W → Prop) : String → State → State → Prop := vx_X (fun u : String × va_W => px u.1 u.2) (kBX g k A) A
def XV (l : Launch) (y : MethodName) (w : List Cond) (rm : Room) (g : kG) (av : List Value) (ws : va_W) (mc ms : Nat) (post : va_W → Prop) (px : String → va_W → Prop) : Prop := ∀ sz : Nat, vx_Met l y w rm (kPre g av ws sz) (va_Qv post (kB g ws.length (va_A ws sz)) (va_A ws sz)) (kXX g ws.length (va_A ws sz) px) mc ms (va_A ws sz)
def kQxv (g : kG) (k : Nat) (A : Nat → Prop) (post : va_W → Prop) (px : String → va_W → Prop) (mc ms : Nat) (below : List Frame) (args : Array Value) (s : State) : State → Prop := vx_MQ below (va_Qv post (kB g k A) A) (kXX g k A px) args s mc ms A
def XI (l : Launch) (y : MethodName) (w : List Cond) (rm : Room) (g : kG) (av : List Value) (ws : va_W) (mc ms : Nat) (post : Int32 → va_W → Prop) (px : String → va_W → Prop) : Prop := ∀ sz : Nat, vx_Met l y w rm (kPre g av ws sz) (va_Qi post (kB g ws.length (va_A ws sz)) (va_A ws sz)) (kXX g ws.length (va_A ws sz) px) mc ms (va_A ws sz)
def kQxi (g : kG) (k : Nat) (A : Nat → Prop) (post : Int32 → va_W → Prop) (px : String → va_W → Prop) (mc ms : Nat) (below : List Frame) (args : Array Value) (s : State) : State → Prop := vx_MQ below (va_Qi post (kB g k A) A) (kXX g k A px) args s mc ms A
def XF (l : Launch) (y : MethodName) (w : List Cond) (rm : Room) (g : kG) (av : List Value) (ws : va_W) (mc ms : Nat) (post : UInt32 → va_W → Prop) (px : String → va_W → Prop) : Prop := ∀ sz : Nat, vx_Met l y w rm (kPre g av ws sz) (va_Qf post (kB g ws.length (va_A ws sz)) (va_A ws sz)) (kXX g ws.length (va_A ws sz) px) mc ms (va_A ws sz)
def kQxf (g : kG) (k : Nat) (A : Nat → Prop) (post : UInt32 → va_W → Prop) (px : String → va_W → Prop) (mc ms : Nat) (below : List Frame) (args : Array Value) (s : State) : State → Prop := vx_MQ below (va_Qf post (kB g k A) A) (kXX g k A px) args s mc ms A
def XD (l : Launch) (y : MethodName) (w : List Cond) (rm : Room) (g : kG) (av : List Value) (ws : va_W) (mc ms : Nat) (post : UInt64 → va_W → Prop) (px : String → va_W → Prop) : Prop := ∀ sz : Nat, vx_Met l y w rm (kPre g av ws sz) (va_Qd post (kB g ws.length (va_A ws sz)) (va_A ws sz)) (kXX g ws.length (va_A ws sz) px) mc ms (va_A ws sz)
def kQxd (g : kG) (k : Nat) (A : Nat → Prop) (post : UInt64 → va_W → Prop) (px : String → va_W → Prop) (mc ms : Nat) (below : List Frame) (args : Array Value) (s : State) : State → Prop := vx_MQ below (va_Qd post (kB g k A) A) (kXX g k A px) args s mc ms A
section KXBODY
variable {l : Launch} {y : MethodName} {w w' : List Cond} {rm : Room} {g : kG} {av : List Value} {ws : va_W} {cc : ByteArray} {n : Nat}
theorem kxbody {Qc : Array Value → State → Outcome → State → Prop} {XC : String → State → State → Prop} {mc ms : Nat} {ret : Option FieldType} (sz : Nat) (hy : plainName y.cls = true) (hw : w = Cond.code y cc n ret :: w') (hn : Nat.ble (lg_sl av).length n = true)
    (body : ∀ p e s m below meth c A ls, s.heap.size = sz → va_A ws sz = A → (∀ x ∈ c.exceptionTable.toList, False) → kCx g y.cls w cc n ret av ws p s m meth c A ls → W p l e rm s m av.toArray below meth c s.heap [] 0 0 (vx_MQ below Qc XC av.toArray s mc ms A) (F0 m 0 ls [])) : vx_Met l y w rm (kPre g av ws sz) Qc XC mc ms (va_A ws sz) := by
  refine vx_ofW (cc := cc) (maxL := n) (ret := ret) hy hw ?_
  intro p e s m args below meth c s₁ B hml hT0 hv
  obtain ⟨rfl, hsz, hP, hK, hD0, hE⟩ := hv
  have hl := lv_entry av (n := n) (Nat.le_of_ble_eq_true hn)
  rw [lg_entry_eq]
  refine body p e s m below meth c _ _ hsz rfl hT0 ⟨B.exec, B.bytes, B.returns, hml, atoms_spec (ws := w) B.pre, findClass_of_methodNamed B.named, B.notSynchronized, ?_, hP, hK, hD0.self, hE, va_S.rf, hl⟩
  rw [← hsz]
  exact fun q h => Or.inr h
theorem kxbodyV {post : va_W → Prop} {px : String → va_W → Prop} {mc ms : Nat} {ret : Option FieldType} {k : Nat} {own : String} (hy : plainName y.cls = true) (hw : w = Cond.code y cc n ret :: w') (hn : Nat.ble (lg_sl av).length n = true) (hk : ws.length = k) (hown : y.cls = own)
    (body : ∀ p e s m below meth c A ls, (∀ x ∈ c.exceptionTable.toList, False) → kCx g own w cc n ret av ws p s m meth c A ls → W p l e rm s m av.toArray below meth c s.heap [] 0 0 (kQxv g k A post px mc ms below av.toArray s) (F0 m 0 ls [])) : XV l y w rm g av ws mc ms post px := by
  subst hk; subst hown
  exact fun sz => kxbody sz hy hw hn (fun p e s m below meth c A ls _ hAe hT0 h => by rw [hAe]; exact body p e s m below meth c A ls hT0 h)
theorem kxbodyI {post : Int32 → va_W → Prop} {px : String → va_W → Prop} {mc ms : Nat} {ret : Option FieldType} {k : Nat} {own : String} (hy : plainName y.cls = true) (hw : w = Cond.code y cc n ret :: w') (hn : Nat.ble (lg_sl av).length n = true) (hk : ws.length = k) (hown : y.cls = own)
    (body : ∀ p e s m below meth c A ls, (∀ x ∈ c.exceptionTable.toList, False) → kCx g own w cc n ret av ws p s m meth c A ls → W p l e rm s m av.toArray below meth c s.heap [] 0 0 (kQxi g k A post px mc ms below av.toArray s) (F0 m 0 ls [])) : XI l y w rm g av ws mc ms post px := by
  subst hk; subst hown
  exact fun sz => kxbody sz hy hw hn (fun p e s m below meth c A ls _ hAe hT0 h => by rw [hAe]; exact body p e s m below meth c A ls hT0 h)
theorem kxbodyF {post : UInt32 → va_W → Prop} {px : String → va_W → Prop} {mc ms : Nat} {ret : Option FieldType} {k : Nat} {own : String} (hy : plainName y.cls = true) (hw : w = Cond.code y cc n ret :: w') (hn : Nat.ble (lg_sl av).length n = true) (hk : ws.length = k) (hown : y.cls = own)
    (body : ∀ p e s m below meth c A ls, (∀ x ∈ c.exceptionTable.toList, False) → kCx g own w cc n ret av ws p s m meth c A ls → W p l e rm s m av.toArray below meth c s.heap [] 0 0 (kQxf g k A post px mc ms below av.toArray s) (F0 m 0 ls [])) : XF l y w rm g av ws mc ms post px := by
  subst hk; subst hown
  exact fun sz => kxbody sz hy hw hn (fun p e s m below meth c A ls _ hAe hT0 h => by rw [hAe]; exact body p e s m below meth c A ls hT0 h)
theorem kxbodyD {post : UInt64 → va_W → Prop} {px : String → va_W → Prop} {mc ms : Nat} {ret : Option FieldType} {k : Nat} {own : String} (hy : plainName y.cls = true) (hw : w = Cond.code y cc n ret :: w') (hn : Nat.ble (lg_sl av).length n = true) (hk : ws.length = k) (hown : y.cls = own)
    (body : ∀ p e s m below meth c A ls, (∀ x ∈ c.exceptionTable.toList, False) → kCx g own w cc n ret av ws p s m meth c A ls → W p l e rm s m av.toArray below meth c s.heap [] 0 0 (kQxd g k A post px mc ms below av.toArray s) (F0 m 0 ls [])) : XD l y w rm g av ws mc ms post px := by
  subst hk; subst hown
  exact fun sz => kxbody sz hy hw hn (fun p e s m below meth c A ls _ hAe hT0 h => by rw [hAe]; exact body p e s m below meth c A ls hT0 h)
end KXBODY
section KXRET
variable {p : Program} {l : Launch} {e : Env} {R : Room} {s : State} {m : MethodId} {args : Array Value} {below : List Frame} {meth : Method} {c : Code} {H : Heap} {locs : List Loc} {cells slots mc ms : Nat}
variable {g : kG} {A : Nat → Prop} {w1 : va_W} {pc : Nat} {ls : Array Slot} {cc : ByteArray} {k : Nat} {px : String → va_W → Prop}
theorem kretxv {post : va_W → Prop} (hc : cells ≤ mc) (hs : slots ≤ ms) (hx : p.tables.exec = Jvm.exec) (hb : c.code = cc) (hr : meth.sig.returnType = none) (hlk : meth.locks = false) (hK : va_K g.1 vwCl (kTy g) s) (hP : va_P g.1 vwCl w1 H) (hD : va_D A w1) (hS : va_S A s.heap H locs) (hlen : w1.length = k) (hdg : decode cc pc = .ok (.return_, 1)) (hp : post w1) : W p l e R s m args below meth c H locs cells slots (kQxv g k A post px mc ms below args s) (F0 m pc ls []) :=
  W.widen hc hs (vx_ret (W.vret hx hb hr (fun t ht hW => ⟨⟨w1, rfl, hp, hlen, by rw [ht]; exact hP, va_K.moved hW.alike hK, hD⟩, hS.F ht⟩) hS.2.2 hdg hlk))
theorem kretxi {post : Int32 → va_W → Prop} {v : Int32} (hc : cells ≤ mc) (hs : slots ≤ ms) (hx : p.tables.exec = Jvm.exec) (hb : c.code = cc) (hr : meth.sig.returnType = some .int) (hlk : meth.locks = false) (hK : va_K g.1 vwCl (kTy g) s) (hP : va_P g.1 vwCl w1 H) (hD : va_D A w1) (hS : va_S A s.heap H locs) (hlen : w1.length = k) (hdg : decode cc pc = .ok (.ireturn, 1)) (hp : post v w1) : W p l e R s m args below meth c H locs cells slots (kQxi g k A post px mc ms below args s) (F0 m pc ls [.int v]) :=
  W.widen hc hs (vx_ret (W.iret hx hb hr (fun t ht hW => ⟨⟨v, w1, rfl, hp, hlen, by rw [ht]; exact hP, va_K.moved hW.alike hK, hD⟩, hS.F ht⟩) hS.2.2 hdg hlk))
theorem kretxz {post : Int32 → va_W → Prop} {v : Int32} (hc : cells ≤ mc) (hs : slots ≤ ms) (hx : p.tables.exec = Jvm.exec) (hb : c.code = cc) (hr : meth.sig.returnType = some .boolean) (hlk : meth.locks = false) (hK : va_K g.1 vwCl (kTy g) s) (hP : va_P g.1 vwCl w1 H) (hD : va_D A w1) (hS : va_S A s.heap H locs) (hlen : w1.length = k) (hdg : decode cc pc = .ok (.ireturn, 1)) (hv : v = 0 ∨ v = 1) (hp : post v w1) : W p l e R s m args below meth c H locs cells slots (kQxi g k A post px mc ms below args s) (F0 m pc ls [.int v]) :=
  W.widen hc hs (vx_ret (W.zret hx hb hr (by rcases hv with rfl | rfl <;> rfl) (fun t ht hW => ⟨⟨v, w1, rfl, hp, hlen, by rw [ht]; exact hP, va_K.moved hW.alike hK, hD⟩, hS.F ht⟩) hS.2.2 hdg hlk))
theorem kretxf {post : UInt32 → va_W → Prop} {v : UInt32} (hc : cells ≤ mc) (hs : slots ≤ ms) (hx : p.tables.exec = Jvm.exec) (hb : c.code = cc) (hr : meth.sig.returnType = some .float) (hlk : meth.locks = false) (hK : va_K g.1 vwCl (kTy g) s) (hP : va_P g.1 vwCl w1 H) (hD : va_D A w1) (hS : va_S A s.heap H locs) (hlen : w1.length = k) (hdg : decode cc pc = .ok (.freturn, 1)) (hp : post v w1) : W p l e R s m args below meth c H locs cells slots (kQxf g k A post px mc ms below args s) (F0 m pc ls [.float v]) :=
  W.widen hc hs (vx_ret (W.fret hx hb hr (fun t ht hW => ⟨⟨v, w1, rfl, hp, hlen, by rw [ht]; exact hP, va_K.moved hW.alike hK, hD⟩, hS.F ht⟩) hS.2.2 hdg hlk))
theorem kretxd {post : UInt64 → va_W → Prop} {v : UInt64} (hc : cells ≤ mc) (hs : slots ≤ ms) (hx : p.tables.exec = Jvm.exec) (hb : c.code = cc) (hr : meth.sig.returnType = some .double) (hlk : meth.locks = false) (hK : va_K g.1 vwCl (kTy g) s) (hP : va_P g.1 vwCl w1 H) (hD : va_D A w1) (hS : va_S A s.heap H locs) (hlen : w1.length = k) (hdg : decode cc pc = .ok (.dreturn, 1)) (hp : post v w1) : W p l e R s m args below meth c H locs cells slots (kQxd g k A post px mc ms below args s) (F0 m pc ls [.double v]) :=
  W.widen hc hs (vx_ret (W.dret hx hb hr (fun t ht hW => ⟨⟨v, w1, rfl, hp, hlen, by rw [ht]; exact hP, va_K.moved hW.alike hK, hD⟩, hS.F ht⟩) hS.2.2 hdg hlk))
theorem va_P_kept {D : va_G} {cl : List vw_C} {ws : va_W} {H H1 : Heap} (hP : va_P D cl ws H) (h : ∀ q : Nat, q < H.size → H1[q]? = H[q]?) : va_P D cl ws H1 := fun k q hq => (hP k q hq).kept (h q.1 (hP k q hq).lt)
theorem kxgood {args : Array Value} {own cls : String} {ic : Nat} {names : List String} (hg1 : ∀ w ∈ (vx_atS own ic cls names).filter goodWord, w.before args s = true) (hg2 : ((vx_atS own ic cls names).filter (fun w => !goodWord w)).all (fun w => decide (w ∈ kXw)) = true) (hX : kX s) : ∀ w ∈ vx_atS own ic cls names, w.before args s = true :=
  vx_hat hg1 (fun w hw => by simpa using List.all_eq_true.mp hg2 w hw) (fun w hw => va_tabs (kXw_ok w hw).1 rfl (hX.1 w hw))
section
variable {Qc : Array Value → State → Outcome → State → Prop} {own cls text : String} {names : List String} {ik is ic : Nat} {rest : List Value} {ws : va_W}
theorem kXend {E : String} (hK : va_K g.1 vwCl (kTy g) s) (hP : va_P g.1 vwCl ws H) (hD : va_D A ws) (hS : va_S A s.heap H locs) (hlen : ws.length = k) (hp : px E ws) : ∀ t : State, s.vm.Alike t.vm → H.size ≤ t.heap.size → (∀ q : Nat, q < H.size → t.heap[q]? = H[q]?) → kXX g k A px E s t := by
  intro t hvm hz hq
  exact ⟨(E, ws), hp, ⟨rfl, hlen, va_P_kept hP hq, va_K.moved hvm hK, hD⟩, ⟨Nat.le_trans hS.1 hz, fun q h1 h2 => by rw [hq q (Nat.lt_of_lt_of_le h1 hS.1)]; exact hS.2.1 q h1 h2⟩⟩
theorem kthrS (hx : p.tables.exec = Jvm.exec) (hb : c.code = cc) (hl : l.stackTraces = false) (hown : s.vm.findClass own = some m.cls) (hfit : (cls :: names).all Bundle.fit = true)
    (hk : (Cond.classLink own ik cls).before args s = true) (hini : (Cond.initialized cls).before args s = true) (hstr : ∃ a, vk_R own is text a s)
    (hg1 : ∀ w ∈ (vx_atS own ic cls names).filter goodWord, w.before args s = true) (hg2 : ((vx_atS own ic cls names).filter (fun w => !goodWord w)).all (fun w => decide (w ∈ kXw)) = true) (hg3 : (Cond.classLink own ik cls :: Cond.initialized cls :: vx_atS own ic cls names).all vx_ot = true)
    (hE : kEnv g A s s.heap) (hT0 : ∀ x ∈ c.exceptionTable.toList, False) (hlk : meth.locks = false) (hK : va_K g.1 vwCl (kTy g) s) (hP : va_P g.1 vwCl ws H) (hD : va_D A ws) (hS : va_S A s.heap H locs) (hlen : ws.length = k) (hsize : ls.size = c.maxLocals)
    (d0 : decode cc pc = .ok (.new ik, 3)) (d3 : decode cc (pc + 3) = .ok (.dup, 1)) (d4 : decode cc (pc + 4) = .ok (.ldc is, 2)) (d6 : decode cc (pc + 6) = .ok (.invokespecial ic, 3)) (d9 : decode cc (pc + 9) = .ok (.athrow, 1))
    (hR : (names.length + 3 < R.frames ∧ (rest.map fun v => v.category).sum + (13 * (names.length + 1) + 43) ≤ R.locals) ∧ (cells + 1 ≤ R.cells ∧ slots + 6 ≤ R.slots) ∧ (cells + 1 ≤ mc ∧ slots + 6 ≤ ms)) (hp : px cls ws) :
    W p l e R s m args below meth c H locs cells slots (vx_MQ below Qc (kXX g k A px) args s mc ms A) (F0 m pc ls rest) := by
  obtain ⟨sa, hsa⟩ := hstr
  have hf := List.all_eq_true.mp hfit
  exact vx_throwS hx hb hl hown (hf _ List.mem_cons_self) (fun n hn => hf n (List.mem_cons_of_mem _ hn)) hk hini hsa (kxgood hg1 hg2 hE.2.2.2.2) (fun w hw => List.all_eq_true.mp hg3 w hw) hE.2.2.1 hE.2.2.2.1 hS hsize d0 d3 d4 d6 d9 (fun x h => (hT0 x h).elim) hR.1.1 hR.1.2 hR.2.1.1 hR.2.1.2 hlk (kXend hK hP hD hS hlen hp) hS.2.2 hR.2.2.1 hR.2.2.2
theorem kthrSW (hx : p.tables.exec = Jvm.exec) (hb : c.code = cc) (hl : l.stackTraces = false) (hown : s.vm.findClass own = some m.cls) (hfit : (cls :: names).all Bundle.fit = true)
    (hk : (Cond.classLink own ik cls).before args s = true) (hini : (Cond.initialized cls).before args s = true) (hstr : ∃ a, vk_R own is text a s)
    (hg1 : ∀ w ∈ (vx_atS own ic cls names).filter goodWord, w.before args s = true) (hg2 : ((vx_atS own ic cls names).filter (fun w => !goodWord w)).all (fun w => decide (w ∈ kXw)) = true) (hg3 : (Cond.classLink own ik cls :: Cond.initialized cls :: vx_atS own ic cls names).all vx_ot = true)
    (hE : kEnv g A s s.heap) (hT0 : ∀ x ∈ c.exceptionTable.toList, False) (hlk : meth.locks = false) (hK : va_K g.1 vwCl (kTy g) s) (hP : va_P g.1 vwCl ws H) (hD : va_D A ws) (hS : va_S A s.heap H locs) (hlen : ws.length = k) (hsize : ls.size = c.maxLocals)
    (d0 : decode cc pc = .ok (.new ik, 3)) (d3 : decode cc (pc + 3) = .ok (.dup, 1)) (d4 : decode cc (pc + 4) = .ok (.ldc_w is, 3)) (d7 : decode cc (pc + 7) = .ok (.invokespecial ic, 3)) (d10 : decode cc (pc + 10) = .ok (.athrow, 1))
    (hR : (names.length + 3 < R.frames ∧ (rest.map fun v => v.category).sum + (13 * (names.length + 1) + 43) ≤ R.locals) ∧ (cells + 1 ≤ R.cells ∧ slots + 6 ≤ R.slots) ∧ (cells + 1 ≤ mc ∧ slots + 6 ≤ ms)) (hp : px cls ws) :
    W p l e R s m args below meth c H locs cells slots (vx_MQ below Qc (kXX g k A px) args s mc ms A) (F0 m pc ls rest) := by
  obtain ⟨sa, hsa⟩ := hstr
  have hf := List.all_eq_true.mp hfit
  exact vx_throwSW hx hb hl hown (hf _ List.mem_cons_self) (fun n hn => hf n (List.mem_cons_of_mem _ hn)) hk hini hsa (kxgood hg1 hg2 hE.2.2.2.2) (fun w hw => List.all_eq_true.mp hg3 w hw) hE.2.2.1 hE.2.2.2.1 hS hsize d0 d3 d4 d7 d10 (fun x h => (hT0 x h).elim) hR.1.1 hR.1.2 hR.2.1.1 hR.2.1.2 hlk (kXend hK hP hD hS hlen hp) hS.2.2 hR.2.2.1 hR.2.2.2
/-- what a callee threw goes on to the caller -/
theorem kxout {E : String} {ce : Cell} {q9 : Nat} (hT0 : ∀ x ∈ c.exceptionTable.toList, False) (hlk : meth.locks = false) (hce : H[q9]? = some ce) (hcv : ce.vm = .none) (hcl : s.vm.findClass E = some ce.cls) (hK : va_K g.1 vwCl (kTy g) s) (hP : va_P g.1 vwCl ws H) (hD : va_D A ws) (hS : va_S A s.heap H locs) (hlen : ws.length = k) (hc : cells ≤ mc) (hs : slots ≤ ms) (hp : px E ws) :
    vx_W p l e R s m args below meth c H locs cells slots (vx_MQ below Qc (kXX g k A px) args s mc ms A) (F0 m pc ls rest) q9 :=
  vx_out (fun x h => (hT0 x h).elim) hlk hce hcv hcl (fun t ht hvm => ⟨(E, ws), hp, ⟨rfl, hlen, by rw [ht]; exact hP, va_K.moved hvm hK, hD⟩, hS.F ht⟩) hS.2.2 hc hs
end
end KXRET
section KXCALL
variable {p : Program} {l : Launch} {e : Env} {R : Room} {s : State} {m : MethodId} {args : Array Value} {below : List Frame} {meth : Method} {c : Code} {H : Heap} {locs : List Loc} {cells slots mc ms : Nat} {Q : State → Prop}
variable {g : kG} {A : Nat → Prop} {ws wc : va_W} {pc : Nat} {ls : Array Slot} {st0 rest : List Value} {a : Array Value} {px : String → va_W → Prop}
theorem kxcallv {post : va_W → Prop} (is : List Nat) (hr : vx_Run p l e R s m args below meth c H locs cells slots mc ms (F0 m pc ls st0) rest (va_Qv post (kB g wc.length (va_A wc H.size)) (va_A wc H.size) a) (kXX g wc.length (va_A wc H.size) px) (va_A wc H.size)) (hP : va_P g.1 vwCl ws H) (hD : va_D A ws) (hS : va_S A s.heap H locs) (hA : ∀ q, s.heap.size ≤ q → A q) (hC : is.map (fun i => ws[i]?) = wc.map some)
    (kx : ∀ (E : String) (w1 : va_W) (q9 : Nat) (ce : Cell) (H1 : Heap) (locs1 : List Loc), px E w1 → va_P g.1 vwCl (kMrg ws is w1) H1 → va_D A (kMrg ws is w1) → va_S A s.heap H1 locs1 → H1[q9]? = some ce → ce.vm = .none → s.vm.findClass E = some ce.cls → vx_W p l e R s m args below meth c H1 locs1 (cells + mc) (slots + ms) Q (F0 m pc ls rest) q9)
    (kk : ∀ (w1 : va_W) (H1 : Heap) (locs1 : List Loc), post w1 → va_P g.1 vwCl (kMrg ws is w1) H1 → va_D A (kMrg ws is w1) → va_S A s.heap H1 locs1 → W p l e R s m args below meth c H1 locs1 (cells + mc) (slots + ms) Q (F0 m (pc + 3) ls rest)) : W p l e R s m args below meth c H locs cells slots Q (F0 m pc ls st0) := by
  have hF := va_free hD hS hA is hC
  refine vx_callv hr hS (fun q _ h => hF q h) hF (fun q _ h => hF q h) (fun E ce q9 u t H1 locs1 ht hvm hw hB hz hk hS1 hce hcv hcl => ?_) (fun w1 t H1 locs1 ht hvm hw hB hz hk hS1 => ?_)
  · obtain ⟨hE9, hlen, hP1, hK1, hD1⟩ := hB
    rw [ht] at hP1
    obtain ⟨x1, x2⟩ := kMrg_ok hP hD is hC hk hF hlen hP1 hD1
    exact kx E u.2 q9 ce H1 locs1 (by rw [hE9]; exact hw) x1 x2 hS1 hce hcv hcl
  · obtain ⟨hlen, hP1, hK1, hD1⟩ := hB
    rw [ht] at hP1
    obtain ⟨x1, x2⟩ := kMrg_ok hP hD is hC hk hF hlen hP1 hD1
    exact kk w1 H1 locs1 hw x1 x2 hS1
theorem kxcalli {post : Int32 → va_W → Prop} (is : List Nat) (hr : vx_Run p l e R s m args below meth c H locs cells slots mc ms (F0 m pc ls st0) rest (va_Qi post (kB g wc.length (va_A wc H.size)) (va_A wc H.size) a) (kXX g wc.length (va_A wc H.size) px) (va_A wc H.size)) (hP : va_P g.1 vwCl ws H) (hD : va_D A ws) (hS : va_S A s.heap H locs) (hA : ∀ q, s.heap.size ≤ q → A q) (hC : is.map (fun i => ws[i]?) = wc.map some)
    (kx : ∀ (E : String) (w1 : va_W) (q9 : Nat) (ce : Cell) (H1 : Heap) (locs1 : List Loc), px E w1 → va_P g.1 vwCl (kMrg ws is w1) H1 → va_D A (kMrg ws is w1) → va_S A s.heap H1 locs1 → H1[q9]? = some ce → ce.vm = .none → s.vm.findClass E = some ce.cls → vx_W p l e R s m args below meth c H1 locs1 (cells + mc) (slots + ms) Q (F0 m pc ls rest) q9)
    (kk : ∀ (r : Int32) (w1 : va_W) (H1 : Heap) (locs1 : List Loc), post r w1 → va_P g.1 vwCl (kMrg ws is w1) H1 → va_D A (kMrg ws is w1) → va_S A s.heap H1 locs1 → W p l e R s m args below meth c H1 locs1 (cells + mc) (slots + ms) Q (F0 m (pc + 3) ls (.int r :: rest))) : W p l e R s m args below meth c H locs cells slots Q (F0 m pc ls st0) := by
  have hF := va_free hD hS hA is hC
  refine vx_calli hr hS (fun q _ h => hF q h) hF (fun q _ h => hF q h) (fun E ce q9 u t H1 locs1 ht hvm hw hB hz hk hS1 hce hcv hcl => ?_) (fun r w1 t H1 locs1 ht hvm hw hB hz hk hS1 => ?_)
  · obtain ⟨hE9, hlen, hP1, hK1, hD1⟩ := hB
    rw [ht] at hP1
    obtain ⟨x1, x2⟩ := kMrg_ok hP hD is hC hk hF hlen hP1 hD1
    exact kx E u.2 q9 ce H1 locs1 (by rw [hE9]; exact hw) x1 x2 hS1 hce hcv hcl
  · obtain ⟨hlen, hP1, hK1, hD1⟩ := hB
    rw [ht] at hP1
    obtain ⟨x1, x2⟩ := kMrg_ok hP hD is hC hk hF hlen hP1 hD1
    exact kk r w1 H1 locs1 hw x1 x2 hS1
theorem kxcallf {post : UInt32 → va_W → Prop} (is : List Nat) (hr : vx_Run p l e R s m args below meth c H locs cells slots mc ms (F0 m pc ls st0) rest (va_Qf post (kB g wc.length (va_A wc H.size)) (va_A wc H.size) a) (kXX g wc.length (va_A wc H.size) px) (va_A wc H.size)) (hP : va_P g.1 vwCl ws H) (hD : va_D A ws) (hS : va_S A s.heap H locs) (hA : ∀ q, s.heap.size ≤ q → A q) (hC : is.map (fun i => ws[i]?) = wc.map some)
    (kx : ∀ (E : String) (w1 : va_W) (q9 : Nat) (ce : Cell) (H1 : Heap) (locs1 : List Loc), px E w1 → va_P g.1 vwCl (kMrg ws is w1) H1 → va_D A (kMrg ws is w1) → va_S A s.heap H1 locs1 → H1[q9]? = some ce → ce.vm = .none → s.vm.findClass E = some ce.cls → vx_W p l e R s m args below meth c H1 locs1 (cells + mc) (slots + ms) Q (F0 m pc ls rest) q9)
    (kk : ∀ (r : UInt32) (w1 : va_W) (H1 : Heap) (locs1 : List Loc), post r w1 → va_P g.1 vwCl (kMrg ws is w1) H1 → va_D A (kMrg ws is w1) → va_S A s.heap H1 locs1 → W p l e R s m args below meth c H1 locs1 (cells + mc) (slots + ms) Q (F0 m (pc + 3) ls (.float r :: rest))) : W p l e R s m args below meth c H locs cells slots Q (F0 m pc ls st0) := by
  have hF := va_free hD hS hA is hC
  refine vx_callf hr hS (fun q _ h => hF q h) hF (fun q _ h => hF q h) (fun E ce q9 u t H1 locs1 ht hvm hw hB hz hk hS1 hce hcv hcl => ?_) (fun r w1 t H1 locs1 ht hvm hw hB hz hk hS1 => ?_)
  · obtain ⟨hE9, hlen, hP1, hK1, hD1⟩ := hB
    rw [ht] at hP1
    obtain ⟨x1, x2⟩ := kMrg_ok hP hD is hC hk hF hlen hP1 hD1
    exact kx E u.2 q9 ce H1 locs1 (by rw [hE9]; exact hw) x1 x2 hS1 hce hcv hcl
  · obtain ⟨hlen, hP1, hK1, hD1⟩ := hB
    rw [ht] at hP1
    obtain ⟨x1, x2⟩ := kMrg_ok hP hD is hC hk hF hlen hP1 hD1
    exact kk r w1 H1 locs1 hw x1 x2 hS1
theorem kxcalld {post : UInt64 → va_W → Prop} (is : List Nat) (hr : vx_Run p l e R s m args below meth c H locs cells slots mc ms (F0 m pc ls st0) rest (va_Qd post (kB g wc.length (va_A wc H.size)) (va_A wc H.size) a) (kXX g wc.length (va_A wc H.size) px) (va_A wc H.size)) (hP : va_P g.1 vwCl ws H) (hD : va_D A ws) (hS : va_S A s.heap H locs) (hA : ∀ q, s.heap.size ≤ q → A q) (hC : is.map (fun i => ws[i]?) = wc.map some)
    (kx : ∀ (E : String) (w1 : va_W) (q9 : Nat) (ce : Cell) (H1 : Heap) (locs1 : List Loc), px E w1 → va_P g.1 vwCl (kMrg ws is w1) H1 → va_D A (kMrg ws is w1) → va_S A s.heap H1 locs1 → H1[q9]? = some ce → ce.vm = .none → s.vm.findClass E = some ce.cls → vx_W p l e R s m args below meth c H1 locs1 (cells + mc) (slots + ms) Q (F0 m pc ls rest) q9)
    (kk : ∀ (r : UInt64) (w1 : va_W) (H1 : Heap) (locs1 : List Loc), post r w1 → va_P g.1 vwCl (kMrg ws is w1) H1 → va_D A (kMrg ws is w1) → va_S A s.heap H1 locs1 → W p l e R s m args below meth c H1 locs1 (cells + mc) (slots + ms) Q (F0 m (pc + 3) ls (.double r :: rest))) : W p l e R s m args below meth c H locs cells slots Q (F0 m pc ls st0) := by
  have hF := va_free hD hS hA is hC
  refine vx_calld hr hS (fun q _ h => hF q h) hF (fun q _ h => hF q h) (fun E ce q9 u t H1 locs1 ht hvm hw hB hz hk hS1 hce hcv hcl => ?_) (fun r w1 t H1 locs1 ht hvm hw hB hz hk hS1 => ?_)
  · obtain ⟨hE9, hlen, hP1, hK1, hD1⟩ := hB
    rw [ht] at hP1
    obtain ⟨x1, x2⟩ := kMrg_ok hP hD is hC hk hF hlen hP1 hD1
    exact kx E u.2 q9 ce H1 locs1 (by rw [hE9]; exact hw) x1 x2 hS1 hce hcv hcl
  · obtain ⟨hlen, hP1, hK1, hD1⟩ := hB
    rw [ht] at hP1
    obtain ⟨x1, x2⟩ := kMrg_ok hP hD is hC hk hF hlen hP1 hD1
    exact kk r w1 H1 locs1 hw x1 x2 hS1
end KXCALL
