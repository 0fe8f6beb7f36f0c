/-! ===== the law's wrappers: calls whose throws are caught ===== -/
def KH (l : Launch) (y : MethodName) (w : List Cond) (rm : Room) (g : kG) (av : List Value) (ws : va_W) (mc ms : Nat) (post : Int32 → va_W → Prop) : Prop := ∀ sz : Nat, Met l y w rm (kPre g av ws sz) (va_Qi post (kB g ws.length (va_A ws sz)) (va_A ws sz)) mc ms (va_A ws sz)
def kQh (g : kG) (k : Nat) (A : Nat → Prop) (post : Int32 → va_W → Prop) (mc ms : Nat) (below : List Frame) (args : Array Value) (s : State) : State → Prop := MQ below (va_Qi post (kB g k A) A) args s mc ms A
section
variable {l : Launch} {y : MethodName} {w w' : List Cond} {rm : Room} {g : kG} {av : List Value} {ws : va_W} {cc : ByteArray} {n : Nat}
theorem kbodyH {post : Int32 → va_W → Prop} {ret : Option FieldType} {hh : List (Nat × Nat × Nat × Nat)} {k mc ms : Nat} {own : String} (hy : plainFor y = true) (hw : w = Cond.codeWith y cc n ret hh :: w') (hle : Nat.ble (lg_sl av).length n = true) (hk : ws.length = k) (hown : y.cls = own)
    (body : ∀ p e s m below meth c A ls, c.exceptionTable.toList = tableOf hh → kCx g own w cc n ret av ws p s m meth c A ls → W p l e rm s m av.toArray below meth c s.heap [] 0 0 (kQh g k A post mc ms below av.toArray s) (F0 m 0 ls [])) : KH l y w rm g av ws mc ms post := by
  subst hk; subst hown
  intro sz
  refine MetFree.of_bodySF (code := cc) (maxLocals := n) (ret := ret) hy ?_ ?_
  · intro args s m h hn
    obtain ⟨m9, meth, c, hn9, h1, h2, h3, h4, -, h5, h6, -⟩ := Cond.codeWith_spec (atoms_spec (ws := w) h _ (by rw [hw]; exact List.mem_cons_self))
    cases hn.symm.trans hn9
    exact ⟨meth, c, h1, h2, h3, h4, h5, h6⟩
  · intro p e s m args below meth c s₁ B hml hP0 _
    have hh0 : s₁.heap = s.heap := by rw [B.state]; rfl
    obtain ⟨rfl, hsz, hP, hK, hD0, hE⟩ := hP0
    have hts := atoms_spec (ws := w) B.pre
    have hT := vx_table (x := y) B (hts _ (by rw [hw]; exact List.mem_cons_self))
    have hl := lv_entry av (n := n) (Nat.le_of_ble_eq_true hle)
    have K0 : W p l e rm s m av.toArray below meth c s.heap [] 0 0 (kQh g ws.length (va_A ws sz) post mc ms below av.toArray s) (entryFrame m av.toArray n) := by
      rw [lg_entry_eq]
      refine body p e s m below meth c _ _ hT ⟨B.exec, B.bytes, B.returns, hml, hts, findClass_of_methodNamed B.named, B.notSynchronized, ?_, hP, hK, hD0.self, hE, va_S.rf, hl⟩
      rw [← hsz]
      exact fun q h => Or.inr h
    obtain ⟨t, a1, o, b1, b2, b3⟩ := K0 s₁ hh0 (Stand.of_body B)
    exact ⟨t, o, a1, b1, b2, ⟨b3.1, b3.2⟩⟩
end
section
variable {p : Program} {l : Launch} {e : Env} {R : Room} {s : State} {m : MethodId} {args : Array Value} {below : List Frame} {meth : Method} {c : Code} {H : Heap} {locs : List Loc} {cells slots mc ms : Nat}
variable {g : kG} {A : Nat → Prop} {w1 : va_W} {pc : Nat} {ls : Array Slot} {cc : ByteArray} {k : Nat}
theorem kreth {post : Int32 → va_W → Prop} {v : Int32} (hc : cells ≤ mc) (hs : slots ≤ ms) (hx : p.tables.exec = Jvm.exec) (hb : c.code = cc) (hr : meth.sig.returnType = some .int) (hlk : meth.locks = false) (hK : va_K g.1 vwCl (kTy g) s) (hP : va_P g.1 vwCl w1 H) (hD : va_D A w1) (hS : va_S A s.heap H locs) (hlen : w1.length = k) (hdg : decode cc pc = .ok (.ireturn, 1)) (hp : post v w1) : W p l e R s m args below meth c H locs cells slots (kQh g k A post mc ms below args s) (F0 m pc ls [.int v]) :=
  W.widen hc hs (W.iret hx hb hr (fun t ht hW => ⟨⟨v, w1, rfl, hp, hlen, by rw [ht]; exact hP, va_K.moved hW.alike hK, hD⟩, hS.F ht⟩) hS.2.2 hdg hlk)
theorem kcast {E : String} (hX : kX s) (h : Cond.castable E E ∈ kXw) : (Cond.castable E E).before args s = true := va_tabs (kXw_ok _ h).1 rfl (hX.1 _ h)
end

