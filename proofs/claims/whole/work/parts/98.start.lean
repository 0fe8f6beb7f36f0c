theorem law_start {p : Program} {e : Env} {s : State} {m : MethodId} {below : List Frame} {meth : Method} {c : Code} (l : Launch) (hflags : l.flags = flags0) {b L : Nat} {xs : Nat → Int32} {Q : State → Prop} (hL : L ≤ 1536)
    (hx : p.tables.exec = Jvm.exec) (hb : c.code = code) (hml : c.maxLocals = 9) (hown : s.vm.findClass RL = some m.cls) (hts : ∀ w ∈ lw_tbl, w.before #[Value.ref b] s = true) (hX : va_X b L xs s s.heap) (hbl : b < s.heap.size) (hgv : (Jvm.Cond.and given_1 narrow_1).before #[Value.ref b] s = true)
    (hend : ∀ (H : Heap) (ls : Array Slot), W p l e room_1 s m #[Value.ref b] below meth c H [] room_1.cells room_1.slots Q (F0 m 1585 ls [])) : W p l e room_1 s m #[Value.ref b] below meth c s.heap [] 0 0 Q (entryFrame m ([Value.ref b] : List Value).toArray 9) := by
  obtain ⟨g, hK, hE⟩ := st_ctx m.cls hts hgv
  have htr : l.stackTraces = false := by rw [Launch.stackTraces, hflags]; decide
  have hcx : kLx l g b L xs p s m c (fun q => s.heap.size ≤ q) := ⟨htr, hx, hb, hml, hown, fun w h => hts w (wsL_law_in w h), hX, hbl, Nat.not_le.mpr hbl, fun _ h => h, hK, hE, hL⟩
  have hl := lv_entry ([.ref b]) (n := 9) (Nat.le_of_ble_eq_true rfl)
  rw [lg_entry_eq]
  generalize (lg_sl ([.ref b]) ++ List.replicate (9 - (lg_sl ([.ref b])).length) Slot.unset).toArray = ls at hl ⊢
  have hl : lv_has ls 9 [(0, .ref b)] := hl
  refine law_begin hcx hl (fun x0 yn ys xc xs xt xr xf xh xi am ac as_ atx mka mva mra cka cva cra oka ova ora s1 s2 s3 s4 s5 t1 t2 t3 t4 t5 iq1 iq2 iq3 iq4 vm vc vs_ vt_ vmk vmv vmr vck vcv vcr h ak av bk bv br a_s a_t g1 g2 g3 pa ru tx dk dv ek ev er es et ob od => ?_)
  exact law_loop hcx (fun _ h => h) hend (L + 1) 0 (by omega) (by omega)
