/-! ===== the model: searches ===== -/
theorem win_ok {M : List kE3} {S : Nat → Int32} (hI : kIv M) (hn : M.length ≤ 160) (hS : kSt S) (h0 : 0 < M.length) (x : Int32) : ∃ lo hi : Nat, (Unit → PLO (kap M) (ksegs M S) (S 0).toInt x = lo) ∧ (Unit → PHI (kap M) (ksegs M S) (S 0).toInt x = hi) ∧ hi ≤ lo + 17 ∧ lo ≤ hi ∧ hi < M.length ∧ PBS M S x = prb (fun j => kI (kap M j)) x (hi + 1 - lo) lo (hi + 1) := by
  have h1 := PRD_lt hI hn hS h0 x
  have hpos : 0 < (ksegs M S).length := sgs_pos h0
  have hasc : kasc (kap M) M.length := kap_asc (n := M.length) (fk := gkey M) (fv := gval M) (fr := gflg M) (EL_eq rfl (fun j hj => by simp [gkey, gval, gflg, hj])) hI
  obtain ⟨⟨s1, s2⟩, -⟩ := hS
  have hok := sg_ok hasc hn ⟨by omega, by omega⟩ _ _ _ (sgAt_mem (L := ksegs M S) (i := pidx (kap M) (ksegs M S) x) (kplc_lt _ _ _ hpos))
  have hw := kwin h1.2 (β := (S 0).toInt) ⟨by omega, by omega⟩
  exact ⟨_, _, fun _ => rfl, fun _ => rfl, hw.2.2.2.2, Nat.le_trans hw.2.1 hw.2.2.1, Nat.lt_of_le_of_lt hw.2.2.2.1 hok.2.1, by rw [PBS, if_neg (by omega)]⟩
theorem prb_eq {Q : Nat → Int32} {x : Int32} {lo t : Nat} (h : lo < t) (h1 : Q ((lo + t - 1) / 2) = x) : prb Q x (t - lo) lo t = [(lo + t - 1) / 2] := by rw [prb_s Q x h, if_pos h1]
theorem prb_lt {Q : Nat → Int32} {x : Int32} {lo t : Nat} (h : lo < t) (h1 : ¬ Q ((lo + t - 1) / 2) = x) (h2 : Q ((lo + t - 1) / 2) < x) : prb Q x (t - lo) lo t = (lo + t - 1) / 2 :: prb Q x (t - ((lo + t - 1) / 2 + 1)) ((lo + t - 1) / 2 + 1) t := by rw [prb_s Q x h, if_neg h1, if_pos h2]
theorem prb_gt {Q : Nat → Int32} {x : Int32} {lo t : Nat} (h : lo < t) (h1 : ¬ Q ((lo + t - 1) / 2) = x) (h2 : ¬ Q ((lo + t - 1) / 2) < x) : prb Q x (t - lo) lo t = (lo + t - 1) / 2 :: prb Q x ((lo + t - 1) / 2 - lo) lo ((lo + t - 1) / 2) := by rw [prb_s Q x h, if_neg h1, if_neg h2]

