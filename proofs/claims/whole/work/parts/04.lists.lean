/-! ===== rows as lists of entries: key, value, removal ===== -/
abbrev kE3 : Type := Int32 × Int32 × Int32
def EL (n : Nat) (fk fv fr : Nat → Int32) : List kE3 := (List.range n).map fun j => (fk j, fv j, fr j)
theorem EL_len (n : Nat) (fk fv fr : Nat → Int32) : (EL n fk fv fr).length = n := by simp [EL]
theorem EL_get (n : Nat) (fk fv fr : Nat → Int32) (j : Nat) : (EL n fk fv fr)[j]? = if j < n then some (fk j, fv j, fr j) else none := by
  rw [EL, List.getElem?_map]
  by_cases h : j < n
  · rw [List.getElem?_range h, if_pos h]; rfl
  · rw [if_neg h, List.getElem?_eq_none (by simpa using h)]; rfl
theorem EL_at {n : Nat} {fk fv fr : Nat → Int32} {j : Nat} (h : j < (EL n fk fv fr).length) : (EL n fk fv fr)[j] = (fk j, fv j, fr j) := by
  simp [EL]
theorem EL_eq {n : Nat} {fk fv fr : Nat → Int32} {L : List kE3} (hl : L.length = n) (h : ∀ (j : Nat) (hj : j < L.length), L[j] = (fk j, fv j, fr j)) : EL n fk fv fr = L := by
  refine List.ext_getElem (by rw [EL_len, hl]) (fun j h1 h2 => ?_)
  rw [EL_at, h j h2]
theorem EL_cong {n : Nat} {fk fv fr gk gv gr : Nat → Int32} (h : ∀ j, j < n → fk j = gk j ∧ fv j = gv j ∧ fr j = gr j) : EL n fk fv fr = EL n gk gv gr := by
  refine EL_eq (EL_len _ _ _ _) (fun j hj => ?_)
  rw [EL_at]
  obtain ⟨a, b, c⟩ := h j (by simpa [EL_len] using hj)
  rw [a, b, c]
theorem EL_snoc (n : Nat) (fk fv fr : Nat → Int32) : EL (n + 1) fk fv fr = EL n fk fv fr ++ [(fk n, fv n, fr n)] := by
  simp [EL, List.range_succ]
/-- the first place whose key isn't less -/
def kfst (n : Nat) (f : Nat → Int32) (x : Int32) (i : Nat) : Prop := i ≤ n ∧ (∀ j, j < i → f j < x) ∧ (i < n → ¬ f i < x)
theorem kfst_uniq {n : Nat} {f : Nat → Int32} {x : Int32} {i j : Nat} (h1 : kfst n f x i) (h2 : kfst n f x j) : i = j := by
  rcases Nat.lt_trichotomy i j with h | h | h
  · exact absurd (h2.2.1 i h) (h1.2.2 (Nat.lt_of_lt_of_le h h2.1))
  · exact h
  · exact absurd (h1.2.1 j h) (h2.2.2 (Nat.lt_of_lt_of_le h h1.1))
def kfnd (n : Nat) (f : Nat → Int32) (x : Int32) (i : Nat) : Int32 := if i < n ∧ f i = x then nI i else -1
def kbit (b : Int32) : Int32 := if b = 0 then 0 else 1
theorem kb01 {r : Int32} (h : r = 0 ∨ r = 1) : kbit (kis1 r) = r := by rcases h with rfl | rfl <;> decide
theorem kis1_01 (r : Int32) : kis1 r = 0 ∨ kis1 r = 1 := by unfold kis1; split <;> simp
theorem kbit_01 (b : Int32) : kbit b = 0 ∨ kbit b = 1 := by unfold kbit; split <;> simp
def kput (e : kE3) : List kE3 → List kE3
  | [] => [e]
  | d :: L => if d.1 < e.1 then d :: kput e L else if d.1 = e.1 then e :: L else e :: d :: L
theorem kput_new : ∀ (p : Nat) (L : List kE3) (e : kE3), p ≤ L.length → (∀ (j : Nat) (h : j < L.length), j < p → L[j].1 < e.1) → (∀ h : p < L.length, ¬ L[p].1 < e.1 ∧ ¬ L[p].1 = e.1) → kput e L = L.take p ++ e :: L.drop p
  | 0, [], e, _, _, _ => by simp [kput]
  | 0, d :: L, e, _, _, h2 => by
    have h := h2 (by simp)
    simp only [List.getElem_cons_zero] at h
    simp [kput, h.1, h.2]
  | p + 1, [], e, hp, _, _ => by simp at hp
  | p + 1, d :: L, e, hp, h1, h2 => by
    have h := h1 0 (by simp) (by omega)
    simp only [List.getElem_cons_zero] at h
    rw [kput, if_pos h, kput_new p L e (by simpa using hp) (fun j hj hjp => by have := h1 (j + 1) (by simpa using hj) (by omega); simpa using this) (fun hh => by have := h2 (by simpa using hh); simpa using this)]
    simp
theorem kput_old : ∀ (p : Nat) (L : List kE3) (e : kE3) (hp : p < L.length), (∀ (j : Nat) (h : j < L.length), j < p → L[j].1 < e.1) → ¬ L[p].1 < e.1 → L[p].1 = e.1 → kput e L = L.set p e
  | _, [], e, hp, _, _, _ => by simp at hp
  | 0, d :: L, e, _, _, h2, h3 => by
    simp only [List.getElem_cons_zero] at h2 h3
    rw [kput, if_neg h2, if_pos h3]; rfl
  | p + 1, d :: L, e, hp, h1, h2, h3 => by
    have h := h1 0 (by simp) (by omega)
    simp only [List.getElem_cons_zero] at h
    rw [kput, if_pos h, kput_old p L e (by simpa using hp) (fun j hj hjp => by have := h1 (j + 1) (by simpa using hj) (by omega); simpa using this) (by simpa using h2) (by simpa using h3)]
    rfl
/-- a row from the place i on shifted by one -/
def kshr (f : Nat → Int32) (i n : Nat) : Nat → Int32 := fun j => if i < j ∧ j ≤ n then f (j - 1) else f j
theorem kshr_0 (f : Nat → Int32) (n : Nat) : f = kshr f n n := by
  funext j
  simp only [kshr]
  rw [if_neg (by omega)]
theorem kshr_s {f : Nat → Int32} {i n N : Nat} (hN : N < 2 ^ 31) (hi : 0 < i) (hn : i ≤ n) (hnN : n < N) : kstore N (kshr f i n) (nI i) (kcell N (kshr f i n) (nI (i - 1))) = kshr f (i - 1) n := by
  rw [kstore_nI _ _ hN (by omega), kcell_nI _ hN (by omega)]
  funext j
  by_cases h : j = i
  · subst h
    simp only [upd, kshr, ↓reduceIte]
    rw [if_neg (by omega), if_pos (by omega)]
  · simp only [upd, kshr]
    rw [if_neg h]
    by_cases h2 : i < j ∧ j ≤ n
    · rw [if_pos h2, if_pos (by omega)]
    · rw [if_neg h2, if_neg (by omega)]
theorem kfst_L {n : Nat} {fk fv fr : Nat → Int32} {x : Int32} {i : Nat} (h : kfst n fk x i) : ∀ (j : Nat) (hj : j < (EL n fk fv fr).length), j < i → (EL n fk fv fr)[j].1 < x := by
  intro j hj hji
  rw [EL_at]
  exact h.2.1 j hji
theorem enter_old {n : Nat} {fk fv fr : Nat → Int32} {x v b : Int32} {i : Nat} (h : kfst n fk x i) (hi : i < n) (hx : fk i = x) : EL n (upd fk i x) (upd fv i v) (upd fr i b) = kput (x, v, b) (EL n fk fv fr) := by
  have hl : i < (EL n fk fv fr).length := by rw [EL_len]; exact hi
  rw [kput_old i _ (x, v, b) hl (kfst_L h) (by rw [EL_at]; exact h.2.2 hi) (by rw [EL_at]; exact hx)]
  refine EL_eq (by rw [List.length_set, EL_len]) (fun j hj => ?_)
  rw [List.getElem_set]
  by_cases e : i = j
  · subst e
    simp [upd]
  · rw [if_neg e, EL_at]
    simp [upd, Ne.symm e]
theorem enter_new {n : Nat} {fk fv fr : Nat → Int32} {x v b : Int32} {i : Nat} (h : kfst n fk x i) (hx : ¬ (i < n ∧ fk i = x)) : EL (n + 1) (upd (kshr fk i n) i x) (upd (kshr fv i n) i v) (upd (kshr fr i n) i b) = kput (x, v, b) (EL n fk fv fr) := by
  have hi := h.1
  rw [kput_new i _ (x, v, b) (by rw [EL_len]; exact hi) (kfst_L h) (fun hh => by
    rw [EL_at]
    have hh' : i < n := by simpa [EL_len] using hh
    exact ⟨h.2.2 hh', fun e => hx ⟨hh', e⟩⟩)]
  refine List.ext_getElem? (fun j => ?_)
  rw [EL_get]
  rcases Nat.lt_trichotomy j i with c | c | c
  · rw [if_pos (by omega), List.getElem?_append_left (by rw [List.length_take, EL_len]; omega), List.getElem?_take_of_lt c, EL_get, if_pos (by omega)]
    simp only [upd, kshr]
    rw [if_neg (by omega), if_neg (by omega), if_neg (by omega), if_neg (by omega), if_neg (by omega), if_neg (by omega)]
  · subst c
    rw [if_pos (by omega), List.getElem?_append_right (by rw [List.length_take, EL_len]; omega), List.length_take, EL_len, Nat.min_eq_left hi, Nat.sub_self]
    simp [upd]
  · rw [List.getElem?_append_right (by rw [List.length_take, EL_len]; omega), List.length_take, EL_len, Nat.min_eq_left hi]
    obtain ⟨k, rfl⟩ : ∃ k, j = i + 1 + k := ⟨j - i - 1, by omega⟩
    rw [show i + 1 + k - i = k + 1 by omega, List.getElem?_cons_succ, List.getElem?_drop, EL_get]
    by_cases c2 : i + k < n
    · rw [if_pos (by omega), if_pos c2]
      have e1 : ¬ (i + 1 + k = i) := by omega
      have e2 : i < i + 1 + k ∧ i + 1 + k ≤ n := by omega
      simp only [upd, kshr, if_neg e1, if_pos e2, show i + 1 + k - 1 = i + k by omega]
    · rw [if_neg (by omega), if_neg c2]
/-- a row from the place i on drawn back by one, up to the place k -/
def kshl (f : Nat → Int32) (i k : Nat) : Nat → Int32 := fun j => if i ≤ j ∧ j < k then f (j + 1) else f j
theorem kshl_0 (f : Nat → Int32) (i : Nat) : f = kshl f i i := by
  funext j
  simp only [kshl]
  rw [if_neg (by omega)]
theorem kshl_s {f : Nat → Int32} {i k N : Nat} (hN : N < 2 ^ 31) (hk : i ≤ k) (hn : k + 1 < N) : kstore N (kshl f i k) (nI k) (kcell N (kshl f i k) (nI (k + 1))) = kshl f i (k + 1) := by
  rw [kstore_nI _ _ hN (by omega), kcell_nI _ hN (by omega)]
  funext j
  by_cases h : j = k
  · subst h
    simp only [upd, kshl, ↓reduceIte]
    rw [if_neg (by omega), if_pos (by omega)]
  · simp only [upd, kshl]
    rw [if_neg h]
    by_cases h2 : i ≤ j ∧ j < k
    · rw [if_pos h2, if_pos (by omega)]
    · rw [if_neg h2, if_neg (by omega)]
theorem takeOut_L {n : Nat} {fk fv fr : Nat → Int32} {i : Nat} (hi : i < n) : EL (n - 1) (kshl fk i (n - 1)) (kshl fv i (n - 1)) (kshl fr i (n - 1)) = (EL n fk fv fr).eraseIdx i := by
  refine List.ext_getElem? (fun j => ?_)
  rw [EL_get, List.getElem?_eraseIdx]
  by_cases c : j < i
  · rw [if_pos (by omega), if_pos c, EL_get, if_pos (by omega)]
    simp only [kshl]
    rw [if_neg (by omega), if_neg (by omega), if_neg (by omega)]
  · rw [if_neg c, EL_get]
    by_cases c2 : j < n - 1
    · rw [if_pos c2, if_pos (by omega)]
      simp only [kshl]
      rw [if_pos (by omega), if_pos (by omega), if_pos (by omega)]
    · rw [if_neg c2, if_neg (by omega)]
/-- the contents of both parts -/
def gat : List kE3 → List kE3 → List kE3
  | [], [] => []
  | [], c :: C => if c.2.2 = 1 then gat [] C else (c.1, c.2.1, 0) :: gat [] C
  | m :: M, [] => (m.1, m.2.1, 0) :: gat M []
  | m :: M, c :: C => if m.1 < c.1 then (m.1, m.2.1, 0) :: gat M (c :: C) else if m.1 = c.1 then (if c.2.2 = 1 then gat M C else (c.1, c.2.1, 0) :: gat M C) else (if c.2.2 = 1 then gat (m :: M) C else (c.1, c.2.1, 0) :: gat (m :: M) C)
termination_by M C => M.length + C.length
def ksum (f : Nat → Int32) : Nat → Int32
  | 0 => 0
  | n + 1 => ksum f n + f n
theorem nI_m1 {i : Nat} (h : 0 < i) : nI i + (-1) = nI (i - 1) := by
  obtain ⟨k, rfl⟩ : ∃ k, i = k + 1 := ⟨i - 1, by omega⟩
  exact pk_m1 k
theorem nI_s1 {i : Nat} (h : 0 < i) : nI i - 1 = nI (i - 1) := by
  obtain ⟨k, rfl⟩ : ∃ k, i = k + 1 := ⟨i - 1, by omega⟩
  exact nI_pred k
theorem EL_drop {n : Nat} {fk fv fr : Nat → Int32} {i : Nat} (h : i < n) : (EL n fk fv fr).drop i = (fk i, fv i, fr i) :: (EL n fk fv fr).drop (i + 1) := by
  rw [List.drop_eq_getElem_cons (by rw [EL_len]; exact h), EL_at]
theorem EL_drop0 {n : Nat} {fk fv fr : Nat → Int32} {i : Nat} (h : n ≤ i) : (EL n fk fv fr).drop i = [] := List.drop_eq_nil_of_le (by rw [EL_len]; exact h)
theorem EL_push (n : Nat) (fk fv fr : Nat → Int32) (x v b : Int32) : EL (n + 1) (upd fk n x) (upd fv n v) (upd fr n b) = EL n fk fv fr ++ [(x, v, b)] := by
  rw [EL_snoc]
  congr 1
  · refine EL_cong (fun j hj => ?_)
    simp [upd, Nat.ne_of_lt hj]
  · simp [upd]
theorem gat_lt {m c : kE3} {M C : List kE3} (h : m.1 < c.1) : gat (m :: M) (c :: C) = (m.1, m.2.1, 0) :: gat M (c :: C) := by rw [gat, if_pos h]
theorem gat_eq {m c : kE3} {M C : List kE3} (h : ¬ m.1 < c.1) (h2 : m.1 = c.1) : gat (m :: M) (c :: C) = if c.2.2 = 1 then gat M C else (c.1, c.2.1, 0) :: gat M C := by rw [gat, if_neg h, if_pos h2]
theorem gat_gt {c : kE3} {M C : List kE3} (h : ∀ m, M.head? = some m → ¬ m.1 < c.1 ∧ ¬ m.1 = c.1) : gat M (c :: C) = if c.2.2 = 1 then gat M C else (c.1, c.2.1, 0) :: gat M C := by
  cases M with
  | nil => rw [gat]
  | cons m M =>
    obtain ⟨h1, h2⟩ := h m rfl
    rw [gat, if_neg h1, if_neg h2]
theorem gat_nil (m : kE3) (M : List kE3) : gat (m :: M) [] = (m.1, m.2.1, 0) :: gat M [] := by rw [gat]
theorem gat_nn : gat [] [] = [] := by rw [gat]
section GAT
variable {na nb nn i j : Nat} {mk mv mr ck cv cr u w t : Nat → Int32} {G : List kE3}
theorem ga_room (h : EL nn u w t ++ gat ((EL na mk mv mr).drop i) ((EL nb ck cv cr).drop j) = G) (hG : G.length ≤ 150) : nn + (gat ((EL na mk mv mr).drop i) ((EL nb ck cv cr).drop j)).length ≤ 150 := by
  have := congrArg List.length h
  rw [List.length_append, EL_len] at this
  omega
theorem ga_1 (hi : i < na) (hj : j < nb) (hlt : mk i < ck j) (h : EL nn u w t ++ gat ((EL na mk mv mr).drop i) ((EL nb ck cv cr).drop j) = G) : EL (nn + 1) (upd u nn (mk i)) (upd w nn (mv i)) (upd t nn 0) ++ gat ((EL na mk mv mr).drop (i + 1)) ((EL nb ck cv cr).drop j) = G := by
  rw [← h, EL_push, EL_drop hi, EL_drop hj, gat_lt hlt]
  simp
theorem ga_1r (hi : i < na) (hj : j < nb) (hlt : mk i < ck j) (h : EL nn u w t ++ gat ((EL na mk mv mr).drop i) ((EL nb ck cv cr).drop j) = G) (hG : G.length ≤ 150) : nn < 160 := by
  have h2 := ga_room h hG
  rw [EL_drop hi, EL_drop hj, gat_lt hlt] at h2
  simp at h2
  omega
theorem ga_3 (hi : i < na) (hj : nb ≤ j) (h : EL nn u w t ++ gat ((EL na mk mv mr).drop i) ((EL nb ck cv cr).drop j) = G) : EL (nn + 1) (upd u nn (mk i)) (upd w nn (mv i)) (upd t nn 0) ++ gat ((EL na mk mv mr).drop (i + 1)) ((EL nb ck cv cr).drop j) = G := by
  rw [← h, EL_push, EL_drop hi, EL_drop0 hj, gat_nil]
  simp
theorem ga_3r (hi : i < na) (hj : nb ≤ j) (h : EL nn u w t ++ gat ((EL na mk mv mr).drop i) ((EL nb ck cv cr).drop j) = G) (hG : G.length ≤ 150) : nn < 160 := by
  have h2 := ga_room h hG
  rw [EL_drop hi, EL_drop0 hj, gat_nil] at h2
  simp at h2
  omega
theorem ga_end (hi : na ≤ i) (hj : nb ≤ j) (h : EL nn u w t ++ gat ((EL na mk mv mr).drop i) ((EL nb ck cv cr).drop j) = G) : EL nn u w t = G := by
  rw [← h, EL_drop0 hi, EL_drop0 hj, gat_nn, List.append_nil]
/-- what comes with the next change -/
theorem ga_2 (hj : j < nb) {i2 : Nat} (hc : (i < na ∧ mk i = ck j ∧ i2 = i + 1) ∨ ((i < na → ¬ mk i < ck j ∧ ¬ mk i = ck j) ∧ i2 = i)) : gat ((EL na mk mv mr).drop i) ((EL nb ck cv cr).drop j) = if cr j = 1 then gat ((EL na mk mv mr).drop i2) ((EL nb ck cv cr).drop (j + 1)) else (ck j, cv j, 0) :: gat ((EL na mk mv mr).drop i2) ((EL nb ck cv cr).drop (j + 1)) := by
  rw [EL_drop hj]
  rcases hc with ⟨h1, h2, rfl⟩ | ⟨h1, rfl⟩
  · rw [EL_drop h1, gat_eq (by rw [h2]; exact Int32.lt_irrefl) h2]
  · rw [gat_gt]
    intro m hm
    by_cases hi : i2 < na
    · rw [EL_drop hi] at hm
      cases hm
      exact h1 hi
    · rw [EL_drop0 (by omega)] at hm
      cases hm
theorem ga_2r (hj : j < nb) {i2 : Nat} (hc : (i < na ∧ mk i = ck j ∧ i2 = i + 1) ∨ ((i < na → ¬ mk i < ck j ∧ ¬ mk i = ck j) ∧ i2 = i)) (hr : cr j = 1) (h : EL nn u w t ++ gat ((EL na mk mv mr).drop i) ((EL nb ck cv cr).drop j) = G) : EL nn u w t ++ gat ((EL na mk mv mr).drop i2) ((EL nb ck cv cr).drop (j + 1)) = G := by
  rw [← h, ga_2 hj hc, if_pos hr]
theorem ga_2n (hj : j < nb) {i2 : Nat} (hc : (i < na ∧ mk i = ck j ∧ i2 = i + 1) ∨ ((i < na → ¬ mk i < ck j ∧ ¬ mk i = ck j) ∧ i2 = i)) (hr : ¬ cr j = 1) (h : EL nn u w t ++ gat ((EL na mk mv mr).drop i) ((EL nb ck cv cr).drop j) = G) : EL (nn + 1) (upd u nn (ck j)) (upd w nn (cv j)) (upd t nn 0) ++ gat ((EL na mk mv mr).drop i2) ((EL nb ck cv cr).drop (j + 1)) = G := by
  rw [← h, EL_push, ga_2 hj hc, if_neg hr]
  simp
theorem ga_2nr (hj : j < nb) {i2 : Nat} (hc : (i < na ∧ mk i = ck j ∧ i2 = i + 1) ∨ ((i < na → ¬ mk i < ck j ∧ ¬ mk i = ck j) ∧ i2 = i)) (hr : ¬ cr j = 1) (h : EL nn u w t ++ gat ((EL na mk mv mr).drop i) ((EL nb ck cv cr).drop j) = G) (hG : G.length ≤ 150) : nn < 160 := by
  have h2 := ga_room h hG
  rw [ga_2 hj hc, if_neg hr] at h2
  simp at h2
  omega
end GAT
theorem kmin160 {n : Nat} (h : n < 160) : (if (160 : Int32) < nI n + 1 then 160 else nI n + 1) = nI (n + 1) := by
  rw [nI_1, if_neg (by rw [show (160 : Int32) = nI 160 from rfl, nI_ltI (by decide) (by omega)]; omega)]
