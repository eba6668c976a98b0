/-! Reading: what a step says, and that class and reference do it. -/
/-- a cursor: a fault, or a place without one -/
def zq_cu (s : zh_S) (o kp kf : Nat) : Nat ⊕ Nat → Prop
  | .inl f => zh_I s o kf = nI f ∧ 0 < f ∧ f < 2 ^ 20
  | .inr p => zh_I s o kf = nI 0 ∧ zh_I s o kp = nI p ∧ p ≤ 200
abbrev zq_PR (r : Nat) (a k : Nat) : Prop := a = r ∧ (k = 1 ∨ k = 2)
abbrev zq_PS (a k : Nat) : Prop := a = 44 ∧ (k = 9 ∨ k = 10)
/-- a reader of the class -/
def zq_rd (s : zh_S) (r : Nat) : Prop := zh_oo s r 2 ∧ zh_R s r 0 = some 1 ∧ 62 ≤ r
theorem zq_E.rd {s t : zh_S} {r : Nat} (h : zq_E s t) (g : zq_rd s r) : zq_rd t r := by
  obtain ⟨h1, h2, h3, -⟩ := h
  unfold zq_rd zh_oo
  rw [h1, h2, h3]
  exact g
theorem zq_L.kR {s t : zh_S} {l : List Nat} {r : Nat} (d : zq_dV s l) (f : zq_F (zq_PR r) s t) (hr : 62 ≤ r) : zq_dV t l := d.keep f (by omega) (fun j => by omega)
theorem zq_L.kS {s t : zh_S} {l : List Nat} (d : zq_dM s l) (f : zq_F zq_PS s t) : zq_dM t l := d.keep f (by omega) (fun j => by omega)
theorem zp_fail (n : Nat) {s : zh_S} {r k q : Nat} (rd : zq_rd s r) (h0 : zh_I s r 2 = nI 0) (hk : 0 < k) (hk5 : k ≤ 5) (hq : q ≤ 200) : ∃ u, zf_Reader_fail n s r (nI k) (nI q) = some (nI q, u) ∧ zq_cu u r 1 2 (.inl (k + 16 * q)) ∧ zq_F (zq_PR r) s u := by
  refine ⟨zh_uI s r 2 (nI (k + 16 * q)), ?_, ⟨by rw [zs_II, if_pos ⟨rfl, rfl⟩], by omega, by omega⟩, zq_F.rf.uI ⟨rfl, Or.inr rfl⟩ _⟩
  rw [zf_Reader_fail, if_pos rd.1, if_pos (show zh_I s r 2 = 0 from h0), zi_16, zi_mul, nI_add]
  rfl
theorem zp_fail1 (n : Nat) {s : zh_S} {r : Nat} (rd : zq_rd s r) {f : Nat} (c : zq_cu s r 1 2 (.inl f)) (x y : Int32) : zf_Reader_fail n s r x y = some (y, s) := by
  rw [zf_Reader_fail, if_pos rd.1, c.1, if_neg (nI_ne0 c.2.1 (by have := c.2.2; omega))]
theorem zp_fails (n : Nat) {s : zh_S} {k q : Nat} (w : zq_w s) (h0 : zh_I s 44 10 = nI 0) (hk : 0 < k) (hk5 : k ≤ 5) (hq : q ≤ 200) : ∃ u, zf_M_fails n s 44 (nI k) (nI q) = some u ∧ zq_cu u 44 9 10 (.inl (k + 16 * q)) ∧ zq_F zq_PS s u := by
  refine ⟨zh_uI s 44 10 (nI (k + 16 * q)), ?_, ⟨by rw [zs_II, if_pos ⟨rfl, rfl⟩], by omega, by omega⟩, zq_F.rf.uI ⟨rfl, Or.inr rfl⟩ _⟩
  rw [zf_M_fails, if_pos ⟨zw_K44 w, zw_N44 w⟩, if_pos (show zh_I s 44 10 = 0 from h0), zi_16, zi_mul, nI_add, zb_M_fails_21, if_pos ⟨zw_K44 w, zw_N44 w⟩]
  rfl
/-- the head of an element at p that must lie before e: where its content stops, where it begins -/
def zq_op (l : List Nat) (tag e p : Nat) : Nat ⊕ (Nat × Nat) :=
  if e ≤ p then .inl (1 + 16 * p) else if ¬ l.getD p 0 = tag then .inl (2 + 16 * p) else if e ≤ p + 1 then .inl (1 + 16 * p)
  else if l.getD (p + 1) 0 ≤ 127 then (if e < p + 2 + l.getD (p + 1) 0 then .inl (1 + 16 * p) else .inr (p + 2 + l.getD (p + 1) 0, p + 2))
  else if ¬ l.getD (p + 1) 0 = 129 then .inl (3 + 16 * p) else if e ≤ p + 2 then .inl (1 + 16 * p)
  else if l.getD (p + 2) 0 ≤ 127 then .inl (3 + 16 * p) else if e < p + 3 + l.getD (p + 2) 0 then .inl (1 + 16 * p) else .inr (p + 3 + l.getD (p + 2) 0, p + 3)
theorem zq_op_le {l : List Nat} {tag e p a q : Nat} (h : zq_op l tag e p = .inr (a, q)) : p + 2 ≤ q ∧ q ≤ a ∧ a ≤ e := by
  unfold zq_op at h
  repeat' split at h
  all_goals first | (cases h; done) | (simp only [Sum.inr.injEq, Prod.mk.injEq] at h; omega)
theorem zq_bd {l : List Nat} (hb : ∀ b ∈ l, b < 256) (j : Nat) : l.getD j 0 < 256 := by
  rw [List.getD_eq_getElem?_getD]
  cases h : l[j]? with
  | none => simp
  | some x => simpa using hb x (List.mem_of_getElem? h)
/-- what open or head leave behind -/
def zq_po (o kp kf : Nat) (x : Nat ⊕ (Nat × Nat)) (y : Int32 × zh_S) : Prop := match x with
  | .inl f => zq_cu y.2 o kp kf (.inl f)
  | .inr (a, q) => y.1 = nI a ∧ zq_cu y.2 o kp kf (.inr q)
set_option maxHeartbeats 1000000 in
theorem zp_open (n : Nat) {s : zh_S} {r : Nat} {l : List Nat} {tag e p : Nat} (w : zq_w s) (d : zq_dV s l) (rd : zq_rd s r) (c : zq_cu s r 1 2 (.inr p)) (he : e ≤ l.length) (ht : tag < 256) : ∃ y, zf_Reader_open n s r (nI tag) (nI e) = some y ∧ zq_po r 1 2 (zq_op l tag e p) y ∧ zq_F (zq_PR r) s y.2 := by
  obtain ⟨h0, hp, hp2⟩ := c
  have hl := d.2.1
  have hr := rd.2.2
  have bd := zq_bd d.2.2.1
  have f1 : zq_F (zq_PR r) s (zh_uI s r 1 (nI (p + 1))) := zq_F.rf.uI ⟨rfl, Or.inl rfl⟩ _
  have f2 : zq_F (zq_PR r) s (zh_uI (zh_uI s r 1 (nI (p + 1))) r 1 (nI (p + 2))) := f1.uI ⟨rfl, Or.inl rfl⟩ _
  have f3 : zq_F (zq_PR r) s (zh_uI (zh_uI (zh_uI s r 1 (nI (p + 1))) r 1 (nI (p + 2))) r 1 (nI (p + 3))) := f2.uI ⟨rfl, Or.inl rfl⟩ _
  have ne2 : ∀ (t : zh_S) (v : Int32), zh_I (zh_uI t r 1 v) r 2 = zh_I t r 2 := fun t v => by rw [zs_II, if_neg (by omega)]
  have eq1 : ∀ (t : zh_S) (v : Int32), zh_I (zh_uI t r 1 v) r 1 = v := fun t v => by rw [zs_II, if_pos ⟨rfl, rfl⟩]
  have ob : ∀ (t : zh_S), zq_E s t → ∀ j, j < 200 → zh_oa t 2 0 (nI j) := fun t ht j hj => zw_A2 (ht.w w) hj
  unfold zq_op
  rw [zf_Reader_open, hp]
  refine zv_ck rd.1 (zv_l (zv_t h0 ?_))
  by_cases c1 : e ≤ p
  · obtain ⟨u, e1, g1, k1⟩ := zp_fail n rd h0 (k := 1) (q := p) (by omega) (by omega) hp2
    rw [if_pos c1]
    exact zv_f (nI_nlt c1 (by omega)) (zv_b e1 (zv_r ⟨g1, k1⟩))
  rw [if_neg c1]
  refine zv_t (nI_lt (by omega) (by omega)) (zv_p rd.2.1 (zv_ck ⟨zw_K1 w, zw_N1 w⟩ (zv_p (zw_R1_0 w) (zv_ck (zw_A2 w (by omega)) ?_))))
  by_cases c2 : l.getD p 0 = tag
  rotate_left 1
  · obtain ⟨u, e1, g1, k1⟩ := zp_fail n rd h0 (k := 2) (q := p) (by omega) (by omega) hp2
    rw [if_pos c2]
    refine zv_f ?_ (zv_b e1 (zv_r ⟨g1, k1⟩))
    show ¬ zh_I s 2 (nI p).toNatClampNeg = nI tag
    rw [nI_clamp (by omega), d.2.2.2 p (by omega), nI_eq (by have := bd p; omega) (by omega)]; exact c2
  rw [if_neg (show ¬ ¬ l.getD p 0 = tag from fun q => q c2)]
  refine zv_t ?_ ?_
  · show zh_I s 2 (nI p).toNatClampNeg = nI tag
    rw [nI_clamp (by omega), d.2.2.2 p (by omega), c2]
  rw [nI_1]
  refine zv_l ?_
  try dsimp only
  rw [eq1]
  have rd1 := f1.1.rd rd
  have w1 := f1.w w
  by_cases c3 : e ≤ p + 1
  · obtain ⟨u, e1, g1, k1⟩ := zp_fail n rd1 (by rw [ne2]; exact h0) (k := 1) (q := p) (by omega) (by omega) hp2
    rw [if_pos c3]
    exact zv_f (nI_nlt c3 (by omega)) (zv_b e1 (zv_r ⟨g1, f1.tr k1⟩))
  rw [if_neg c3]
  refine zv_t (nI_lt (by omega) (by omega)) (zv_p rd1.2.1 (zv_ck ⟨zw_K1 w1, zw_N1 w1⟩ (zv_p (zw_R1_0 w1) (zv_ck (zw_A2 w1 (by omega)) ?_))))
  rw [show zh_I (zh_uI s r 1 (nI (p + 1))) 2 (nI (p + 1)).toNatClampNeg = nI (l.getD (p + 1) 0) by rw [nI_clamp (by omega)]; exact (d.kR f1 hr).2.2.2 (p + 1) (by omega), nI_1]
  refine zv_l (zv_l ?_)
  try dsimp only
  have b1 := bd (p + 1)
  generalize l.getD (p + 1) 0 = x1 at b1 ⊢
  have rd2 := f2.1.rd rd
  have w2 := f2.w w
  have tail : ∀ (t : zh_S) (q m : Nat), zq_F (zq_PR r) s t → zh_I t r 2 = nI 0 → zh_I t r 1 = nI q → q ≤ 203 → q ≤ e → m < 256 → ∃ y, zb_Reader_open_176 n t r (nI e) (nI p) (nI m) = some y ∧ zq_po r 1 2 (if e < q + m then .inl (1 + 16 * p) else .inr (q + m, q)) y ∧ zq_F (zq_PR r) s y.2 := by
    intro t q m ft t0 tp q1 q2 m1
    have rdt := ft.1.rd rd
    rw [zb_Reader_open_176, tp]
    refine zv_ck rdt.1 ?_
    rw [zi_sub q2]
    by_cases c4 : e < q + m
    · obtain ⟨u, e1, g1, k1⟩ := zp_fail n rdt t0 (k := 1) (q := p) (by omega) (by omega) hp2
      rw [if_pos c4]
      exact zv_f (nI_ge (by omega) (by omega)) (zv_b e1 (zv_r ⟨g1, ft.tr k1⟩))
    · rw [if_neg c4, nI_add]
      exact zv_t (nI_le (by omega) (by omega)) (zv_r ⟨⟨rfl, t0, tp, by omega⟩, ft⟩)
  by_cases c4 : x1 ≤ 127
  · rw [if_pos c4]
    exact zv_t (nI_le (b := 127) c4 (by omega)) (tail _ (p + 2) x1 f2 (by rw [ne2, ne2]; exact h0) (by rw [eq1]) (by omega) (by omega) b1)
  rw [if_neg c4]
  refine zv_f (nI_ge (a := 127) (by omega) (by omega)) ?_
  by_cases c5 : x1 = 129
  rotate_left 1
  · obtain ⟨u, e1, g1, k1⟩ := zp_fail n rd2 (by rw [ne2, ne2]; exact h0) (k := 3) (q := p) (by omega) (by omega) hp2
    rw [if_pos c5]
    exact zv_f (fun q => c5 ((nI_eq (b := 129) (by omega) (by omega)).mp q)) (zv_b e1 (zv_r ⟨g1, f2.tr k1⟩))
  rw [if_neg (show ¬ ¬ x1 = 129 from fun q => q c5)]
  refine zv_t (by rw [c5]; rfl) ?_
  rw [eq1]
  by_cases c6 : e ≤ p + 2
  · obtain ⟨u, e1, g1, k1⟩ := zp_fail n rd2 (by rw [ne2, ne2]; exact h0) (k := 1) (q := p) (by omega) (by omega) hp2
    rw [if_pos c6]
    exact zv_f (nI_nlt c6 (by omega)) (zv_b e1 (zv_r ⟨g1, f2.tr k1⟩))
  rw [if_neg c6]
  refine zv_t (nI_lt (by omega) (by omega)) (zv_p rd2.2.1 (zv_ck ⟨zw_K1 w2, zw_N1 w2⟩ (zv_p (zw_R1_0 w2) (zv_ck (zw_A2 w2 (by omega)) ?_))))
  rw [show zh_I (zh_uI (zh_uI s r 1 (nI (p + 1))) r 1 (nI (p + 2))) 2 (nI (p + 2)).toNatClampNeg = nI (l.getD (p + 2) 0) by rw [nI_clamp (by omega)]; exact (d.kR f2 hr).2.2.2 (p + 2) (by omega), nI_1]
  refine zv_l (zv_l ?_)
  try dsimp only
  have b2 := bd (p + 2)
  generalize l.getD (p + 2) 0 = x2 at b2 ⊢
  have rd3 := f3.1.rd rd
  by_cases c7 : x2 ≤ 127
  · obtain ⟨u, e1, g1, k1⟩ := zp_fail n rd3 (by rw [ne2, ne2, ne2]; exact h0) (k := 3) (q := p) (by omega) (by omega) hp2
    rw [if_pos c7]
    exact zv_f (nI_nlt (a := 127) c7 (by omega)) (zv_b e1 (zv_r ⟨g1, f3.tr k1⟩))
  · rw [if_neg c7]
    exact zv_t (nI_lt (a := 127) (by omega) (by omega)) (tail _ (p + 3) x2 f3 (by rw [ne2, ne2, ne2]; exact h0) (by rw [eq1]) (by omega) (by omega) b2)
theorem zp_open1 (n : Nat) {s : zh_S} {r f : Nat} (rd : zq_rd s r) (c : zq_cu s r 1 2 (.inl f)) (x y : Int32) : ∃ z, zf_Reader_open n s r x y = some (z, s) := by
  have e0 : ¬ nI f = 0 := nI_ne0 c.2.1 (by have := c.2.2; omega)
  exact ⟨_, by rw [zf_Reader_open, if_pos rd.1]; simp only [zk_l]; rw [c.1, if_neg e0]⟩
theorem zp_h193 (n : Nat) {s : zh_S} {f : Nat} (w : zq_w s) (c : zq_cu s 44 9 10 (.inl f)) (x y : Int32) : zb_M_head_193 n s 44 x y = some (x, s) := by
  have e0 : ¬ nI f = 0 := nI_ne0 c.2.1 (by have := c.2.2; omega)
  rw [zb_M_head_193, if_pos ⟨zw_K44 w, zw_N44 w⟩, c.1, if_neg e0]
theorem zp_head1 (n : Nat) {s : zh_S} {f : Nat} (w : zq_w s) (c : zq_cu s 44 9 10 (.inl f)) (x y : Int32) : zf_M_head n s 44 x y = some (y, s) := by
  have e0 : ¬ nI f = 0 := nI_ne0 c.2.1 (by have := c.2.2; omega)
  rw [zf_M_head, if_pos ⟨zw_K44 w, zw_N44 w⟩, c.1, if_neg e0]
set_option maxHeartbeats 1000000 in
theorem zp_head (n : Nat) {s : zh_S} {l : List Nat} {tag e p : Nat} (w : zq_w s) (d : zq_dM s l) (c : zq_cu s 44 9 10 (.inr p)) (he : e ≤ l.length) (ht : tag < 256) : ∃ y, zf_M_head n s 44 (nI tag) (nI e) = some y ∧ zq_po 44 9 10 (zq_op l tag e p) y ∧ zq_F zq_PS s y.2 := by
  obtain ⟨h0, hp, hp2⟩ := c
  have hl := d.2.1
  have bd := zq_bd d.2.2.1
  have by_ : ∀ j, j < l.length → zh_I s 45 (nI j).toNatClampNeg = nI (l.getD j 0) := fun j hj => by rw [nI_clamp (by omega)]; exact d.2.2.2 j hj
  have W44 : zh_oo s 44 8 := ⟨zw_K44 w, zw_N44 w⟩
  -- a fault, then the end
  have bad : ∀ k, 0 < k → k ≤ 5 → ∃ y, (zk_p (zf_M_fails n s 44 (nI k) (nI p)) fun t => zb_M_head_193 n t 44 (nI e) (nI p)) = some y ∧ zq_cu y.2 44 9 10 (.inl (k + 16 * p)) ∧ zq_F zq_PS s y.2 := by
    intro k h1 h2
    obtain ⟨u, e1, g1, k1⟩ := zp_fails n w h0 h1 h2 hp2
    exact zv_p e1 ⟨_, zp_h193 n (k1.w w) g1 _ _, g1, k1⟩
  have tail : ∀ (q m : Nat), (q = 2 ∨ q = 3) → p + q ≤ e → m < 256 → ∃ y, zb_M_head_272 n s 44 (nI e) (nI p) (nI m) (nI p) (nI q) = some y ∧ zq_po 44 9 10 (if e < p + q + m then .inl (1 + 16 * p) else .inr (p + q + m, p + q)) y ∧ zq_F zq_PS s y.2 := by
    intro q m q1 q2 m1
    rw [zb_M_head_272, nI_add]
    refine zv_l ?_
    try dsimp only
    rw [nI_add]
    by_cases c4 : e < p + q + m
    · obtain ⟨u, e1, g1, k1⟩ := zp_fails n w h0 (k := 1) (q := p) (by omega) (by omega) hp2
      rw [if_pos c4]
      exact zv_f (nI_ge (by omega) (by omega)) (zv_ck W44 (zv_p e1 (zv_r ⟨g1, k1⟩)))
    · rw [if_neg c4]
      refine zv_t (nI_le (by omega) (by omega)) (zv_ck W44 (zv_l (zv_r ⟨⟨rfl, ?_, ?_, by omega⟩, zq_F.rf.uI ⟨rfl, Or.inl rfl⟩ _⟩)))
      · rw [zs_II, if_neg (by omega)]; exact h0
      · rw [zs_II, if_pos ⟨rfl, rfl⟩]
  unfold zq_op
  rw [zf_M_head, hp]
  refine zv_ck W44 (zv_t h0 (zv_l ?_))
  by_cases c1 : e ≤ p
  · obtain ⟨u, e1, g1, k1⟩ := zp_fails n w h0 (k := 1) (q := p) (by omega) (by omega) hp2
    rw [if_pos c1]
    exact zv_f (nI_nlt c1 (by omega)) (zv_p e1 (zv_r ⟨g1, k1⟩))
  rw [if_neg c1]
  refine zv_t (nI_lt (by omega) (by omega)) (zv_p (zw_R44_0 w) (zv_ck (zw_A45 w (by omega)) ?_))
  try dsimp only
  rw [by_ p (by omega), nI_1]
  by_cases c2 : l.getD p 0 = tag
  rotate_left 1
  · obtain ⟨y, e1, g1, k1⟩ := bad 2 (by omega) (by omega)
    rw [if_pos c2]
    exact zv_f (by rw [nI_eq (by have := bd p; omega) (by omega)]; exact c2) ⟨y, e1, g1, k1⟩
  rw [if_neg (show ¬ ¬ l.getD p 0 = tag from fun q => q c2)]
  refine zv_t (by rw [c2]) ?_
  by_cases c3 : e ≤ p + 1
  · obtain ⟨y, e1, g1, k1⟩ := bad 1 (by omega) (by omega)
    rw [if_pos c3]
    exact zv_f (nI_nlt c3 (by omega)) ⟨y, e1, g1, k1⟩
  rw [if_neg c3]
  refine zv_t (nI_lt (by omega) (by omega)) (zv_p (zw_R44_0 w) (zv_ck (zw_A45 w (by omega)) ?_))
  try dsimp only
  rw [by_ (p + 1) (by omega)]
  have b1 := bd (p + 1)
  have fin : ∀ (q m : Nat), (q = 2 ∧ l.getD (p + 1) 0 ≤ 127 ∧ m = l.getD (p + 1) 0) ∨ (q = 3 ∧ l.getD (p + 1) 0 = 129 ∧ m = l.getD (p + 2) 0 ∧ p + 2 < e) → ∃ y, zb_M_head_193 n s 44 (nI e) (nI p) = some y ∧ zq_po 44 9 10 (if e < p + q + m then .inl (1 + 16 * p) else .inr (p + q + m, p + q)) y ∧ zq_F zq_PS s y.2 := by
    intro q m hh
    have t244 : ∀ m, m < 256 → (q = 2 ∧ ¬ l.getD (p + 1) 0 = 129 ∨ q = 3 ∧ l.getD (p + 1) 0 = 129) → p + q ≤ e → ∃ y, zb_M_head_244 n s 44 (nI e) (nI p) (nI m) = some y ∧ zq_po 44 9 10 (if e < p + q + m then .inl (1 + 16 * p) else .inr (p + q + m, p + q)) y ∧ zq_F zq_PS s y.2 := by
      intro m m1 h2 h3
      rw [zb_M_head_244, hp, nI_1]
      refine zv_ck W44 (zv_p (zw_R44_0 w) (zv_ck (zw_A45 w (by omega)) ?_))
      try dsimp only
      rw [by_ (p + 1) (by omega)]
      rcases h2 with ⟨rfl, h2⟩ | ⟨rfl, h2⟩
      · exact zv_f (fun q => h2 ((nI_eq (b := 129) (by omega) (by omega)).mp q)) (tail 2 m (Or.inl rfl) h3 m1)
      · exact zv_t (by rw [h2]; rfl) (tail 3 m (Or.inr rfl) h3 m1)
    rw [zb_M_head_193, hp, nI_1]
    refine zv_ck W44 (zv_t h0 (zv_p (zw_R44_0 w) (zv_ck (zw_A45 w (by omega)) ?_)))
    try dsimp only
    rw [by_ (p + 1) (by omega)]
    rcases hh with ⟨rfl, h1, rfl⟩ | ⟨rfl, h1, rfl, h3⟩
    · exact zv_f (fun q => by have := (nI_eq (b := 129) (by omega) (by omega)).mp q; omega) (zv_p (zw_R44_0 w) (zv_ck (zw_A45 w (by omega)) (by
        try dsimp only
        rw [by_ (p + 1) (by omega)]
        exact t244 _ b1 (Or.inl ⟨rfl, by omega⟩) (by omega))))
    · refine zv_t (by rw [h1]; rfl) (zv_p (zw_R44_0 w) ?_)
      try dsimp only
      rw [zi_2, nI_add]
      refine zv_ck (zw_A45 w (by omega)) ?_
      rw [by_ (p + 2) (by omega)]
      exact t244 _ (bd (p + 2)) (Or.inr ⟨rfl, h1⟩) (by omega)
  by_cases c4 : l.getD (p + 1) 0 ≤ 127
  · rw [if_pos c4]
    refine zv_f (fun q => by have := (nI_eq (b := 128) (by omega) (by omega)).mp q; omega) (zv_p (zw_R44_0 w) (zv_ck (zw_A45 w (by omega)) ?_))
    try dsimp only
    rw [by_ (p + 1) (by omega)]
    refine zv_t (nI_le (b := 129) (by omega) (by omega)) (zv_p (zw_R44_0 w) (zv_ck (zw_A45 w (by omega)) ?_))
    try dsimp only
    rw [by_ (p + 1) (by omega)]
    refine zv_f (fun q => by have := (nI_eq (b := 129) (by omega) (by omega)).mp q; omega) ?_
    rw [zb_M_head_153, hp, nI_1]
    refine zv_ck W44 (zv_p (zw_R44_0 w) (zv_ck (zw_A45 w (by omega)) ?_))
    try dsimp only
    rw [by_ (p + 1) (by omega)]
    exact zv_f (fun q => by have := (nI_eq (b := 129) (by omega) (by omega)).mp q; omega) (fin 2 _ (Or.inl ⟨rfl, c4, rfl⟩))
  rw [if_neg c4]
  by_cases c5 : l.getD (p + 1) 0 = 129
  rotate_left 1
  · rw [if_pos c5]
    obtain ⟨y, e1, g1, k1⟩ := bad 3 (by omega) (by omega)
    have b108 : ∃ y, zb_M_head_108 n s 44 (nI e) (nI p) = some y ∧ zq_cu y.2 44 9 10 (.inl (3 + 16 * p)) ∧ zq_F zq_PS s y.2 := by
      rw [zb_M_head_108]
      exact zv_ck W44 ⟨y, e1, g1, k1⟩
    by_cases c6 : l.getD (p + 1) 0 = 128
    · exact zv_t (by rw [c6]; rfl) b108
    · refine zv_f (fun q => c6 ((nI_eq (b := 128) (by omega) (by omega)).mp q)) (zv_p (zw_R44_0 w) (zv_ck (zw_A45 w (by omega)) ?_))
      try dsimp only
      rw [by_ (p + 1) (by omega)]
      exact zv_f (nI_ge (a := 129) (by omega) (by omega)) b108
  rw [if_neg (show ¬ ¬ l.getD (p + 1) 0 = 129 from fun q => q c5)]
  refine zv_f (by rw [c5]; decide) (zv_p (zw_R44_0 w) (zv_ck (zw_A45 w (by omega)) ?_))
  try dsimp only
  rw [by_ (p + 1) (by omega)]
  refine zv_t (by rw [c5]; decide) (zv_p (zw_R44_0 w) (zv_ck (zw_A45 w (by omega)) ?_))
  try dsimp only
  rw [by_ (p + 1) (by omega), zi_2, nI_add]
  refine zv_t (by rw [c5]; rfl) ?_
  by_cases c6 : e ≤ p + 2
  · obtain ⟨y, e1, g1, k1⟩ := bad 1 (by omega) (by omega)
    rw [if_pos c6]
    exact zv_f (nI_nlt c6 (by omega)) ⟨y, e1, g1, k1⟩
  rw [if_neg c6]
  refine zv_t (nI_lt (by omega) (by omega)) ?_
  rw [zb_M_head_153, hp, nI_1, zi_2, nI_add]
  refine zv_ck W44 (zv_p (zw_R44_0 w) (zv_ck (zw_A45 w (by omega)) ?_))
  try dsimp only
  rw [by_ (p + 1) (by omega)]
  refine zv_t (by rw [c5]; rfl) (zv_p (zw_R44_0 w) (zv_ck (zw_A45 w (by omega)) ?_))
  try dsimp only
  rw [by_ (p + 2) (by omega)]
  have b2 := bd (p + 2)
  by_cases c7 : l.getD (p + 2) 0 ≤ 127
  · obtain ⟨y, e1, g1, k1⟩ := bad 3 (by omega) (by omega)
    rw [if_pos c7]
    exact zv_f (nI_ge (b := 128) (by omega) (by omega)) ⟨y, e1, g1, k1⟩
  · rw [if_neg c7]
    exact zv_t (nI_le (a := 128) (by omega) (by omega)) (fin 3 _ (Or.inr ⟨rfl, c5, rfl, by omega⟩))
