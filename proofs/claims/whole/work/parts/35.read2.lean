/-! Ends, looks ahead, numbers. -/
def zq_cl (e p : Nat) : Nat ⊕ Nat := if p < e then .inl (5 + 16 * p) else .inr p
theorem zp_close (n : Nat) {s : zh_S} {r e p : Nat} (rd : zq_rd s r) (c : zq_cu s r 1 2 (.inr p)) (he : e ≤ 200) : ∃ t, zf_Reader_close n s r (nI e) = some t ∧ zq_cu t r 1 2 (zq_cl e p) ∧ zq_F (zq_PR r) s t := by
  obtain ⟨h0, hp, hp2⟩ := c
  unfold zq_cl
  rw [zf_Reader_close, hp]
  refine zv_ck rd.1 ?_
  by_cases c1 : p < e
  · obtain ⟨u, e1, g1, k1⟩ := zp_fail n rd h0 (k := 5) (q := p) (by omega) (by omega) hp2
    rw [if_pos c1]
    exact zv_f (nI_ge c1 (by omega)) (zv_b e1 (zv_r ⟨g1, k1⟩))
  · rw [if_neg c1]
    exact zv_t (nI_le (by omega) (by omega)) (zv_r ⟨⟨h0, hp, hp2⟩, zq_F.rf⟩)
theorem zp_close1 (n : Nat) {s : zh_S} {r f : Nat} (rd : zq_rd s r) (c : zq_cu s r 1 2 (.inl f)) (x : Int32) : zf_Reader_close n s r x = some s := by
  rw [zf_Reader_close, if_pos rd.1]
  by_cases h : x ≤ zh_I s r 1
  · rw [if_pos h]
  · rw [if_neg h, zp_fail1 n rd c]; rfl
theorem zp_done (n : Nat) {s : zh_S} {e p : Nat} (w : zq_w s) (c : zq_cu s 44 9 10 (.inr p)) (he : e ≤ 200) : ∃ t, zf_M_done n s 44 (nI e) = some t ∧ zq_cu t 44 9 10 (zq_cl e p) ∧ zq_F zq_PS s t := by
  obtain ⟨h0, hp, hp2⟩ := c
  unfold zq_cl
  rw [zf_M_done, hp]
  refine zv_ck ⟨zw_K44 w, zw_N44 w⟩ (zv_t h0 ?_)
  by_cases c1 : p < e
  · obtain ⟨u, e1, g1, k1⟩ := zp_fails n w h0 (k := 5) (q := p) (by omega) (by omega) hp2
    rw [if_pos c1]
    exact zv_f (nI_ge c1 (by omega)) (zv_p e1 (zv_r ⟨g1, k1⟩))
  · rw [if_neg c1]
    exact zv_t (nI_le (by omega) (by omega)) (zv_r ⟨⟨h0, hp, hp2⟩, zq_F.rf⟩)
theorem zq_cu_ne {s : zh_S} {o kp kf f : Nat} (c : zq_cu s o kp kf (.inl f)) : ¬ zh_I s o kf = 0 := by
  rw [c.1]; exact nI_ne0 c.2.1 (by have := c.2.2; omega)
theorem zp_done1 (n : Nat) {s : zh_S} {f : Nat} (w : zq_w s) (c : zq_cu s 44 9 10 (.inl f)) (x : Int32) : zf_M_done n s 44 x = some s := by
  rw [zf_M_done, if_pos ⟨zw_K44 w, zw_N44 w⟩, if_neg (zq_cu_ne c)]
def zq_nx (l : List Nat) (tag e p : Nat) : Bool := decide (p < e ∧ l.getD p 0 = tag)
theorem zp_isNext (n : Nat) {s : zh_S} {r : Nat} {l : List Nat} {tag e p : Nat} (w : zq_w s) (d : zq_dV s l) (rd : zq_rd s r) (c : zq_cu s r 1 2 (.inr p)) (he : e ≤ l.length) (ht : tag < 256) : zf_Reader_isNext n s r (nI tag) (nI e) = some (if zq_nx l tag e p then 1 else 0) := by
  obtain ⟨h0, hp, hp2⟩ := c
  have hl := d.2.1
  have bd := zq_bd d.2.2.1 p
  have : ∃ x, zf_Reader_isNext n s r (nI tag) (nI e) = some x ∧ x = if zq_nx l tag e p then 1 else 0 := by
    unfold zq_nx
    rw [zf_Reader_isNext, hp]
    refine zv_ck rd.1 (zv_t h0 ?_)
    by_cases c1 : p < e
    · refine zv_f (nI_ge c1 (by omega)) (zv_p rd.2.1 (zv_ck ⟨zw_K1 w, zw_N1 w⟩ (zv_p (zw_R1_0 w) (zv_ck (zw_A2 w (by omega)) ?_))))
      try dsimp only
      rw [nI_clamp (by omega), d.2.2.2 p (by omega)]
      by_cases c2 : l.getD p 0 = tag
      · exact zv_t (by rw [c2]) (zv_r (by rw [decide_eq_true ⟨c1, c2⟩]; rfl))
      · exact zv_f (fun q => c2 ((nI_eq (by omega) (by omega)).mp q)) (zv_r (by rw [decide_eq_false (fun h => c2 h.2)]; rfl))
    · exact zv_t (nI_le (by omega) (by omega)) (zv_r (by simp [c1]))
  obtain ⟨x, e1, rfl⟩ := this
  exact e1
theorem zp_isNext1 (n : Nat) {s : zh_S} {r f : Nat} (rd : zq_rd s r) (c : zq_cu s r 1 2 (.inl f)) (x y : Int32) : zf_Reader_isNext n s r x y = some 0 := by
  rw [zf_Reader_isNext, if_pos rd.1, if_neg (zq_cu_ne c)]
theorem zp_next (n : Nat) {s : zh_S} {l : List Nat} {tag e p : Nat} (w : zq_w s) (d : zq_dM s l) (c : zq_cu s 44 9 10 (.inr p)) (he : e ≤ l.length) (ht : tag < 256) : zf_M_next n s 44 (nI tag) (nI e) = some (if zq_nx l tag e p then 1 else 0) := by
  obtain ⟨h0, hp, hp2⟩ := c
  have hl := d.2.1
  have bd := zq_bd d.2.2.1 p
  have : ∃ x, zf_M_next n s 44 (nI tag) (nI e) = some x ∧ x = if zq_nx l tag e p then 1 else 0 := by
    unfold zq_nx
    rw [zf_M_next, hp]
    refine zv_ck ⟨zw_K44 w, zw_N44 w⟩ (zv_t h0 ?_)
    by_cases c1 : p < e
    · refine zv_f (nI_ge c1 (by omega)) (zv_p (zw_R44_0 w) (zv_ck (zw_A45 w (by omega)) ?_))
      try dsimp only
      rw [nI_clamp (by omega), d.2.2.2 p (by omega)]
      by_cases c2 : l.getD p 0 = tag
      · exact zv_t (by rw [c2]) (zv_r (by rw [decide_eq_true ⟨c1, c2⟩]; rfl))
      · exact zv_f (fun q => c2 ((nI_eq (by omega) (by omega)).mp q)) (zv_r (by rw [decide_eq_false (fun h => c2 h.2)]; rfl))
    · exact zv_t (nI_le (by omega) (by omega)) (zv_r (by simp [c1]))
  obtain ⟨x, e1, rfl⟩ := this
  exact e1
theorem zp_next1 (n : Nat) {s : zh_S} {f : Nat} (w : zq_w s) (c : zq_cu s 44 9 10 (.inl f)) (x y : Int32) : zf_M_next n s 44 x y = some 0 := by
  rw [zf_M_next, if_pos ⟨zw_K44 w, zw_N44 w⟩, if_neg (zq_cu_ne c)]
/-- the number that the bytes are -/
def zq_va (l : List Nat) : Nat → Nat → Nat → Nat
  | 0, _, v => v
  | k + 1, q, v => zq_va l k (q + 1) (v * 256 + l.getD q 0)
def zq_ig (l : List Nat) (a q : Nat) : Bool := decide (1 ≤ a - q ∧ a - q ≤ 8 ∧ l.getD q 0 < 128 ∧ (0 < l.getD q 0 ∨ a - q = 1 ∨ 128 ≤ l.getD (q + 1) 0))
def zq_ri (l : List Nat) (e p : Nat) : Nat ⊕ (Nat × Nat) := match zq_op l 2 e p with
  | .inl f => .inl f
  | .inr (a, q) => if zq_ig l a q then .inr (zq_va l (a - q) q 0, a) else .inl (4 + 16 * p)
theorem zq_va_lt {l : List Nat} (hb : ∀ b ∈ l, b < 256) : ∀ k q v, zq_va l k q v < (v + 1) * 256 ^ k := by
  intro k
  induction k with
  | zero => intro q v; rw [zq_va]; omega
  | succ k ih =>
    intro q v
    rw [zq_va]
    have h1 := ih (q + 1) (v * 256 + l.getD q 0)
    have h2 := zq_bd hb q
    have h3 : (v * 256 + l.getD q 0 + 1) * 256 ^ k ≤ ((v + 1) * 256) * 256 ^ k := Nat.mul_le_mul_right _ (by omega)
    have h4 : ((v + 1) * 256) * 256 ^ k = (v + 1) * 256 ^ (k + 1) := by rw [Nat.pow_succ, Nat.mul_assoc, Nat.mul_comm 256]
    omega
theorem zq_va_63 {l : List Nat} (hb : ∀ b ∈ l, b < 256) {a q : Nat} (h : zq_ig l a q = true) : zq_va l (a - q) q 0 < 2 ^ 63 := by
  unfold zq_ig at h
  rw [decide_eq_true_eq] at h
  obtain ⟨h1, h2, h3, -⟩ := h
  obtain ⟨k, hk⟩ : ∃ k, a - q = k + 1 := ⟨a - q - 1, by omega⟩
  rw [hk, zq_va]
  have g := zq_va_lt hb k (q + 1) (0 * 256 + l.getD q 0)
  have g2 : (0 * 256 + l.getD q 0 + 1) * 256 ^ k ≤ 128 * 256 ^ k := Nat.mul_le_mul_right _ (by omega)
  have g3 : 256 ^ k ≤ 256 ^ 7 := Nat.pow_le_pow_right (by decide) (by omega)
  have g4 : 128 * 256 ^ k ≤ 128 * 256 ^ 7 := Nat.mul_le_mul_left _ g3
  have g5 : 128 * 256 ^ 7 = 2 ^ 63 := by decide
  omega
theorem zn_or8 {v b : Nat} (hv : v < 2 ^ 55) (hb : b < 256) : lN v <<< ((8 : Int32).toInt64 &&& 63) ||| (nI b).toInt64 = lN (v * 256 + b) := by
  rw [zi_8, zn_sl (by omega), nI_l (by omega), zn_or (k := 8) (by omega) (by omega)]
/-- what a step of reading a value leaves -/
def zq_pv (o kp kf : Nat) (x : Nat ⊕ (Nat × Nat)) (y : Int64 × zh_S) : Prop := match x with
  | .inl f => zq_cu y.2 o kp kf (.inl f)
  | .inr (v, q) => y.1 = lN v ∧ zq_cu y.2 o kp kf (.inr q)
theorem zp_rint_l (n : Nat) {r a : Nat} {l : List Nat} (ha : a ≤ l.length) : ∀ (k f q v : Nat) (s : zh_S), zq_w s → zq_dV s l → zq_rd s r → zq_cu s r 1 2 (.inr q) → a - q = k → q ≤ a → k < f → (∀ j, j < k → zq_va l j q v < 2 ^ 55) → ∃ y, zl_Reader_readInteger_41 n f s r (nI a) (lN v) = some y ∧ zq_pv r 1 2 (.inr (zq_va l k q v, a)) y ∧ zq_F (zq_PR r) s y.2 := by
  intro k
  induction k with
  | zero =>
    intro f q v s w d rd c h1 h2 hf hv
    obtain ⟨f, rfl⟩ : ∃ q, f = q + 1 := ⟨f - 1, by omega⟩
    have : q = a := by omega
    subst this
    have hl := d.2.1
    rw [zl_Reader_readInteger_41, c.2.1]
    exact zv_ck rd.1 (zv_t (nI_le (Nat.le_refl _) (by omega)) (zv_r ⟨⟨rfl, c⟩, zq_F.rf⟩))
  | succ k ih =>
    intro f q v s w d rd c h1 h2 hf hv
    obtain ⟨f, rfl⟩ : ∃ q, f = q + 1 := ⟨f - 1, by omega⟩
    have hl := d.2.1
    have hr := rd.2.2
    have bd := zq_bd d.2.2.1 q
    have f1 : zq_F (zq_PR r) s (zh_uI s r 1 (nI (q + 1))) := zq_F.rf.uI ⟨rfl, Or.inl rfl⟩ _
    have v0 := hv 0 (by omega)
    rw [zq_va] at v0
    obtain ⟨y, e1, g1, k1⟩ := ih f (q + 1) (v * 256 + l.getD q 0) (zh_uI s r 1 (nI (q + 1))) (f1.w w) (d.kR f1 hr) (f1.1.rd rd) ⟨by rw [zs_II, if_neg (by omega)]; exact c.1, by rw [zs_II, if_pos ⟨rfl, rfl⟩], by omega⟩ (by omega) (by omega) (by omega) (fun j hj => by have := hv (j + 1) (by omega); rw [zq_va] at this; exact this)
    refine ⟨y, ?_, by rw [zq_va]; exact g1, f1.tr k1⟩
    rw [zl_Reader_readInteger_41, c.2.1, if_pos rd.1, if_neg (nI_ge (by omega) (by omega)), rd.2.1]
    simp only [zk_p]
    rw [if_pos ⟨zw_K1 w, zw_N1 w⟩, zw_R1_0 w]
    simp only [zk_p]
    rw [if_pos (zw_A2 w (by omega)), nI_clamp (by omega), d.2.2.2 q (by omega), zn_or8 v0 bd, nI_1]
    exact e1
theorem zq_va_mono {l : List Nat} (hb : ∀ b ∈ l, b < 256) : ∀ k q v, v * 256 ^ k ≤ zq_va l k q v := by
  intro k
  induction k with
  | zero => intro q v; rw [zq_va]; omega
  | succ k ih =>
    intro q v
    rw [zq_va]
    have h1 := ih (q + 1) (v * 256 + l.getD q 0)
    have h3 : v * 256 * 256 ^ k ≤ (v * 256 + l.getD q 0) * 256 ^ k := Nat.mul_le_mul_right _ (by omega)
    have h4 : v * 256 * 256 ^ k = v * 256 ^ (k + 1) := by rw [Nat.pow_succ, Nat.mul_assoc, Nat.mul_comm 256]
    omega
/-- all that is read before the last byte is small -/
theorem zq_va_55 {l : List Nat} (hb : ∀ b ∈ l, b < 256) {a q : Nat} (h : zq_ig l a q = true) : ∀ j, j < a - q → zq_va l j q 0 < 2 ^ 55 := by
  unfold zq_ig at h
  rw [decide_eq_true_eq] at h
  obtain ⟨h1, h2, h3, -⟩ := h
  intro j hj
  cases j with
  | zero => rw [zq_va]; decide
  | succ j =>
    rw [zq_va]
    have g := zq_va_lt hb j (q + 1) (0 * 256 + l.getD q 0)
    have g2 : (0 * 256 + l.getD q 0 + 1) * 256 ^ j ≤ 128 * 256 ^ j := Nat.mul_le_mul_right _ (by omega)
    have g3 : 256 ^ j ≤ 256 ^ 6 := Nat.pow_le_pow_right (by decide) (by omega)
    have g4 : 128 * 256 ^ j ≤ 128 * 256 ^ 6 := Nat.mul_le_mul_left _ g3
    have g5 : 128 * 256 ^ 6 = 2 ^ 55 := by decide
    omega
theorem zp_isInteger (n : Nat) {s : zh_S} {r : Nat} {l : List Nat} {a q : Nat} (w : zq_w s) (d : zq_dV s l) (rd : zq_rd s r) (c : zq_cu s r 1 2 (.inr q)) (hq : q ≤ a) (ha : a ≤ l.length) : zf_Reader_isInteger n s r (nI a) = some (if zq_ig l a q then 1 else 0) := by
  obtain ⟨h0, hp, hp2⟩ := c
  have hl := d.2.1
  have b0 := zq_bd d.2.2.1 q
  have b1 := zq_bd d.2.2.1 (q + 1)
  have : ∃ x, zf_Reader_isInteger n s r (nI a) = some x ∧ x = if zq_ig l a q then 1 else 0 := by
    unfold zq_ig
    rw [zf_Reader_isInteger, hp, zi_sub hq]
    refine zv_ck rd.1 (zv_l ?_)
    try dsimp only
    by_cases c1 : a - q < 1
    · exact zv_t (nI_lt (b := 1) c1 (by omega)) (zv_r (by rw [decide_eq_false (by omega)]; rfl))
    refine zv_f (nI_nlt (b := 1) (by omega) (by omega)) ?_
    by_cases c2 : a - q ≤ 8
    rotate_left 1
    · exact zv_f (nI_ge (a := 8) (by omega) (by omega)) (zv_r (by rw [decide_eq_false (by omega)]; rfl))
    refine zv_t (nI_le (b := 8) c2 (by omega)) (zv_p rd.2.1 (zv_ck ⟨zw_K1 w, zw_N1 w⟩ (zv_p (zw_R1_0 w) (zv_ck (zw_A2 w (by omega)) (zv_l ?_)))))
    try dsimp only
    rw [nI_clamp (by omega), d.2.2.2 q (by omega)]
    by_cases c3 : 128 ≤ l.getD q 0
    · exact zv_t (nI_le (a := 128) c3 (by omega)) (zv_r (by rw [decide_eq_false (by omega)]; rfl))
    refine zv_f (nI_ge (b := 128) (by omega) (by omega)) ?_
    by_cases c4 : 0 < l.getD q 0
    · exact zv_t (nI_lt (a := 0) c4 (by omega)) (zv_r (by rw [decide_eq_true (by omega)]; rfl))
    refine zv_f (nI_nlt (a := 0) (by omega) (by omega)) ?_
    by_cases c5 : a - q = 1
    · exact zv_t (by rw [c5]; rfl) (zv_r (by rw [decide_eq_true (by omega)]; rfl))
    refine zv_f (fun h => c5 ((nI_eq (b := 1) (by omega) (by omega)).mp h)) (zv_p rd.2.1 (zv_ck ⟨zw_K1 w, zw_N1 w⟩ (zv_p (zw_R1_0 w) ?_)))
    try dsimp only
    rw [nI_1]
    refine zv_ck (zw_A2 w (by omega)) ?_
    rw [nI_clamp (by omega), d.2.2.2 (q + 1) (by omega)]
    by_cases c6 : l.getD (q + 1) 0 < 128
    · exact zv_t (nI_lt (b := 128) c6 (by omega)) (zv_r (by rw [decide_eq_false (by omega)]; rfl))
    · exact zv_f (nI_nlt (b := 128) (by omega) (by omega)) (zv_r (by rw [decide_eq_true (by omega)]; rfl))
  obtain ⟨x, e1, rfl⟩ := this
  exact e1
theorem zp_rint {n : Nat} (hn : 300 ≤ n) {s : zh_S} {r : Nat} {l : List Nat} {e p : Nat} (w : zq_w s) (d : zq_dV s l) (rd : zq_rd s r) (c : zq_cu s r 1 2 (.inr p)) (he : e ≤ l.length) : ∃ y, zf_Reader_readInteger n s r (nI e) = some y ∧ zq_pv r 1 2 (zq_ri l e p) y ∧ zq_F (zq_PR r) s y.2 := by
  obtain ⟨y, e1, g1, k1⟩ := zp_open n (tag := 2) w d rd c he (by decide)
  have w1 := k1.w w
  have rd1 := k1.1.rd rd
  have d1 := d.kR k1 rd.2.2
  have hl := d.2.1
  rw [zf_Reader_readInteger, c.2.1]
  refine zv_ck rd.1 (zv_l (zv_b (a := y.1) (b := y.2) e1 (zv_ck rd1.1 ?_)))
  unfold zq_ri
  cases ho : zq_op l 2 e p with
  | inl f =>
    rw [ho] at g1
    exact zv_f (zq_cu_ne (kp := 1) g1) (zv_r ⟨g1, k1⟩)
  | inr aq =>
    obtain ⟨a, q⟩ := aq
    rw [ho] at g1
    obtain ⟨g1, g2⟩ := g1
    have hle := zq_op_le ho
    refine zv_t g2.1 ?_
    try dsimp only
    rw [g1]
    refine zv_p (zp_isInteger n w1 d1 rd1 g2 (by omega) (by omega)) ?_
    by_cases ci : zq_ig l a q = true
    · rw [if_pos ci, if_pos ci]
      obtain ⟨z, e2, g3, k2⟩ := zp_rint_l n (a := a) (l := l) (by omega) (a - q) n q 0 y.2 w1 d1 rd1 g2 rfl (by omega) (by omega) (zq_va_55 d.2.2.1 ci)
      exact zv_f (by decide) ⟨z, e2, g3, k1.tr k2⟩
    · rw [if_neg ci, if_neg ci]
      obtain ⟨u, e2, g3, k2⟩ := zp_fail n rd1 g2.1 (k := 4) (q := p) (by omega) (by omega) c.2.2
      exact zv_t rfl (zv_b e2 (zv_r ⟨g3, k1.tr k2⟩))
theorem zp_rint1 (n : Nat) {s : zh_S} {r f : Nat} (rd : zq_rd s r) (c : zq_cu s r 1 2 (.inl f)) (x : Int32) : zf_Reader_readInteger n s r x = some (0, s) := by
  obtain ⟨z, e1⟩ := zp_open1 n rd c 2 x
  rw [zf_Reader_readInteger, if_pos rd.1]
  simp only [zk_l]
  rw [e1]
  simp only [zk_b]
  rw [if_pos rd.1, if_neg (zq_cu_ne c)]
theorem zp_num_l (n : Nat) {a : Nat} {l : List Nat} (ha : a ≤ l.length) {s : zh_S} (w : zq_w s) (d : zq_dM s l) (h0 : zh_I s 44 10 = nI 0) : ∀ (k f q v : Nat), a - q = k → q ≤ a → k < f → (∀ j, j < k → zq_va l j q v < 2 ^ 55) → ∃ y, zl_M_number_118 n f s 44 (nI a) 1 (lN v) (nI q) = some y ∧ zq_pv 44 9 10 (.inr (zq_va l k q v, a)) y ∧ zq_F zq_PS s y.2 := by
  have hl := d.2.1
  intro k
  induction k with
  | zero =>
    intro f q v h1 h2 hf hv
    obtain ⟨f, rfl⟩ : ∃ q, f = q + 1 := ⟨f - 1, by omega⟩
    have : q = a := by omega
    subst this
    rw [zl_M_number_118, zb_M_number_151]
    refine zv_t (nI_le (Nat.le_refl _) (by omega)) (zv_ck ⟨zw_K44 w, zw_N44 w⟩ (zv_l (zv_r ⟨⟨rfl, ?_, ?_, by omega⟩, zq_F.rf.uI ⟨rfl, Or.inl rfl⟩ _⟩)))
    · rw [zs_II, if_neg (by omega)]; exact h0
    · rw [zs_II, if_pos ⟨rfl, rfl⟩]
  | succ k ih =>
    intro f q v h1 h2 hf hv
    obtain ⟨f, rfl⟩ : ∃ q, f = q + 1 := ⟨f - 1, by omega⟩
    have bd := zq_bd d.2.2.1 q
    have v0 := hv 0 (by omega)
    rw [zq_va] at v0
    obtain ⟨y, e1, g1, k1⟩ := ih f (q + 1) (v * 256 + l.getD q 0) (by omega) (by omega) (by omega) (fun j hj => by have := hv (j + 1) (by omega); rw [zq_va] at this; exact this)
    refine ⟨y, ?_, by rw [zq_va]; exact g1, k1⟩
    rw [zl_M_number_118, if_neg (nI_ge (by omega) (by omega)), if_neg (show ¬ (1 : Int32) = 0 by decide), if_pos ⟨zw_K44 w, zw_N44 w⟩, zw_R44_0 w]
    simp only [zk_p]
    rw [if_pos (zw_A45 w (by omega)), nI_clamp (by omega), d.2.2.2 q (by omega), zn_or8 v0 bd, nI_1]
    exact e1
theorem zn_in18 (n : Nat) {x : Nat} (hx : x < 2 ^ 31) : zf_M_in n (lN x) 1 8 = some (if 1 ≤ x ∧ x ≤ 8 then 1 else 0) := by
  rw [zn_in]
  have e : ((1 : Int64) ≤ lN x ∧ lN x ≤ 8) ↔ (1 ≤ x ∧ x ≤ 8) := by
    rw [zl_1, zl_8, pk_lLE (by omega) (by omega), pk_lLE (by omega) (by omega)]
  by_cases h : 1 ≤ x ∧ x ≤ 8
  · rw [if_pos h, if_pos (e.mpr h)]
  · rw [if_neg h, if_neg (fun q => h (e.mp q))]
theorem zp_num {n : Nat} (hn : 300 ≤ n) {s : zh_S} {l : List Nat} {e p : Nat} (w : zq_w s) (d : zq_dM s l) (c : zq_cu s 44 9 10 (.inr p)) (he : e ≤ l.length) : ∃ y, zf_M_number n s 44 (nI e) = some y ∧ zq_pv 44 9 10 (zq_ri l e p) y ∧ zq_F zq_PS s y.2 := by
  obtain ⟨y, e1, g1, k1⟩ := zp_head n (tag := 2) w d c he (by decide)
  have w1 := k1.w w
  have d1 := d.kS k1
  have hl := d.2.1
  rw [zf_M_number, c.2.1]
  refine zv_ck ⟨zw_K44 w, zw_N44 w⟩ (zv_l (zv_b (a := y.1) (b := y.2) e1 (zv_ck ⟨zw_K44 w1, zw_N44 w1⟩ ?_)))
  unfold zq_ri
  cases ho : zq_op l 2 e p with
  | inl f =>
    rw [ho] at g1
    exact zv_f (zq_cu_ne (kp := 9) g1) (zv_r ⟨g1, k1⟩)
  | inr aq =>
    obtain ⟨a, q⟩ := aq
    rw [ho] at g1
    obtain ⟨g1, g2⟩ := g1
    have hle := zq_op_le ho
    have b0 := zq_bd d.2.2.1 q
    have b1 := zq_bd d.2.2.1 (q + 1)
    have by_ : ∀ j, j < l.length → zh_I y.2 45 (nI j).toNatClampNeg = nI (l.getD j 0) := fun j hj => by rw [nI_clamp (by omega)]; exact d1.2.2.2 j hj
    have yes : zq_ig l a q = true → ∃ z, zb_M_number_91 n y.2 44 (nI p) (nI a) = some z ∧ zq_pv 44 9 10 (if zq_ig l a q then .inr (zq_va l (a - q) q 0, a) else .inl (4 + 16 * p)) z ∧ zq_F zq_PS s z.2 := by
      intro ci
      obtain ⟨z, e2, g3, k2⟩ := zp_num_l n (a := a) (l := l) (by omega) w1 d1 g2.1 (a - q) n q 0 rfl (by omega) (by omega) (zq_va_55 d.2.2.1 ci)
      rw [if_pos ci, zb_M_number_91, zb_M_number_96, zb_M_number_109, g2.2.1]
      exact zv_f (by decide) (zv_ck ⟨zw_K44 w1, zw_N44 w1⟩ (zv_l ⟨z, e2, g3, k1.tr k2⟩))
    have no : ¬ zq_ig l a q = true → ∃ z, zb_M_number_95 n y.2 44 (nI p) (nI a) = some z ∧ zq_pv 44 9 10 (if zq_ig l a q then .inr (zq_va l (a - q) q 0, a) else .inl (4 + 16 * p)) z ∧ zq_F zq_PS s z.2 := by
      intro ci
      obtain ⟨u, e2, g3, k2⟩ := zp_fails n w1 g2.1 (k := 4) (q := p) (by omega) (by omega) c.2.2
      have wu := k2.w w1
      have end_ : ∀ t : zh_S, zq_w t → zq_cu t 44 9 10 (.inl (4 + 16 * p)) → zq_F zq_PS s t → ∃ z, zb_M_number_151 n t 44 (nI a) 0 = some z ∧ zq_cu z.2 44 9 10 (.inl (4 + 16 * p)) ∧ zq_F zq_PS s z.2 := by
        intro t wt ct ft
        rw [zb_M_number_151]
        refine zv_ck ⟨zw_K44 wt, zw_N44 wt⟩ (zv_l (zv_r ⟨⟨?_, ct.2⟩, ft.uI ⟨rfl, Or.inl rfl⟩ _⟩))
        rw [zs_II, if_neg (by omega)]; exact ct.1
      rw [if_neg ci, zb_M_number_95, zb_M_number_96]
      refine zv_t rfl (zv_ck ⟨zw_K44 w1, zw_N44 w1⟩ (zv_p e2 ?_))
      rw [zb_M_number_109]
      refine zv_ck ⟨zw_K44 wu, zw_N44 wu⟩ (zv_l ?_)
      obtain ⟨m, rfl⟩ : ∃ m, n = m + 1 := ⟨n - 1, by omega⟩
      rw [zl_M_number_118]
      by_cases h : nI a ≤ zh_I u 44 9
      · exact zv_t h (end_ u wu g3 (k1.tr k2))
      · exact zv_f h (zv_t rfl (end_ u wu g3 (k1.tr k2)))
    refine zv_t g2.1 ?_
    try dsimp only
    rw [g1, g2.2.1, zi_sub (by omega)]
    refine zv_l ?_
    try dsimp only
    rw [nI_l (by omega)]
    refine zv_p (zn_in18 n (by omega)) ?_
    unfold zq_ig at yes no ⊢
    by_cases c1 : 1 ≤ a - q ∧ a - q ≤ 8
    rotate_left 1
    · exact zv_t (by rw [if_neg c1]) (no (by rw [decide_eq_true_eq]; omega))
    refine zv_f (by rw [if_pos c1]; decide) (zv_p (zw_R44_0 w1) (zv_ck (zw_A45 w1 (by omega)) ?_))
    try dsimp only
    rw [by_ q (by omega)]
    by_cases c2 : 128 ≤ l.getD q 0
    · exact zv_t (nI_le (a := 128) c2 (by omega)) (no (by rw [decide_eq_true_eq]; omega))
    refine zv_f (nI_ge (b := 128) (by omega) (by omega)) (zv_p (zw_R44_0 w1) (zv_ck (zw_A45 w1 (by omega)) ?_))
    try dsimp only
    rw [by_ q (by omega)]
    by_cases c3 : l.getD q 0 = 0
    rotate_left 1
    · exact zv_f (nI_ne0 (by omega) (by omega)) (yes (by rw [decide_eq_true_eq]; omega))
    refine zv_t (by rw [c3]; rfl) ?_
    by_cases c4 : a - q = 1
    · exact zv_t (by rw [c4]; rfl) (yes (by rw [decide_eq_true_eq]; omega))
    refine zv_f (fun h => c4 ((nI_eq (b := 1) (by omega) (by omega)).mp h)) (zv_p (zw_R44_0 w1) ?_)
    try dsimp only
    rw [nI_1]
    refine zv_ck (zw_A45 w1 (by omega)) ?_
    rw [by_ (q + 1) (by omega)]
    by_cases c5 : l.getD (q + 1) 0 ≤ 127
    · exact zv_t (nI_le (b := 127) c5 (by omega)) (no (by rw [decide_eq_true_eq]; omega))
    · exact zv_f (nI_ge (a := 127) (by omega) (by omega)) (yes (by rw [decide_eq_true_eq]; omega))
theorem zp_num1 (n : Nat) {s : zh_S} {f : Nat} (w : zq_w s) (c : zq_cu s 44 9 10 (.inl f)) (x : Int32) : zf_M_number n s 44 x = some (0, s) := by
  rw [zf_M_number, if_pos ⟨zw_K44 w, zw_N44 w⟩]
  simp only [zk_l]
  rw [zp_head1 n w c]
  simp only [zk_b]
  rw [if_pos ⟨zw_K44 w, zw_N44 w⟩, if_neg (zq_cu_ne c)]
