/-! Reading names. -/
def zq_fa (b : Nat) : Nat := if b = 46 then 27 else if b < 97 then 31 else if 122 < b then 31 else b - 96
def zq_nv (l : List Nat) : Nat → Nat → Nat
  | 0, _ => 0
  | k + 1, q => zq_fa (l.getD q 0) + 32 * zq_nv l k (q + 1)
def zq_rn (l : List Nat) (tag e p : Nat) : Nat ⊕ (Nat × Nat) := match zq_op l tag e p with
  | .inl f => .inl f
  | .inr (a, q) => if a - q ≤ 8 ∧ zq_nm (zq_nv l (a - q) q) = true then .inr (zq_nv l (a - q) q, a) else .inl (4 + 16 * p)
theorem zq_fa_lt (b : Nat) : zq_fa b < 32 := by
  unfold zq_fa; repeat' split
  all_goals omega
theorem zq_nv_lt (l : List Nat) : ∀ k q, zq_nv l k q < 32 ^ k := by
  intro k
  induction k with
  | zero => intro q; rw [zq_nv]; decide
  | succ k ih =>
    intro q
    have h1 := ih (q + 1)
    have h2 := zq_fa_lt (l.getD q 0)
    rw [zq_nv, Nat.pow_succ]
    omega
theorem zq_nv_c (l : List Nat) : ∀ i k q, i < k → zq_c (zq_nv l k q) i = zq_fa (l.getD (q + i) 0) := by
  intro i
  induction i with
  | zero =>
    intro k q hk
    obtain ⟨k, rfl⟩ : ∃ m, k = m + 1 := ⟨k - 1, by omega⟩
    have h2 := zq_fa_lt (l.getD q 0)
    unfold zq_c
    rw [zq_nv, Nat.pow_zero, Nat.div_one]
    show _ = zq_fa (l.getD q 0)
    omega
  | succ i ih =>
    intro k q hk
    obtain ⟨k, rfl⟩ : ∃ m, k = m + 1 := ⟨k - 1, by omega⟩
    have h2 := zq_fa_lt (l.getD q 0)
    have := ih k (q + 1) (by omega)
    unfold zq_c at this ⊢
    rw [show (32 : Nat) ^ (i + 1) = 32 * 32 ^ i by rw [Nat.pow_succ, Nat.mul_comm], ← Nat.div_div_eq_div_mul, zq_nv, show (zq_fa (l.getD q 0) + 32 * zq_nv l k (q + 1)) / 32 = zq_nv l k (q + 1) by omega, this]
    congr 2
    omega
theorem zq_nv_hi (l : List Nat) : ∀ k q, zq_nv l (k + 1) q = zq_nv l k q + zq_fa (l.getD (q + k) 0) * 32 ^ k := by
  intro k
  induction k with
  | zero => intro q; simp [zq_nv]
  | succ k ih =>
    intro q
    have h := ih (q + 1)
    rw [zq_nv, h]
    conv => rhs; rw [zq_nv]
    rw [show q + 1 + k = q + (k + 1) by omega, Nat.pow_succ]
    grind
theorem zq_nv_bad (l : List Nat) {m q i : Nat} (hi : i < m) (h : zq_fa (l.getD (q + i) 0) = 31) : ¬ zq_nm (zq_nv l m q) = true := by
  intro g
  obtain ⟨L, l0, l8, xz, xd⟩ := zn_nm_len g
  have hc := zq_nv_c l i m q hi
  rw [h] at hc
  by_cases c : i < L
  · have := (xd i c).2; omega
  · unfold zq_c at hc
    rw [zn_z xz i (by omega)] at hc
    simp at hc
theorem zn_fromAscii (n : Nat) {b : Nat} (hb : b < 256) : zf_Names_fromAscii n (nI b) = some (nI (zq_fa b)) := by
  unfold zq_fa
  rw [zf_Names_fromAscii]
  (try simp only [lg_cmp_lt, lg_cmp_gt, lg_cmp_ge, lg_cmp_le, lg_cmp_eq]); simp (disch := omega) only [zi_0, zi_1, zi_2, zi_3, zi_4, zi_5, zi_6, zi_7, zi_8, zi_9, zi_10, zi_11, zi_12, zi_13, zi_14, zi_15, zi_16, zi_17, zi_18, zi_19, zi_20, zi_21, zi_22, zi_23, zi_24, zi_25, zi_26, zi_27, zi_28, zi_29, zi_30, zi_31, zi_32, zi_40, zi_45, zi_46, zi_48, zi_49, zi_50, zi_55, zi_60, zi_63, zi_96, zi_97, zi_110, zi_122, zi_123, zi_127, zi_128, zi_129, zi_130, zi_150, zi_180, zi_200, zi_255, zl_0, zl_1, zl_2, zl_3, zl_4, zl_5, zl_6, zl_7, zl_8, zl_9, zl_10, zl_11, zl_12, zl_13, zl_14, zl_15, zl_16, zl_17, zl_18, zl_19, zl_20, zl_21, zl_22, zl_23, zl_24, zl_25, zl_26, zl_27, zl_28, zl_29, zl_30, zl_31, zl_32, zl_46, zl_96, zl_127, zl_128, zl_255, zl_1000, nI_ltI, nI_leI, nI_eq, pk_lLT, pk_lLE, pk_lEQ, nI_add, zi_sub, zi_mul, zi_dec, nI_clamp, lN_add, lN_mul]
  by_cases c1 : b = 46
  · rw [if_pos c1, if_pos c1]
  rw [if_neg c1, if_neg c1]
  by_cases c2 : b < 97
  · rw [if_pos c2, if_pos c2]
  rw [if_neg c2, if_neg c2]
  by_cases c3 : 122 < b
  · rw [if_pos c3, if_pos c3]
  rw [if_neg c3, if_neg c3]
  congr 2
  omega
theorem zn_or5 {v b : Nat} (hv : v < 2 ^ 50) (hb : b < 32) : lN v <<< ((5 : Int32).toInt64 &&& 63) ||| (nI b).toInt64 = lN (v * 32 + b) := by
  rw [zi_5, zn_sl (by omega), nI_l (by omega), zn_or (k := 5) (by omega) (by omega)]
theorem zp_rname_e {n : Nat} (hn : 300 ≤ n) {r p a q : Nat} {s : zh_S} (rd : zq_rd s r) (c : zq_cu s r 1 2 (.inr q)) (hp : p ≤ 200) (ha : a ≤ 200) {x : Nat} (hx : x < 2 ^ 63) : ∃ y, zb_Reader_readName_79 n s r (nI p) (nI a) (lN x) = some y ∧ zq_pv r 1 2 (if zq_nm x = true then .inr (x, a) else .inl (4 + 16 * p)) y ∧ zq_F (zq_PR r) s y.2 := by
  have hr := rd.2.2
  rw [zb_Reader_readName_79]
  refine zv_p (zn_isName (n := n) (by omega) (lN x)) ?_
  rw [zn_in_lN hx]
  by_cases g : zq_nm x = true
  · rw [if_pos g, if_pos g, zb_Reader_readName_94]
    refine zv_f (by decide) (zv_ck rd.1 (zv_l (zv_r ⟨⟨rfl, ?_, ?_, ha⟩, zq_F.rf.uI ⟨rfl, Or.inl rfl⟩ _⟩)))
    · rw [zs_II, if_neg (by omega)]; exact c.1
    · rw [zs_II, if_pos ⟨rfl, rfl⟩]
  · rw [if_neg g, if_neg g]
    obtain ⟨u, e2, g3, k2⟩ := zp_fail n rd c.1 (k := 4) (q := p) (by omega) (by omega) hp
    refine zv_t rfl (zv_ck rd.1 (zv_b e2 ?_))
    rw [zb_Reader_readName_94]
    refine zv_ck (k2.1.rd rd).1 (zv_l (zv_r ⟨⟨?_, g3.2⟩, k2.uI ⟨rfl, Or.inl rfl⟩ _⟩))
    rw [zs_II, if_neg (by omega)]; exact g3.1
theorem zp_rname_l {n : Nat} (hn : 300 ≤ n) {r p a q : Nat} {l : List Nat} {s : zh_S} (w : zq_w s) (d : zq_dV s l) (rd : zq_rd s r) (c : zq_cu s r 1 2 (.inr q)) (hp : p ≤ 200) (ha : a ≤ l.length) (hq : 2 ≤ q) (h8 : a - q ≤ 8) : ∀ (m f k : Nat), k - q = m → q ≤ k → k ≤ a → m < f → ∃ y, zl_Reader_readName_43 n f s r (nI p) (nI a) (lN (zq_nv l (a - k) k)) (nI k - 1) = some y ∧ zq_pv r 1 2 (if zq_nm (zq_nv l (a - q) q) = true then .inr (zq_nv l (a - q) q, a) else .inl (4 + 16 * p)) y ∧ zq_F (zq_PR r) s y.2 := by
  have hl := d.2.1
  intro m
  induction m with
  | zero =>
    intro f k h1 h2 h3 hf
    obtain ⟨f, rfl⟩ : ∃ q, f = q + 1 := ⟨f - 1, by omega⟩
    have : k = q := by omega
    subst this
    have lt := zq_nv_lt l (a - k) k
    have lt2 : 32 ^ (a - k) ≤ 32 ^ 8 := Nat.pow_le_pow_right (by decide) h8
    rw [zl_Reader_readName_43, c.2.1, show nI k - 1 = nI (k - 1) from zi_sub (b := 1) (by omega)]
    exact zv_ck rd.1 (zv_t (nI_lt (by omega) (by omega)) (zp_rname_e hn rd c hp (by omega) (by omega)))
  | succ m ih =>
    intro f k h1 h2 h3 hf
    obtain ⟨f, rfl⟩ : ∃ q, f = q + 1 := ⟨f - 1, by omega⟩
    obtain ⟨k, rfl⟩ : ∃ j, k = j + 1 := ⟨k - 1, by omega⟩
    obtain ⟨y, e1, g1⟩ := ih f k (by omega) (by omega) (by omega) (by omega)
    have lt := zq_nv_lt l (a - (k + 1)) (k + 1)
    have lt2 : 32 ^ (a - (k + 1)) ≤ 32 ^ 8 := Nat.pow_le_pow_right (by decide) (by omega)
    have bd := zq_bd d.2.2.1 k
    refine ⟨y, ?_, g1⟩
    rw [zl_Reader_readName_43, c.2.1, nI_pred, if_pos rd.1, if_neg (nI_nlt (by omega) (by omega)), rd.2.1]
    simp only [zk_p]
    rw [if_pos ⟨zw_K1 w, zw_N1 w⟩, zw_R1_0 w]
    simp only [zk_p]
    rw [if_pos (zw_A2 w (by omega)), nI_clamp (by omega), d.2.2.2 k (by omega), zn_fromAscii n bd]
    simp only [zk_l]
    rw [zn_or5 (by omega) (zq_fa_lt _), ← Int32.sub_eq_add_neg, ← e1, show a - k = (a - (k + 1)) + 1 by omega, zq_nv, Nat.mul_comm, Nat.add_comm]
theorem zp_rname {n : Nat} (hn : 300 ≤ n) {s : zh_S} {r : Nat} {l : List Nat} {tag e p : Nat} (w : zq_w s) (d : zq_dV s l) (rd : zq_rd s r) (c : zq_cu s r 1 2 (.inr p)) (he : e ≤ l.length) (ht : tag < 256) : ∃ y, zf_Reader_readName n s r (nI tag) (nI e) = some y ∧ zq_pv r 1 2 (zq_rn l tag e p) y ∧ zq_F (zq_PR r) s y.2 := by
  obtain ⟨y, e1, g1, k1⟩ := zp_open n w d rd c he ht
  have w1 := k1.w w
  have rd1 := k1.1.rd rd
  have d1 := d.kR k1 rd.2.2
  have hl := d.2.1
  rw [zf_Reader_readName, c.2.1]
  refine zv_ck rd.1 (zv_l (zv_b (a := y.1) (b := y.2) e1 (zv_ck rd1.1 ?_)))
  unfold zq_rn
  cases ho : zq_op l tag e p with
  | inl f =>
    rw [ho] at g1
    exact zv_f (zq_cu_ne (kp := 1) g1) (zv_r ⟨g1, k1⟩)
  | inr aq =>
    obtain ⟨a, q⟩ := aq
    rw [ho] at g1
    obtain ⟨g1, g2⟩ := g1
    have hle := zq_op_le ho
    refine zv_t g2.1 ?_
    try dsimp only
    rw [g1, g2.2.1, zi_sub (by omega)]
    by_cases c8 : a - q ≤ 8
    · obtain ⟨z, e2, g3, k2⟩ := zp_rname_l hn w1 d1 rd1 g2 c.2.2 (a := a) (by omega) (by omega) c8 (a - q) n a (by omega) (by omega) (Nat.le_refl _) (by omega)
      rw [Nat.sub_self, zq_nv] at e2
      refine zv_f (nI_nlt (a := 8) c8 (by omega)) (zv_l ⟨z, e2, ?_, k1.tr k2⟩)
      by_cases g : zq_nm (zq_nv l (a - q) q) = true
      · rw [if_pos ⟨c8, g⟩]; rw [if_pos g] at g3; exact g3
      · rw [if_neg (fun h => g h.2)]; rw [if_neg g] at g3; exact g3
    · obtain ⟨z, e2, g3, k2⟩ := zp_rname_e hn rd1 g2 c.2.2 (a := a) (by omega) (x := 0) (by omega)
      refine zv_t (nI_lt (a := 8) (by omega) (by omega)) ⟨z, e2, ?_, k1.tr k2⟩
      rw [if_neg (show ¬ zq_nm 0 = true by decide)] at g3
      rw [if_neg (fun h => c8 h.1)]
      exact g3
theorem zp_rname1 (n : Nat) {s : zh_S} {r f : Nat} (rd : zq_rd s r) (c : zq_cu s r 1 2 (.inl f)) (x y : Int32) : zf_Reader_readName n s r x y = some (0, s) := by
  obtain ⟨z, e1⟩ := zp_open1 n rd c x y
  rw [zf_Reader_readName, if_pos rd.1]
  simp only [zk_l]
  rw [e1]
  simp only [zk_b]
  rw [if_pos rd.1, if_neg (zq_cu_ne c)]
section TT
variable {n : Nat} {l : List Nat} {s : zh_S} {p a q : Nat}
theorem zp_title_bad (w : zq_w s) (h0 : zh_I s 44 10 = nI 0) (hp : p ≤ 200) (v : Int64) : ∃ y, zb_M_title_158 n s 44 (nI p) (nI a) v = some y ∧ zq_cu y.2 44 9 10 (.inl (4 + 16 * p)) ∧ zq_F zq_PS s y.2 := by
  obtain ⟨u, e2, g3, k2⟩ := zp_fails n w h0 (k := 4) (q := p) (by omega) (by omega) hp
  have wu := k2.w w
  rw [zb_M_title_158]
  refine zv_ck ⟨zw_K44 w, zw_N44 w⟩ (zv_p e2 ?_)
  rw [zb_M_title_164]
  refine zv_ck ⟨zw_K44 wu, zw_N44 wu⟩ (zv_l (zv_r ⟨⟨?_, g3.2⟩, k2.uI ⟨rfl, Or.inl rfl⟩ _⟩))
  rw [zs_II, if_neg (by omega)]; exact g3.1
theorem zp_title_0 (w : zq_w s) (h0 : zh_I s 44 10 = nI 0) (hp : p ≤ 200) (v : Int64) (k : Int32) {f : Nat} (hf : 0 < f) : ∃ y, zl_M_title_48 n f s 44 (nI p) (nI a) 0 v k = some y ∧ zq_cu y.2 44 9 10 (.inl (4 + 16 * p)) ∧ zq_F zq_PS s y.2 := by
  obtain ⟨f, rfl⟩ : ∃ q, f = q + 1 := ⟨f - 1, by omega⟩
  have e : ∃ y, zb_M_title_145 n s 44 (nI p) (nI a) 0 v = some y ∧ zq_cu y.2 44 9 10 (.inl (4 + 16 * p)) ∧ zq_F zq_PS s y.2 := by
    rw [zb_M_title_145]
    exact zv_t rfl (zp_title_bad w h0 hp v)
  rw [zl_M_title_48]
  by_cases h : nI a ≤ k
  · exact zv_t h e
  · exact zv_f h (zv_t rfl e)
theorem zp_title_l (hn : 300 ≤ n) (w : zq_w s) (d : zq_dM s l) (c : zq_cu s 44 9 10 (.inr q)) (hp : p ≤ 200) (ha : a ≤ l.length) (h8 : a - q ≤ 8) : ∀ (m f k : Nat), a - k = m → q ≤ k → k ≤ a → m + 1 < f → ∃ y, zl_M_title_48 n f s 44 (nI p) (nI a) 1 (lN (zq_nv l (k - q) q)) (nI k) = some y ∧ zq_pv 44 9 10 (if zq_nm (zq_nv l (a - q) q) = true then .inr (zq_nv l (a - q) q, a) else .inl (4 + 16 * p)) y ∧ zq_F zq_PS s y.2 := by
  have hl := d.2.1
  intro m
  induction m with
  | zero =>
    intro f k h1 h2 h3 hf
    obtain ⟨f, rfl⟩ : ∃ q, f = q + 1 := ⟨f - 1, by omega⟩
    have : k = a := by omega
    subst this
    have lt := zq_nv_lt l (k - q) q
    have lt2 : 32 ^ (k - q) ≤ 32 ^ 8 := Nat.pow_le_pow_right (by decide) h8
    rw [zl_M_title_48]
    refine zv_t (nI_le (Nat.le_refl _) (by omega)) ?_
    rw [zb_M_title_145]
    refine zv_f (by decide) (zv_p (zn_misName (n := n) (by omega) _) ?_)
    rw [zn_in_lN (by omega)]
    by_cases g : zq_nm (zq_nv l (k - q) q) = true
    · rw [if_pos g, if_pos g, zb_M_title_164]
      refine zv_f (by decide) (zv_ck ⟨zw_K44 w, zw_N44 w⟩ (zv_l (zv_r ⟨⟨rfl, ?_, ?_, by omega⟩, zq_F.rf.uI ⟨rfl, Or.inl rfl⟩ _⟩)))
      · rw [zs_II, if_neg (by omega)]; exact c.1
      · rw [zs_II, if_pos ⟨rfl, rfl⟩]
    · rw [if_neg g, if_neg g]
      exact zv_t rfl (zp_title_bad w c.1 hp _)
  | succ m ih =>
    intro f k h1 h2 h3 hf
    obtain ⟨f, rfl⟩ : ∃ q, f = q + 1 := ⟨f - 1, by omega⟩
    have lt := zq_nv_lt l (k - q) q
    have lt2 : 32 ^ (k - q) ≤ 32 ^ 8 := Nat.pow_le_pow_right (by decide) (by omega)
    have bd := zq_bd d.2.2.1 k
    have by_ : ∀ j, j < l.length → zh_I s 45 (nI j).toNatClampNeg = nI (l.getD j 0) := fun j hj => by rw [nI_clamp (by omega)]; exact d.2.2.2 j hj
    -- a byte that is no character
    have bad : zq_fa (l.getD k 0) = 31 → ∀ i9 : Int32, ∃ y, zb_M_title_118 n (zl_M_title_48 n f) s 44 (nI p) (nI a) (lN (zq_nv l (k - q) q)) (nI k) i9 = some y ∧ zq_pv 44 9 10 (if zq_nm (zq_nv l (a - q) q) = true then .inr (zq_nv l (a - q) q, a) else .inl (4 + 16 * p)) y ∧ zq_F zq_PS s y.2 := by
      intro hf31 i9
      have hb := zq_nv_bad l (m := a - q) (q := q) (i := k - q) (by omega) (by rw [show q + (k - q) = k by omega]; exact hf31)
      rw [if_neg hb, zb_M_title_118, zb_M_title_119]
      exact zv_ck ⟨zw_K44 w, zw_N44 w⟩ (zv_l (zv_l (zp_title_0 w c.1 hp _ _ (by omega))))
    have good : ¬ zq_fa (l.getD k 0) = 31 → ∃ y, zb_M_title_119 n (zl_M_title_48 n f) s 44 (nI p) (nI a) (lN (zq_nv l (k - q) q)) (nI k) (nI (zq_fa (l.getD k 0))) 1 = some y ∧ zq_pv 44 9 10 (if zq_nm (zq_nv l (a - q) q) = true then .inr (zq_nv l (a - q) q, a) else .inl (4 + 16 * p)) y ∧ zq_F zq_PS s y.2 := by
      intro _
      obtain ⟨y, e1, g1⟩ := ih f (k + 1) (by omega) (by omega) (by omega) (by omega)
      have fl := zq_fa_lt (l.getD k 0)
      have ev : lN (zq_nv l (k - q) q) ||| ((nI (zq_fa (l.getD k 0))).toInt64 <<< (((5 : Int32) * (nI k - nI q)).toInt64 &&& 63)) = lN (zq_nv l (k + 1 - q) q) := by
        have h5 : 32 ^ (k - q) = 2 ^ (5 * (k - q)) := by rw [Nat.pow_mul]
        have h6 : zq_fa (l.getD k 0) * 32 ^ (k - q) ≤ 31 * 32 ^ 8 := Nat.mul_le_mul (by omega) lt2
        rw [zi_sub h2, zi_5, zi_mul, nI_l (by omega), zn_sl (by omega), Int64.or_comm, zn_or (by rw [← h5]; exact lt) (by rw [← h5]; omega), show k + 1 - q = (k - q) + 1 by omega, zq_nv_hi, ← h5, show q + (k - q) = k by omega, Nat.add_comm]
      rw [zb_M_title_119, c.2.1, ev, nI_1]
      exact zv_ck ⟨zw_K44 w, zw_N44 w⟩ (zv_l (zv_l ⟨y, e1, g1⟩))
    have t87 : ∀ c0 : Nat, (l.getD k 0 = 46 ∧ c0 = 27) ∨ (¬ l.getD k 0 = 46 ∧ 96 ≤ l.getD k 0 ∧ c0 = l.getD k 0 - 96) → ∃ y, zb_M_title_87 n (zl_M_title_48 n f) s 44 (nI p) (nI a) (lN (zq_nv l (k - q) q)) (nI k) (nI c0) = some y ∧ zq_pv 44 9 10 (if zq_nm (zq_nv l (a - q) q) = true then .inr (zq_nv l (a - q) q, a) else .inl (4 + 16 * p)) y ∧ zq_F zq_PS s y.2 := by
      intro c0 hc0
      have h27 : c0 ≤ 255 := by omega
      rw [zb_M_title_87]
      by_cases c1 : c0 < 1
      · exact zv_t (nI_lt (b := 1) c1 (by omega)) (bad (by unfold zq_fa; rw [if_neg (by omega), if_pos (by omega)]) _)
      refine zv_f (nI_nlt (b := 1) (by omega) (by omega)) ?_
      by_cases c2 : 27 < c0
      · exact zv_t (nI_lt (a := 27) c2 (by omega)) (bad (by unfold zq_fa; rw [if_neg (by omega), if_neg (by omega), if_pos (by omega)]) _)
      refine zv_f (nI_nlt (a := 27) (by omega) (by omega)) (zv_ck ⟨zw_K44 w, zw_N44 w⟩ (zv_p (zw_R44_0 w) (zv_ck (zw_A45 w (by omega)) ?_)))
      try dsimp only
      rw [by_ k (by omega)]
      by_cases c3 : l.getD k 0 = 123
      · exact zv_t (by rw [c3]; rfl) (bad (by unfold zq_fa; rw [if_neg (by omega), if_neg (by omega), if_pos (by omega)]) _)
      have ec : c0 = zq_fa (l.getD k 0) := by
        unfold zq_fa
        rcases hc0 with ⟨h, rfl⟩ | ⟨h, h2, rfl⟩
        · rw [if_pos h]
        · rw [if_neg h, if_neg (by omega), if_neg (by omega)]
      have ne : ¬ zq_fa (l.getD k 0) = 31 := by omega
      rw [ec]
      exact zv_f (fun h => c3 ((nI_eq (b := 123) (by omega) (by omega)).mp h)) (good ne)
    rw [zl_M_title_48]
    refine zv_f (nI_ge (by omega) (by omega)) (zv_f (by decide) (zv_ck ⟨zw_K44 w, zw_N44 w⟩ (zv_p (zw_R44_0 w) (zv_ck (zw_A45 w (by omega)) ?_))))
    try dsimp only
    rw [by_ k (by omega)]
    by_cases c46 : l.getD k 0 = 46
    · exact zv_t (by rw [c46]; rfl) (t87 27 (Or.inl ⟨c46, rfl⟩))
    refine zv_f (fun h => c46 ((nI_eq (b := 46) (by omega) (by omega)).mp h)) (zv_p (zw_R44_0 w) (zv_ck (zw_A45 w (by omega)) ?_))
    try dsimp only
    rw [by_ k (by omega)]
    by_cases c96 : 96 ≤ l.getD k 0
    · rw [zi_96, zi_sub c96]
      exact t87 _ (Or.inr ⟨c46, c96, rfl⟩)
    · rw [zb_M_title_87]
      refine zv_t ?_ (bad (by unfold zq_fa; rw [if_neg c46, if_pos (by omega)]) _)
      rw [Int32.lt_iff_toInt_lt, Int32.toInt_sub, nI_toInt (by omega), show (96 : Int32).toInt = 96 from rfl, show (1 : Int32).toInt = 1 from rfl, Int.bmod_eq_of_le (by omega) (by omega)]
      omega
end TT
theorem zp_title {n : Nat} (hn : 300 ≤ n) {s : zh_S} {l : List Nat} {tag e p : Nat} (w : zq_w s) (d : zq_dM s l) (c : zq_cu s 44 9 10 (.inr p)) (he : e ≤ l.length) (ht : tag < 256) : ∃ y, zf_M_title n s 44 (nI tag) (nI e) = some y ∧ zq_pv 44 9 10 (zq_rn l tag e p) y ∧ zq_F zq_PS s y.2 := by
  obtain ⟨y, e1, g1, k1⟩ := zp_head n w d c he ht
  have w1 := k1.w w
  have d1 := d.kS k1
  have hl := d.2.1
  rw [zf_M_title, c.2.1]
  refine zv_ck ⟨zw_K44 w, zw_N44 w⟩ (zv_l (zv_b (a := y.1) (b := y.2) e1 (zv_ck ⟨zw_K44 w1, zw_N44 w1⟩ ?_)))
  unfold zq_rn
  cases ho : zq_op l tag e p with
  | inl f =>
    rw [ho] at g1
    exact zv_f (zq_cu_ne (kp := 9) g1) (zv_r ⟨g1, k1⟩)
  | inr aq =>
    obtain ⟨a, q⟩ := aq
    rw [ho] at g1
    obtain ⟨g1, g2⟩ := g1
    have hle := zq_op_le ho
    refine zv_t g2.1 ?_
    try dsimp only
    rw [g1, g2.2.1, zi_sub (by omega), nI_l (by omega)]
    refine zv_p (zn_in18 n (by omega)) (zv_l ?_)
    by_cases c8 : 1 ≤ a - q ∧ a - q ≤ 8
    · obtain ⟨z, e2, g3, k2⟩ := zp_title_l hn w1 d1 g2 c.2.2 (a := a) (by omega) c8.2 (a - q) n q rfl (Nat.le_refl _) (by omega) (by omega)
      rw [Nat.sub_self, zq_nv] at e2
      try dsimp only
      rw [if_pos c8]
      refine ⟨z, e2, ?_, k1.tr k2⟩
      by_cases g : zq_nm (zq_nv l (a - q) q) = true
      · rw [if_pos ⟨c8.2, g⟩]; rw [if_pos g] at g3; exact g3
      · rw [if_neg (fun h => g h.2)]; rw [if_neg g] at g3; exact g3
    · try dsimp only
      rw [if_neg c8]
      obtain ⟨z, e2, g3, k2⟩ := zp_title_0 (n := n) (a := a) w1 g2.1 c.2.2 0 (nI q) (f := n) (by omega)
      refine ⟨z, e2, ?_, k1.tr k2⟩
      rw [if_neg]
      · exact g3
      · rintro ⟨h1, h2⟩
        have : a - q = 0 := by omega
        rw [this, zq_nv] at h2
        exact absurd h2 (by decide)
theorem zp_title1 (n : Nat) {s : zh_S} {f : Nat} (w : zq_w s) (c : zq_cu s 44 9 10 (.inl f)) (x y : Int32) : zf_M_title n s 44 x y = some (0, s) := by
  rw [zf_M_title, if_pos ⟨zw_K44 w, zw_N44 w⟩]
  simp only [zk_l]
  rw [zp_head1 n w c]
  simp only [zk_b]
  rw [if_pos ⟨zw_K44 w, zw_N44 w⟩, if_neg (zq_cu_ne c)]
