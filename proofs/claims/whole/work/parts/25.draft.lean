/-! Writing into the draft: class and reference. -/
theorem zq_push {s : zh_S} {o k a : Nat} {l : List Nat} (d : zq_L s o k a l) {b : Nat} (hb : b < 256) (hl : l.length < 200) (hne : a ≠ o) : zq_L (zh_uI (zh_uI s a l.length (nI b)) o k (nI (l.length + 1))) o k a (l ++ [b]) := by
  refine ⟨?_, by rw [List.length_append]; simp; omega, ?_, fun j hj => ?_⟩
  · rw [zs_II, if_pos ⟨rfl, rfl⟩, List.length_append]; rfl
  · intro c hc
    rcases List.mem_append.mp hc with h | h
    · exact d.2.2.1 c h
    · rw [List.mem_singleton.mp h]; exact hb
  · rw [List.length_append] at hj
    rw [zs_II, if_neg (fun e => hne e.1), zs_II]
    by_cases e : j = l.length
    · subst e
      rw [if_pos ⟨rfl, rfl⟩]
      congr 1
      simp [List.getD]
    · have hj2 : j < l.length := by simp at hj; omega
      rw [if_neg (fun q => e q.2), d.2.2.2 j hj2]
      congr 1
      simp [List.getD, List.getElem?_append_left hj2]
theorem zp_app (n : Nat) {s : zh_S} {l : List Nat} {b : Nat} (w : zq_w s) (d : zq_dV s l) (hb : b < 256) (hl : l.length < 200) : ∃ t, zf_Draft_append n s 1 (nI b) = some (1, t) ∧ zq_dV t (l ++ [b]) ∧ zq_F zq_PD s t := by
  refine ⟨_, ?_, zq_push d hb hl (by decide), (zq_F.rf.uI (Or.inl rfl) _).uI (Or.inr ⟨rfl, rfl⟩) _⟩
  have e0 : zf_Draft_isByte n (nI b) = some 1 := by
    rw [zf_Draft_isByte]
    (try simp only [lg_cmp_lt, lg_cmp_gt, lg_cmp_ge, lg_cmp_le, lg_cmp_eq]); simp (disch := omega) only [zi_0, zi_1, zi_2, zi_3, zi_4, zi_5, zi_6, zi_7, zi_8, zi_9, zi_10, zi_11, zi_12, zi_13, zi_14, zi_15, zi_16, zi_17, zi_18, zi_19, zi_20, zi_21, zi_22, zi_23, zi_24, zi_25, zi_26, zi_27, zi_28, zi_29, zi_30, zi_31, zi_32, zi_40, zi_45, zi_46, zi_48, zi_49, zi_50, zi_55, zi_60, zi_63, zi_96, zi_97, zi_110, zi_122, zi_123, zi_127, zi_128, zi_129, zi_130, zi_150, zi_180, zi_200, zi_255, zl_0, zl_1, zl_2, zl_3, zl_4, zl_5, zl_6, zl_7, zl_8, zl_9, zl_10, zl_11, zl_12, zl_13, zl_14, zl_15, zl_16, zl_17, zl_18, zl_19, zl_20, zl_21, zl_22, zl_23, zl_24, zl_25, zl_26, zl_27, zl_28, zl_29, zl_30, zl_31, zl_32, zl_46, zl_96, zl_127, zl_128, zl_255, zl_1000, nI_ltI, nI_leI, nI_eq, pk_lLT, pk_lLE, pk_lEQ, nI_add, zi_sub, zi_mul, zi_dec, nI_clamp, lN_add, lN_mul]
    rw [if_neg (by omega), if_neg (by omega)]
  rw [zf_Draft_append, e0]
  simp only [zk_p, zk_l, zh_oo, zh_oa, zs_RI, zs_KI, zs_NI, zw_N0 w, zw_N1 w, zw_N2 w, zw_N3 w, zw_N4 w, zw_N5 w, zw_N6 w, zw_N7 w, zw_N8 w, zw_N9 w, zw_N44 w, zw_N45 w, zw_N46 w, zw_N47 w, zw_N48 w, zw_N49 w, zw_N50 w, zw_N51 w, zw_N52 w, zw_N53 w, zw_N54 w, zw_N55 w, zw_N56 w, zw_N57 w, zw_N58 w, zw_N59 w, zw_N60 w, zw_N61 w, zw_K0 w, zw_K1 w, zw_K2 w, zw_K3 w, zw_K4 w, zw_K5 w, zw_K6 w, zw_K7 w, zw_K8 w, zw_K9 w, zw_K44 w, zw_K45 w, zw_K46 w, zw_K47 w, zw_K48 w, zw_K49 w, zw_K50 w, zw_K51 w, zw_K52 w, zw_K53 w, zw_K54 w, zw_K55 w, zw_K56 w, zw_K57 w, zw_K58 w, zw_K59 w, zw_K60 w, zw_K61 w, zw_R0_0 w, zw_R0_1 w, zw_R0_2 w, zw_R1_0 w, zw_R3_0 w, zw_R3_1 w, zw_R3_2 w, zw_R7_0 w, zw_R7_1 w, zw_R44_0 w, zw_R44_2 w, zw_R44_4 w, zw_R44_5 w, zw_R44_6 w, zw_R44_7 w, zw_R44_8 w, zw_R44_11 w, zw_R44_13 w, zw_R44_14 w, zw_R44_16 w, zw_R44_18 w, zw_R44_19 w, zw_R44_20 w, zw_R44_21 w, zw_R44_22 w, zw_R44_23 w, d.1, zs_II]
  (try simp only [lg_cmp_lt, lg_cmp_gt, lg_cmp_ge, lg_cmp_le, lg_cmp_eq]); simp (disch := omega) only [zi_0, zi_1, zi_2, zi_3, zi_4, zi_5, zi_6, zi_7, zi_8, zi_9, zi_10, zi_11, zi_12, zi_13, zi_14, zi_15, zi_16, zi_17, zi_18, zi_19, zi_20, zi_21, zi_22, zi_23, zi_24, zi_25, zi_26, zi_27, zi_28, zi_29, zi_30, zi_31, zi_32, zi_40, zi_45, zi_46, zi_48, zi_49, zi_50, zi_55, zi_60, zi_63, zi_96, zi_97, zi_110, zi_122, zi_123, zi_127, zi_128, zi_129, zi_130, zi_150, zi_180, zi_200, zi_255, zl_0, zl_1, zl_2, zl_3, zl_4, zl_5, zl_6, zl_7, zl_8, zl_9, zl_10, zl_11, zl_12, zl_13, zl_14, zl_15, zl_16, zl_17, zl_18, zl_19, zl_20, zl_21, zl_22, zl_23, zl_24, zl_25, zl_26, zl_27, zl_28, zl_29, zl_30, zl_31, zl_32, zl_46, zl_96, zl_127, zl_128, zl_255, zl_1000, nI_ltI, nI_leI, nI_eq, pk_lLT, pk_lLE, pk_lEQ, nI_add, zi_sub, zi_mul, zi_dec, nI_clamp, lN_add, lN_mul]
  simp [hl, nI_add]
  try omega
theorem zp_add (n : Nat) {s : zh_S} {l : List Nat} {b : Nat} (w : zq_w s) (d : zq_dM s l) (hb : b < 256) (hl : l.length < 200) : ∃ t, zf_M_add n s 44 (nI b) = some t ∧ zq_dM t (l ++ [b]) ∧ zq_F zq_PE s t := by
  refine ⟨_, ?_, zq_push d hb hl (by decide), (zq_F.rf.uI (Or.inl rfl) _).uI (Or.inr ⟨rfl, rfl⟩) _⟩
  rw [zf_M_add]
  simp only [zk_p, zk_l, zh_oo, zh_oa, zs_RI, zs_KI, zs_NI, zw_N0 w, zw_N1 w, zw_N2 w, zw_N3 w, zw_N4 w, zw_N5 w, zw_N6 w, zw_N7 w, zw_N8 w, zw_N9 w, zw_N44 w, zw_N45 w, zw_N46 w, zw_N47 w, zw_N48 w, zw_N49 w, zw_N50 w, zw_N51 w, zw_N52 w, zw_N53 w, zw_N54 w, zw_N55 w, zw_N56 w, zw_N57 w, zw_N58 w, zw_N59 w, zw_N60 w, zw_N61 w, zw_K0 w, zw_K1 w, zw_K2 w, zw_K3 w, zw_K4 w, zw_K5 w, zw_K6 w, zw_K7 w, zw_K8 w, zw_K9 w, zw_K44 w, zw_K45 w, zw_K46 w, zw_K47 w, zw_K48 w, zw_K49 w, zw_K50 w, zw_K51 w, zw_K52 w, zw_K53 w, zw_K54 w, zw_K55 w, zw_K56 w, zw_K57 w, zw_K58 w, zw_K59 w, zw_K60 w, zw_K61 w, zw_R0_0 w, zw_R0_1 w, zw_R0_2 w, zw_R1_0 w, zw_R3_0 w, zw_R3_1 w, zw_R3_2 w, zw_R7_0 w, zw_R7_1 w, zw_R44_0 w, zw_R44_2 w, zw_R44_4 w, zw_R44_5 w, zw_R44_6 w, zw_R44_7 w, zw_R44_8 w, zw_R44_11 w, zw_R44_13 w, zw_R44_14 w, zw_R44_16 w, zw_R44_18 w, zw_R44_19 w, zw_R44_20 w, zw_R44_21 w, zw_R44_22 w, zw_R44_23 w, d.1, zs_II]
  (try simp only [lg_cmp_lt, lg_cmp_gt, lg_cmp_ge, lg_cmp_le, lg_cmp_eq]); simp (disch := omega) only [zi_0, zi_1, zi_2, zi_3, zi_4, zi_5, zi_6, zi_7, zi_8, zi_9, zi_10, zi_11, zi_12, zi_13, zi_14, zi_15, zi_16, zi_17, zi_18, zi_19, zi_20, zi_21, zi_22, zi_23, zi_24, zi_25, zi_26, zi_27, zi_28, zi_29, zi_30, zi_31, zi_32, zi_40, zi_45, zi_46, zi_48, zi_49, zi_50, zi_55, zi_60, zi_63, zi_96, zi_97, zi_110, zi_122, zi_123, zi_127, zi_128, zi_129, zi_130, zi_150, zi_180, zi_200, zi_255, zl_0, zl_1, zl_2, zl_3, zl_4, zl_5, zl_6, zl_7, zl_8, zl_9, zl_10, zl_11, zl_12, zl_13, zl_14, zl_15, zl_16, zl_17, zl_18, zl_19, zl_20, zl_21, zl_22, zl_23, zl_24, zl_25, zl_26, zl_27, zl_28, zl_29, zl_30, zl_31, zl_32, zl_46, zl_96, zl_127, zl_128, zl_255, zl_1000, nI_ltI, nI_leI, nI_eq, pk_lLT, pk_lLE, pk_lEQ, nI_add, zi_sub, zi_mul, zi_dec, nI_clamp, lN_add, lN_mul]
  simp [hl, nI_add]
  try omega
/-- a number as bytes -/
def zq_iln (v : Nat) : Nat → Nat → Nat
  | 0, i => i
  | r + 1, i => if 8 ≤ i then i else if v / 2 ^ (8 * i - 1) = 0 then i else zq_iln v r (i + 1)
def zq_ln (v : Nat) : Nat := zq_iln v 8 1
def zq_by (v : Nat) : Nat → List Nat
  | 0 => []
  | k + 1 => (v / 2 ^ (8 * k) % 256) :: zq_by v k
def zq_eI (v : Nat) : List Nat := 2 :: zq_ln v :: zq_by v (zq_ln v)
theorem zq_by_len (v k : Nat) : (zq_by v k).length = k := by
  induction k with
  | zero => rfl
  | succ k ih => rw [zq_by, List.length_cons, ih]
theorem zq_iln_le (v : Nat) : ∀ r i, i ≤ 8 → i ≤ zq_iln v r i ∧ zq_iln v r i ≤ 8 := by
  intro r
  induction r with
  | zero => intro i hi; exact ⟨Nat.le_refl _, hi⟩
  | succ r ih =>
    intro i hi
    rw [zq_iln]
    by_cases h8 : 8 ≤ i
    · rw [if_pos h8]; omega
    · rw [if_neg h8]
      split
      · omega
      · have := ih (i + 1) (by omega); omega
theorem zq_ln_le (v : Nat) : 1 ≤ zq_ln v ∧ zq_ln v ≤ 8 := zq_iln_le v 8 1 (by decide)
theorem zq_eI_len (v : Nat) : (zq_eI v).length ≤ 10 := by
  have := zq_ln_le v
  rw [zq_eI, List.length_cons, List.length_cons, zq_by_len]; omega
theorem zn_b255 {v k : Nat} (hv : v < 2 ^ 63) (hk : k < 8) : (zu_l (lN v) ((8 : Int32) * nI k)).toInt32 &&& (255 : Int32) = nI (v / 2 ^ (8 * k) % 256) := by
  have l1 : v / 2 ^ (8 * k) ≤ v := Nat.div_le_self _ _
  rw [zi_8, zi_mul, zn_ur (by omega) (by omega), lN_i, pk_and _ 8 (by decide +kernel)]
  congr 1
  show (BitVec.ofNat 32 _).toNat % 256 = _
  rw [BitVec.toNat_ofNat]
  omega
theorem zn_m255 {v k : Nat} (hv : v < 2 ^ 63) (hk : k < 8) : ((lN v >>> (((8 : Int32) * nI k).toInt64 &&& 63)) &&& (255 : Int64)).toInt32 = nI (v / 2 ^ (8 * k) % 256) := by
  have l1 : v / 2 ^ (8 * k) ≤ v := Nat.div_le_self _ _
  rw [zi_8, zi_mul, zn_sr hv (by omega), zn_andN (by omega) 8 (by decide +kernel), lN_i]
theorem zp_int_l (n : Nat) {v : Nat} (hv : v < 2 ^ 63) : ∀ (k f : Nat) (s : zh_S) (l : List Nat), zq_w s → zq_dV s l → l.length + k ≤ 200 → k < f → k ≤ 8 → ∃ t, zl_Draft_appendInteger_44 n f s 1 (lN v) (nI k - 1) = some t ∧ zq_dV t (l ++ zq_by v k) ∧ zq_F zq_PD s t := by
  intro k
  induction k with
  | zero =>
    intro f s l w d hl hf _
    obtain ⟨f, rfl⟩ : ∃ q, f = q + 1 := ⟨f - 1, by omega⟩
    refine ⟨s, ?_, by rw [zq_by, List.append_nil]; exact d, zq_F.rf⟩
    rw [zl_Draft_appendInteger_44, if_pos (by decide)]
  | succ k ih =>
    intro f s l w d hl hf hk
    obtain ⟨f, rfl⟩ : ∃ q, f = q + 1 := ⟨f - 1, by omega⟩
    obtain ⟨t, e1, d1, f1⟩ := zp_app n w d (b := v / 2 ^ (8 * k) % 256) (by omega) (by omega)
    obtain ⟨u, e2, d2, f2⟩ := ih f t _ (f1.w w) d1 (by rw [List.length_append]; simp; omega) (by omega) (by omega)
    refine ⟨u, ?_, ?_, f1.tr f2⟩
    · rw [zl_Draft_appendInteger_44, nI_pred, if_neg (nI_pos (by omega)), if_pos ⟨zw_K1 w, zw_N1 w⟩, zn_b255 hv (by omega), e1]
      simp only [zk_b, zk_l]
      rw [← Int32.sub_eq_add_neg]
      exact e2
    · rw [zq_by]
      rw [List.append_assoc] at d2
      exact d2
theorem zp_int {n : Nat} (hn : 20 ≤ n) {s : zh_S} {l : List Nat} {v : Nat} (hv : v < 2 ^ 63) (w : zq_w s) (d : zq_dV s l) (hl : l.length + 10 ≤ 200) : ∃ t, zf_Draft_appendInteger n s 1 (lN v) = some t ∧ zq_dV t (l ++ zq_eI v) ∧ zq_F zq_PD s t := by
  have tail : ∀ c, 1 ≤ c → c ≤ 8 → ∃ t, zb_Draft_appendInteger_27 n s 1 (lN v) (nI c) = some t ∧ zq_dV t (l ++ (2 :: c :: zq_by v c)) ∧ zq_F zq_PD s t := by
    intro c c1 c2
    obtain ⟨t, e1, d1, f1⟩ := zp_app n w d (b := 2) (by omega) (by omega)
    obtain ⟨u, e2, d2, f2⟩ := zp_app n (f1.w w) d1 (b := c) (by omega) (by rw [List.length_append]; simp; omega)
    obtain ⟨x, e3, d3, f3⟩ := zp_int_l n hv c n u _ (f2.w (f1.w w)) d2 (by rw [List.length_append, List.length_append]; simp; omega) (by omega) c2
    refine ⟨x, ?_, by rw [List.append_assoc, List.append_assoc] at d3; exact d3, (f1.tr f2).tr f3⟩
    rw [zb_Draft_appendInteger_27, if_pos ⟨zw_K1 w, zw_N1 w⟩, zi_2, e1]
    simp only [zk_b, zk_l]
    rw [if_pos ⟨zw_K1 (f1.w w), zw_N1 (f1.w w)⟩, e2]
    exact e3
  have loop : ∀ (r f i : Nat), 1 ≤ i → i ≤ 8 → 8 - i ≤ r → r < f → ∃ t, zl_Draft_appendInteger_2 n f s 1 (lN v) (nI i) = some t ∧ zq_dV t (l ++ (2 :: zq_iln v r i :: zq_by v (zq_iln v r i))) ∧ zq_F zq_PD s t := by
    intro r
    induction r with
    | zero =>
      intro f i h1 h2 h3 hf
      obtain ⟨f, rfl⟩ : ∃ q, f = q + 1 := ⟨f - 1, by omega⟩
      obtain ⟨t, e, d, g⟩ := tail i h1 h2
      refine ⟨t, ?_, d, g⟩
      rw [zl_Draft_appendInteger_2, if_pos (show (8 : Int32) ≤ nI i from nI_le (a := 8) (by omega) (by omega))]
      exact e
    | succ r ih =>
      intro f i h1 h2 h3 hf
      obtain ⟨f, rfl⟩ : ∃ q, f = q + 1 := ⟨f - 1, by omega⟩
      have l1 : v / 2 ^ (8 * i - 1) ≤ v := Nat.div_le_self _ _
      rw [zl_Draft_appendInteger_2, zq_iln]
      have e8 : (8 : Int32) * nI i - 1 = nI (8 * i - 1) := by rw [zi_8, zi_mul, zi_1, zi_sub (by omega)]
      rw [e8]
      simp only [zk_l]
      by_cases h8 : 8 ≤ i
      · rw [if_pos (show (8 : Int32) ≤ nI i from nI_le (a := 8) (by omega) (by omega)), if_pos h8]
        exact tail i h1 h2
      · rw [if_neg (show ¬ (8 : Int32) ≤ nI i from nI_ge (a := i) (b := 8) (by omega) (by omega)), if_neg h8, zn_ur (by omega) (by omega)]
        by_cases c0 : v / 2 ^ (8 * i - 1) = 0
        · rw [if_pos (by rw [lg_cmp_eq, c0]; rfl), if_pos c0]
          exact tail i h1 h2
        · rw [if_neg (by rw [lg_cmp_eq, zl_0, pk_lEQ (by omega) (by omega)]; exact c0), if_neg c0, nI_1]
          exact ih f (i + 1) (by omega) (by omega) (by omega) (by omega)
  exact loop 8 n 1 (by omega) (by omega) (by omega) (by omega)
theorem zp_mint_l (n : Nat) {v : Nat} (hv : v < 2 ^ 63) : ∀ (k f : Nat) (s : zh_S) (l : List Nat), zq_w s → zq_dM s l → l.length + k ≤ 200 → k < f → k ≤ 8 → ∃ t, zl_M_integer_42 n f s 44 (lN v) (nI k - 1) = some t ∧ zq_dM t (l ++ zq_by v k) ∧ zq_F zq_PE s t := by
  intro k
  induction k with
  | zero =>
    intro f s l w d hl hf _
    obtain ⟨f, rfl⟩ : ∃ q, f = q + 1 := ⟨f - 1, by omega⟩
    refine ⟨s, ?_, by rw [zq_by, List.append_nil]; exact d, zq_F.rf⟩
    rw [zl_M_integer_42, if_pos (by decide)]
  | succ k ih =>
    intro f s l w d hl hf hk
    obtain ⟨f, rfl⟩ : ∃ q, f = q + 1 := ⟨f - 1, by omega⟩
    obtain ⟨t, e1, d1, f1⟩ := zp_add n w d (b := v / 2 ^ (8 * k) % 256) (by omega) (by omega)
    obtain ⟨u, e2, d2, f2⟩ := ih f t _ (f1.w w) d1 (by rw [List.length_append]; simp; omega) (by omega) (by omega)
    refine ⟨u, ?_, ?_, f1.tr f2⟩
    · rw [zl_M_integer_42, nI_pred, if_neg (nI_pos (by omega)), if_pos ⟨zw_K44 w, zw_N44 w⟩, zn_m255 hv (by omega), e1]
      simp only [zk_p, zk_l]
      rw [← Int32.sub_eq_add_neg]
      exact e2
    · rw [zq_by]
      rw [List.append_assoc] at d2
      exact d2
theorem zp_mint {n : Nat} (hn : 20 ≤ n) {s : zh_S} {l : List Nat} {v : Nat} (hv : v < 2 ^ 63) (w : zq_w s) (d : zq_dM s l) (hl : l.length + 10 ≤ 200) : ∃ t, zf_M_integer n s 44 (lN v) = some t ∧ zq_dM t (l ++ zq_eI v) ∧ zq_F zq_PE s t := by
  have tail : ∀ c, 1 ≤ c → c ≤ 8 → ∃ t, zb_M_integer_27 n s 44 (lN v) (nI c) = some t ∧ zq_dM t (l ++ (2 :: c :: zq_by v c)) ∧ zq_F zq_PE s t := by
    intro c c1 c2
    obtain ⟨t, e1, d1, f1⟩ := zp_add n w d (b := 2) (by omega) (by omega)
    obtain ⟨u, e2, d2, f2⟩ := zp_add n (f1.w w) d1 (b := c) (by omega) (by rw [List.length_append]; simp; omega)
    obtain ⟨x, e3, d3, f3⟩ := zp_mint_l n hv c n u _ (f2.w (f1.w w)) d2 (by rw [List.length_append, List.length_append]; simp; omega) (by omega) c2
    refine ⟨x, ?_, by rw [List.append_assoc, List.append_assoc] at d3; exact d3, (f1.tr f2).tr f3⟩
    rw [zb_M_integer_27, if_pos ⟨zw_K44 w, zw_N44 w⟩, zi_2, e1]
    simp only [zk_p, zk_l]
    rw [if_pos ⟨zw_K44 (f1.w w), zw_N44 (f1.w w)⟩, e2]
    exact e3
  have loop : ∀ (r f i : Nat), 1 ≤ i → i ≤ 8 → 8 - i ≤ r → r < f → ∃ t, zl_M_integer_2 n f s 44 (lN v) (nI i) = some t ∧ zq_dM t (l ++ (2 :: zq_iln v r i :: zq_by v (zq_iln v r i))) ∧ zq_F zq_PE s t := by
    intro r
    induction r with
    | zero =>
      intro f i h1 h2 h3 hf
      obtain ⟨f, rfl⟩ : ∃ q, f = q + 1 := ⟨f - 1, by omega⟩
      obtain ⟨t, e, d, g⟩ := tail i h1 h2
      refine ⟨t, ?_, d, g⟩
      rw [zl_M_integer_2, if_pos (show (8 : Int32) ≤ nI i from nI_le (a := 8) (by omega) (by omega))]
      exact e
    | succ r ih =>
      intro f i h1 h2 h3 hf
      obtain ⟨f, rfl⟩ : ∃ q, f = q + 1 := ⟨f - 1, by omega⟩
      have l1 : v / 2 ^ (8 * i - 1) ≤ v := Nat.div_le_self _ _
      rw [zl_M_integer_2, zq_iln]
      have e8 : (8 : Int32) * nI i - 1 = nI (8 * i - 1) := by rw [zi_8, zi_mul, zi_1, zi_sub (by omega)]
      rw [e8]
      simp only [zk_l]
      by_cases h8 : 8 ≤ i
      · rw [if_pos (show (8 : Int32) ≤ nI i from nI_le (a := 8) (by omega) (by omega)), if_pos h8]
        exact tail i h1 h2
      · rw [if_neg (show ¬ (8 : Int32) ≤ nI i from nI_ge (a := i) (b := 8) (by omega) (by omega)), if_neg h8, zn_sr hv (by omega)]
        by_cases c0 : v / 2 ^ (8 * i - 1) = 0
        · rw [if_pos (by rw [lg_cmp_eq, c0]; rfl), if_pos c0]
          exact tail i h1 h2
        · rw [if_neg (by rw [lg_cmp_eq, zl_0, pk_lEQ (by omega) (by omega)]; exact c0), if_neg c0, nI_1]
          exact ih f (i + 1) (by omega) (by omega) (by omega) (by omega)
  exact loop 8 n 1 (by omega) (by omega) (by omega) (by omega)
