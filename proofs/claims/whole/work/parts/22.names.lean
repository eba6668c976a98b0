/-! Shifts by a number; names. -/
theorem zn_amt : ∀ k : Fin 64, (((nI k.val).toInt64 &&& 63 : Int64).toBitVec.smod 64).toNat = k.val := by decide +kernel
theorem zn_amu : ∀ k : Fin 64, (((nI k.val).toInt64.toUInt64 &&& Int64.toUInt64 63).toBitVec % 64).toNat = k.val := by decide +kernel
theorem zn_sr {x k : Nat} (h : x < 2 ^ 63) (hk : k < 64) : lN x >>> ((nI k).toInt64 &&& 63) = lN (x / 2 ^ k) := zn_sarN h _ k (zn_amt ⟨k, hk⟩)
theorem zn_sl {x k : Nat} (hk : k < 64) : lN x <<< ((nI k).toInt64 &&& 63) = lN (x * 2 ^ k) := zn_shlN x _ k (zn_amt ⟨k, hk⟩)
theorem zn_ur {x k : Nat} (h : x < 2 ^ 64) (hk : k < 64) : zu_l (lN x) (nI k) = lN (x / 2 ^ k) := by
  apply Int64.toBitVec_inj.mp
  apply BitVec.eq_of_toNat_eq
  have e : (zu_l (lN x) (nI k)).toBitVec = (lN x).toBitVec >>> k := by
    have := zn_amu ⟨k, hk⟩
    simp only [] at this
    unfold zu_l
    conv => rhs; rw [← this]
    exact UInt64.toBitVec_shiftRight _ _
  rw [e, BitVec.toNat_ushiftRight, Nat.shiftRight_eq_div_pow, zn_tn h, zn_tn (Nat.lt_of_le_of_lt (Nat.div_le_self _ _) h)]
theorem zn_u5 {x : Nat} (h : x < 2 ^ 64) : zu_l (lN x) (5 : Int32) = lN (x / 32) := zn_ur (k := 5) h (by decide)
theorem zn_m31 {x : Nat} (h : x < 2 ^ 64) : lN x &&& (31 : Int64) = lN (x % 32) := zn_andN h 5 (by decide +kernel)
theorem zn_i31 {x : Nat} (h : x < 2 ^ 64) : (lN x).toInt32 &&& (31 : Int32) = nI (x % 32) := by
  rw [lN_i, pk_and _ 5 (by decide +kernel)]
  congr 1
  show (BitVec.ofNat 32 x).toNat % 32 = x % 32
  rw [BitVec.toNat_ofNat]
  omega
/-- the k-th character -/
def zq_c (x k : Nat) : Nat := x / 32 ^ k % 32
theorem zn_dig {x k : Nat} (h : x < 2 ^ 63) (hk : k < 12) : (lN x >>> (((5 : Int32) * nI k).toInt64 &&& 63)) &&& (31 : Int64) = lN (zq_c x k) := by
  have e : (5 : Int32) * nI k = nI (5 * k) := by
    rw [show (5 : Int32) = nI 5 from rfl]
    exact (Int32.ofNat_mul 5 k).symm
  have l : x / 2 ^ (5 * k) ≤ x := Nat.div_le_self _ _
  rw [e, zn_sr h (by omega), zn_m31 (by omega)]
  unfold zq_c
  rw [Nat.pow_mul]
theorem zn_dsh {x k : Nat} (h : x < 2 ^ 63) (hk : k < 12) : (lN x >>> (((5 : Int32) * nI k).toInt64 &&& 63)) = lN (x / 32 ^ k) := by
  have e : (5 : Int32) * nI k = nI (5 * k) := by
    rw [show (5 : Int32) = nI 5 from rfl]
    exact (Int32.ofNat_mul 5 k).symm
  rw [e, zn_sr h (by omega), Nat.pow_mul]
theorem zn_dd (x k : Nat) : x / 32 ^ (k + 1) = x / 32 ^ k / 32 := by
  rw [Nat.pow_succ, Nat.div_div_eq_div_mul]
/-- a name, read on behind the character b -/
def zq_nf : Nat → Nat → Nat → Bool
  | 0, _, _ => false
  | f + 1, b, y => if y = 0 then decide (b ≠ 27) else if y % 32 = 0 then false else if 27 < y % 32 then false else if y % 32 = 27 ∧ b = 27 then false else zq_nf f (y % 32) (y / 32)
def zq_nm (x : Nat) : Bool := decide (0 < x ∧ x < 2 ^ 40) && zq_nf 9 27 x
theorem zn_nf : ∀ (m f g b y : Nat), y < 32 ^ m → m < f → m < g → zq_nf f b y = zq_nf g b y := by
  intro m
  induction m with
  | zero =>
    intro f g b y hy hf hg
    obtain ⟨f, rfl⟩ : ∃ q, f = q + 1 := ⟨f - 1, by omega⟩
    obtain ⟨g, rfl⟩ : ∃ q, g = q + 1 := ⟨g - 1, by omega⟩
    have : y = 0 := by omega
    subst this
    simp [zq_nf]
  | succ m ih =>
    intro f g b y hy hf hg
    obtain ⟨f, rfl⟩ : ∃ q, f = q + 1 := ⟨f - 1, by omega⟩
    obtain ⟨g, rfl⟩ : ∃ q, g = q + 1 := ⟨g - 1, by omega⟩
    rw [zq_nf, zq_nf, ih f g (y % 32) (y / 32) (by rw [Nat.pow_succ] at hy; omega) (by omega) (by omega)]
theorem zn_vname_l (n : Nat) : ∀ (m f b y : Nat), y < 32 ^ m → m < f → m ≤ 8 → b < 32 → zl_Names_isName_22 n f (nI b) (lN y) = some (if zq_nf (m + 1) b y = true then 1 else 0) := by
  intro m
  induction m with
  | zero =>
    intro f b y hy hf _ hb
    obtain ⟨f, rfl⟩ : ∃ q, f = q + 1 := ⟨f - 1, by omega⟩
    have : y = 0 := by omega
    subst this
    rw [zl_Names_isName_22, zq_nf]
    (try simp only [lg_cmp_lt, lg_cmp_gt, lg_cmp_ge, lg_cmp_le, lg_cmp_eq]); simp (disch := omega) only [zi_0, zi_1, zi_2, zi_3, zi_4, zi_5, zi_6, zi_7, zi_8, zi_9, zi_10, zi_11, zi_12, zi_13, zi_14, zi_15, zi_16, zi_17, zi_18, zi_19, zi_20, zi_21, zi_22, zi_23, zi_24, zi_25, zi_26, zi_27, zi_28, zi_29, zi_30, zi_31, zi_32, zi_40, zi_45, zi_46, zi_48, zi_49, zi_50, zi_55, zi_60, zi_63, zi_96, zi_97, zi_110, zi_122, zi_123, zi_127, zi_128, zi_129, zi_130, zi_150, zi_180, zi_200, zi_255, zl_0, zl_1, zl_2, zl_3, zl_4, zl_5, zl_6, zl_7, zl_8, zl_9, zl_10, zl_11, zl_12, zl_13, zl_14, zl_15, zl_16, zl_17, zl_18, zl_19, zl_20, zl_21, zl_22, zl_23, zl_24, zl_25, zl_26, zl_27, zl_28, zl_29, zl_30, zl_31, zl_32, zl_46, zl_96, zl_127, zl_128, zl_255, zl_1000, nI_ltI, nI_leI, nI_eq, pk_lLT, pk_lLE, pk_lEQ, nI_add, zi_sub, zi_mul, zi_dec, nI_clamp, lN_add, lN_mul]
    by_cases h : b = 27 <;> simp [h]
  | succ m ih =>
    intro f b y hy hf hm hb
    obtain ⟨f, rfl⟩ : ∃ q, f = q + 1 := ⟨f - 1, by omega⟩
    have hy2 : y < 2 ^ 40 := Nat.lt_of_lt_of_le hy (by rw [show (2 : Nat) ^ 40 = 32 ^ 8 by decide]; exact Nat.pow_le_pow_right (by decide) hm)
    have hc : y % 32 < 32 := Nat.mod_lt _ (by decide)
    have go : zb_Names_isName_62 n (zl_Names_isName_22 n f) (lN y) (nI (y % 32)) = some (if zq_nf (m + 1) (y % 32) (y / 32) = true then 1 else 0) := by
      rw [zb_Names_isName_62]
      simp only [zk_l]
      rw [zn_u5 (by omega)]
      exact ih f _ _ (by rw [Nat.pow_succ] at hy; omega) (by omega) (by omega) hc
    rw [zl_Names_isName_22, zq_nf]
    simp only [zk_l]
    rw [zn_i31 (by omega), go]
    (try simp only [lg_cmp_lt, lg_cmp_gt, lg_cmp_ge, lg_cmp_le, lg_cmp_eq]); simp (disch := omega) only [zi_0, zi_1, zi_2, zi_3, zi_4, zi_5, zi_6, zi_7, zi_8, zi_9, zi_10, zi_11, zi_12, zi_13, zi_14, zi_15, zi_16, zi_17, zi_18, zi_19, zi_20, zi_21, zi_22, zi_23, zi_24, zi_25, zi_26, zi_27, zi_28, zi_29, zi_30, zi_31, zi_32, zi_40, zi_45, zi_46, zi_48, zi_49, zi_50, zi_55, zi_60, zi_63, zi_96, zi_97, zi_110, zi_122, zi_123, zi_127, zi_128, zi_129, zi_130, zi_150, zi_180, zi_200, zi_255, zl_0, zl_1, zl_2, zl_3, zl_4, zl_5, zl_6, zl_7, zl_8, zl_9, zl_10, zl_11, zl_12, zl_13, zl_14, zl_15, zl_16, zl_17, zl_18, zl_19, zl_20, zl_21, zl_22, zl_23, zl_24, zl_25, zl_26, zl_27, zl_28, zl_29, zl_30, zl_31, zl_32, zl_46, zl_96, zl_127, zl_128, zl_255, zl_1000, nI_ltI, nI_leI, nI_eq, pk_lLT, pk_lLE, pk_lEQ, nI_add, zi_sub, zi_mul, zi_dec, nI_clamp, lN_add, lN_mul]
    by_cases y0 : y = 0
    · subst y0; by_cases h : b = 27 <;> simp [h]
    · rw [if_neg y0, if_neg y0]
      by_cases c0 : y % 32 = 0
      · rw [if_pos c0, if_pos c0]; rfl
      · rw [if_neg c0, if_neg c0]
        by_cases c1 : 27 < y % 32
        · rw [if_pos c1, if_pos c1]; rfl
        · rw [if_neg c1, if_neg c1]
          by_cases c2 : y % 32 = 27
          · by_cases c3 : b = 27 <;> simp [c2, c3]
          · simp [c2]
/-- the answer of isName -/
def zq_in (j : Int64) : Bool := decide (¬ j < 0) && zq_nm j.toBitVec.toNat
theorem zn_in_lN {x : Nat} (hx : x < 2 ^ 63) : zq_in (lN x) = zq_nm x := by
  unfold zq_in
  rw [zn_tn (by omega), decide_eq_true, Bool.true_and]
  rw [zl_0, pk_lLT hx (by omega)]
  omega
theorem zn_isName {n : Nat} (hn : 20 ≤ n) (j : Int64) : zf_Names_isName n j = some (if zq_in j = true then 1 else 0) := by
  rw [zf_Names_isName]
  by_cases h0 : j < 0
  · rw [if_pos ((lg_cmp_le _ _).mpr (Int64.le_of_lt h0))]
    simp [zq_in, h0]
  · obtain ⟨x, hx, rfl⟩ := pk_lOf h0
    rw [zn_in_lN hx, zi_40, zn_ur (by omega) (by decide)]
    (try simp only [lg_cmp_lt, lg_cmp_gt, lg_cmp_ge, lg_cmp_le, lg_cmp_eq]); simp (disch := omega) only [zi_0, zi_1, zi_2, zi_3, zi_4, zi_5, zi_6, zi_7, zi_8, zi_9, zi_10, zi_11, zi_12, zi_13, zi_14, zi_15, zi_16, zi_17, zi_18, zi_19, zi_20, zi_21, zi_22, zi_23, zi_24, zi_25, zi_26, zi_27, zi_28, zi_29, zi_30, zi_31, zi_32, zi_40, zi_45, zi_46, zi_48, zi_49, zi_50, zi_55, zi_60, zi_63, zi_96, zi_97, zi_110, zi_122, zi_123, zi_127, zi_128, zi_129, zi_130, zi_150, zi_180, zi_200, zi_255, zl_0, zl_1, zl_2, zl_3, zl_4, zl_5, zl_6, zl_7, zl_8, zl_9, zl_10, zl_11, zl_12, zl_13, zl_14, zl_15, zl_16, zl_17, zl_18, zl_19, zl_20, zl_21, zl_22, zl_23, zl_24, zl_25, zl_26, zl_27, zl_28, zl_29, zl_30, zl_31, zl_32, zl_46, zl_96, zl_127, zl_128, zl_255, zl_1000, nI_ltI, nI_leI, nI_eq, pk_lLT, pk_lLE, pk_lEQ, nI_add, zi_sub, zi_mul, zi_dec, nI_clamp, lN_add, lN_mul]
    unfold zq_nm
    by_cases x0 : x = 0
    · subst x0; simp
    · rw [if_neg (by omega)]
      by_cases hb : x < 2 ^ 40
      · rw [if_pos (by omega), zn_vname_l n 8 n 27 x (by omega) (by omega) (by omega) (by omega), decide_eq_true (show 0 < x ∧ x < 2 ^ 40 from ⟨by omega, hb⟩)]
        rfl
      · rw [if_neg (by omega)]
        simp [hb]
theorem zn_letters_l (n : Nat) {x : Nat} (hx : x < 2 ^ 63) : ∀ (r f i : Nat), 8 - i ≤ r → i ≤ 8 → r < f → ∃ L, i ≤ L ∧ L ≤ 8 ∧ zl_M_letters_2 n f (lN x) (nI i) = some (nI L) ∧ (∀ j, i ≤ j → j < L → zq_c x j ≠ 0) ∧ (L < 8 → zq_c x L = 0) := by
  intro r
  induction r with
  | zero =>
    intro f i h1 h2 hf
    obtain ⟨f, rfl⟩ : ∃ q, f = q + 1 := ⟨f - 1, by omega⟩
    have : i = 8 := by omega
    subst this
    refine ⟨8, by omega, by omega, ?_, fun j _ _ => by omega, fun h => by omega⟩
    rw [zl_M_letters_2, if_pos (by decide)]
  | succ r ih =>
    intro f i h1 h2 hf
    obtain ⟨f, rfl⟩ : ∃ q, f = q + 1 := ⟨f - 1, by omega⟩
    have hc : zq_c x i < 32 := Nat.mod_lt _ (by decide)
    rw [zl_M_letters_2, zn_dig hx (by omega)]
    simp only [zk_l]
    (try simp only [lg_cmp_lt, lg_cmp_gt, lg_cmp_ge, lg_cmp_le, lg_cmp_eq]); simp (disch := omega) only [zi_0, zi_1, zi_2, zi_3, zi_4, zi_5, zi_6, zi_7, zi_8, zi_9, zi_10, zi_11, zi_12, zi_13, zi_14, zi_15, zi_16, zi_17, zi_18, zi_19, zi_20, zi_21, zi_22, zi_23, zi_24, zi_25, zi_26, zi_27, zi_28, zi_29, zi_30, zi_31, zi_32, zi_40, zi_45, zi_46, zi_48, zi_49, zi_50, zi_55, zi_60, zi_63, zi_96, zi_97, zi_110, zi_122, zi_123, zi_127, zi_128, zi_129, zi_130, zi_150, zi_180, zi_200, zi_255, zl_0, zl_1, zl_2, zl_3, zl_4, zl_5, zl_6, zl_7, zl_8, zl_9, zl_10, zl_11, zl_12, zl_13, zl_14, zl_15, zl_16, zl_17, zl_18, zl_19, zl_20, zl_21, zl_22, zl_23, zl_24, zl_25, zl_26, zl_27, zl_28, zl_29, zl_30, zl_31, zl_32, zl_46, zl_96, zl_127, zl_128, zl_255, zl_1000, nI_ltI, nI_leI, nI_eq, pk_lLT, pk_lLE, pk_lEQ, nI_add, zi_sub, zi_mul, zi_dec, nI_clamp, lN_add, lN_mul]
    by_cases h8 : 8 ≤ i
    · rw [if_pos h8]
      exact ⟨i, by omega, h2, rfl, fun j _ _ => by omega, fun h => by omega⟩
    · rw [if_neg h8]
      by_cases c0 : zq_c x i = 0
      · rw [if_pos (by omega)]
        exact ⟨i, by omega, h2, rfl, fun j _ _ => by omega, fun _ => c0⟩
      · rw [if_neg (by omega)]
        obtain ⟨L, g1, g2, g3, g4, g5⟩ := ih f (i + 1) (by omega) (by omega) (by omega)
        refine ⟨L, by omega, g2, g3, fun j q1 q2 => ?_, g5⟩
        by_cases hj : j = i
        · subst hj; exact c0
        · exact g4 j (by omega) q2
theorem zn_letters {n : Nat} (hn : 20 ≤ n) {x : Nat} (hx : x < 2 ^ 63) : ∃ L, L ≤ 8 ∧ zf_M_letters n (lN x) = some (nI L) ∧ (∀ j, j < L → zq_c x j ≠ 0) ∧ (L < 8 → zq_c x L = 0) := by
  obtain ⟨L, -, g2, g3, g4, g5⟩ := zn_letters_l n hx 8 n 0 (by omega) (by omega) (by omega)
  exact ⟨L, g2, g3, fun j h => g4 j (by omega) h, g5⟩
theorem zn_letters_any {n : Nat} (hn : 20 ≤ n) (x : Int64) : ∀ (r f i : Nat), 8 - i ≤ r → i ≤ 8 → r < f → ∃ L, i ≤ L ∧ L ≤ 8 ∧ zl_M_letters_2 n f x (nI i) = some (nI L) := by
  intro r
  induction r with
  | zero =>
    intro f i h1 h2 hf
    obtain ⟨f, rfl⟩ : ∃ q, f = q + 1 := ⟨f - 1, by omega⟩
    have : i = 8 := by omega
    subst this
    refine ⟨8, by omega, by omega, ?_⟩
    rw [zl_M_letters_2, if_pos (by decide)]
  | succ r ih =>
    intro f i h1 h2 hf
    obtain ⟨f, rfl⟩ : ∃ q, f = q + 1 := ⟨f - 1, by omega⟩
    rw [zl_M_letters_2]
    by_cases h8 : (8 : Int32) ≤ nI i
    · rw [if_pos h8]; exact ⟨i, by omega, h2, rfl⟩
    · rw [if_neg h8]
      rw [zi_8, nI_leI (by omega) (by omega)] at h8
      split
      · exact ⟨i, by omega, h2, rfl⟩
      · simp only [zk_l, zi_1, nI_add]
        obtain ⟨L, g1, g2, g3⟩ := ih f (i + 1) (by omega) (by omega) (by omega)
        exact ⟨L, by omega, g2, g3⟩
theorem zn_mname_l (n : Nat) {x L : Nat} (hx : x < 2 ^ 63) (hL : L ≤ 8) (hd : ∀ j, j < L → zq_c x j ≠ 0) (h0 : x / 32 ^ L = 0) : ∀ (r f b k : Nat), L - k = r → k ≤ L → r < f → b < 32 → zl_M_isName_34 n f (lN x) (nI L) (lN b) (nI k) = some (if zq_nf (r + 1) b (x / 32 ^ k) = true then 1 else 0) := by
  intro r
  induction r with
  | zero =>
    intro f b k h1 h2 hf hb
    obtain ⟨f, rfl⟩ : ∃ q, f = q + 1 := ⟨f - 1, by omega⟩
    have : k = L := by omega
    subst this
    rw [zl_M_isName_34, zq_nf, h0]
    (try simp only [lg_cmp_lt, lg_cmp_gt, lg_cmp_ge, lg_cmp_le, lg_cmp_eq]); simp (disch := omega) only [zi_0, zi_1, zi_2, zi_3, zi_4, zi_5, zi_6, zi_7, zi_8, zi_9, zi_10, zi_11, zi_12, zi_13, zi_14, zi_15, zi_16, zi_17, zi_18, zi_19, zi_20, zi_21, zi_22, zi_23, zi_24, zi_25, zi_26, zi_27, zi_28, zi_29, zi_30, zi_31, zi_32, zi_40, zi_45, zi_46, zi_48, zi_49, zi_50, zi_55, zi_60, zi_63, zi_96, zi_97, zi_110, zi_122, zi_123, zi_127, zi_128, zi_129, zi_130, zi_150, zi_180, zi_200, zi_255, zl_0, zl_1, zl_2, zl_3, zl_4, zl_5, zl_6, zl_7, zl_8, zl_9, zl_10, zl_11, zl_12, zl_13, zl_14, zl_15, zl_16, zl_17, zl_18, zl_19, zl_20, zl_21, zl_22, zl_23, zl_24, zl_25, zl_26, zl_27, zl_28, zl_29, zl_30, zl_31, zl_32, zl_46, zl_96, zl_127, zl_128, zl_255, zl_1000, nI_ltI, nI_leI, nI_eq, pk_lLT, pk_lLE, pk_lEQ, nI_add, zi_sub, zi_mul, zi_dec, nI_clamp, lN_add, lN_mul]
    by_cases h : b = 27 <;> simp [h]
  | succ r ih =>
    intro f b k h1 h2 hf hb
    obtain ⟨f, rfl⟩ : ∃ q, f = q + 1 := ⟨f - 1, by omega⟩
    have hc : zq_c x k < 32 := Nat.mod_lt _ (by decide)
    have hk := hd k (by omega)
    have hy : x / 32 ^ k ≠ 0 := fun e => hk (by unfold zq_c; rw [e])
    have go : zb_M_isName_80 n (zl_M_isName_34 n f) (lN x) (nI L) (nI k) (lN (zq_c x k)) = some (if zq_nf (r + 1) (zq_c x k) (x / 32 ^ k / 32) = true then 1 else 0) := by
      rw [zb_M_isName_80]
      simp only [zk_l, zi_1, nI_add]
      rw [ih f _ (k + 1) (by omega) (by omega) (by omega) hc, zn_dd]
      rfl
    rw [zl_M_isName_34, zq_nf, zn_dig hx (by omega)]
    simp only [zk_l]
    rw [go, show x / 32 ^ k % 32 = zq_c x k from rfl, if_neg hy, if_neg hk]
    (try simp only [lg_cmp_lt, lg_cmp_gt, lg_cmp_ge, lg_cmp_le, lg_cmp_eq]); simp (disch := omega) only [zi_0, zi_1, zi_2, zi_3, zi_4, zi_5, zi_6, zi_7, zi_8, zi_9, zi_10, zi_11, zi_12, zi_13, zi_14, zi_15, zi_16, zi_17, zi_18, zi_19, zi_20, zi_21, zi_22, zi_23, zi_24, zi_25, zi_26, zi_27, zi_28, zi_29, zi_30, zi_31, zi_32, zi_40, zi_45, zi_46, zi_48, zi_49, zi_50, zi_55, zi_60, zi_63, zi_96, zi_97, zi_110, zi_122, zi_123, zi_127, zi_128, zi_129, zi_130, zi_150, zi_180, zi_200, zi_255, zl_0, zl_1, zl_2, zl_3, zl_4, zl_5, zl_6, zl_7, zl_8, zl_9, zl_10, zl_11, zl_12, zl_13, zl_14, zl_15, zl_16, zl_17, zl_18, zl_19, zl_20, zl_21, zl_22, zl_23, zl_24, zl_25, zl_26, zl_27, zl_28, zl_29, zl_30, zl_31, zl_32, zl_46, zl_96, zl_127, zl_128, zl_255, zl_1000, nI_ltI, nI_leI, nI_eq, pk_lLT, pk_lLE, pk_lEQ, nI_add, zi_sub, zi_mul, zi_dec, nI_clamp, lN_add, lN_mul]
    rw [if_neg (by omega)]
    by_cases c1 : 27 < zq_c x k
    · rw [if_pos c1, if_pos c1]; rfl
    · rw [if_neg c1, if_neg c1]
      by_cases c2 : zq_c x k = 27
      · by_cases c3 : b = 27 <;> simp [c2, c3]
      · simp [c2]
theorem zn_nf_gap {x L : Nat} (h0 : x / 32 ^ L ≠ 0) (hd : zq_c x L = 0) : ∀ (r f b k : Nat), L - k = r → k ≤ L → zq_nf f b (x / 32 ^ k) = false := by
  intro r
  induction r with
  | zero =>
    intro f b k h1 h2
    have : k = L := by omega
    subst this
    cases f with
    | zero => rfl
    | succ f => rw [zq_nf, if_neg h0, if_pos (show x / 32 ^ k % 32 = 0 from hd)]
  | succ r ih =>
    intro f b k h1 h2
    cases f with
    | zero => rfl
    | succ f =>
      rw [zq_nf, ← zn_dd, ih f _ (k + 1) (by omega) (by omega)]
      have : x / 32 ^ k ≠ 0 := by
        intro e
        apply h0
        have e2 : x / 32 ^ L = x / 32 ^ k / 32 ^ (L - k) := by rw [Nat.div_div_eq_div_mul, ← Nat.pow_add]; congr 2; omega
        rw [e2, e, Nat.zero_div]
      rw [if_neg this]
      repeat' split
      all_goals rfl
theorem zn_misName {n : Nat} (hn : 20 ≤ n) (j : Int64) : zf_M_isName n j = some (if zq_in j = true then 1 else 0) := by
  by_cases h0 : j < 0
  · obtain ⟨L, -, hL, e⟩ := zn_letters_any hn j 8 n 0 (by omega) (by omega) (by omega)
    have e2 : zf_M_letters n j = some (nI L) := e
    rw [zf_M_isName, e2]
    simp only [zk_p]
    rw [if_pos ((lg_cmp_lt _ _).mpr h0)]
    simp [zq_in, h0]
  · obtain ⟨x, hx, rfl⟩ := pk_lOf h0
    obtain ⟨L, hL, e, hd, hz⟩ := zn_letters hn hx
    have l8 : x / 32 ^ L ≤ x := Nat.div_le_self _ _
    rw [zf_M_isName, e, zn_in_lN hx]
    simp only [zk_p]
    rw [zn_dsh hx (by omega), if_neg (fun h => h0 ((lg_cmp_lt _ _).mp h))]
    (try simp only [lg_cmp_lt, lg_cmp_gt, lg_cmp_ge, lg_cmp_le, lg_cmp_eq]); simp (disch := omega) only [zi_0, zi_1, zi_2, zi_3, zi_4, zi_5, zi_6, zi_7, zi_8, zi_9, zi_10, zi_11, zi_12, zi_13, zi_14, zi_15, zi_16, zi_17, zi_18, zi_19, zi_20, zi_21, zi_22, zi_23, zi_24, zi_25, zi_26, zi_27, zi_28, zi_29, zi_30, zi_31, zi_32, zi_40, zi_45, zi_46, zi_48, zi_49, zi_50, zi_55, zi_60, zi_63, zi_96, zi_97, zi_110, zi_122, zi_123, zi_127, zi_128, zi_129, zi_130, zi_150, zi_180, zi_200, zi_255, zl_0, zl_1, zl_2, zl_3, zl_4, zl_5, zl_6, zl_7, zl_8, zl_9, zl_10, zl_11, zl_12, zl_13, zl_14, zl_15, zl_16, zl_17, zl_18, zl_19, zl_20, zl_21, zl_22, zl_23, zl_24, zl_25, zl_26, zl_27, zl_28, zl_29, zl_30, zl_31, zl_32, zl_46, zl_96, zl_127, zl_128, zl_255, zl_1000, nI_ltI, nI_leI, nI_eq, pk_lLT, pk_lLE, pk_lEQ, nI_add, zi_sub, zi_mul, zi_dec, nI_clamp, lN_add, lN_mul]
    unfold zq_nm
    by_cases L0 : L = 0
    · rw [if_pos L0]
      subst L0
      have hz := hz (by omega)
      by_cases x0 : x = 0
      · subst x0; simp
      · have := zn_nf_gap (x := x) (L := 0) (by simpa using x0) hz 0 9 27 0 rfl (by omega)
        rw [Nat.pow_zero, Nat.div_one] at this
        simp [this]
    · rw [if_neg L0]
      by_cases hq : x / 32 ^ L = 0
      · rw [if_pos hq]
        have hb : x < 32 ^ L := by
          rcases Nat.div_eq_zero_iff.mp hq with h | h
          · exact absurd h (Nat.ne_of_gt (Nat.pow_pos (by decide)))
          · exact h
        have hb2 : x < 2 ^ 40 := Nat.lt_of_lt_of_le hb (by rw [show (2 : Nat) ^ 40 = 32 ^ 8 by decide]; exact Nat.pow_le_pow_right (by decide) hL)
        have x0 : 0 < x := by
          rcases Nat.eq_zero_or_pos x with h | h
          · exact absurd (by rw [h]; unfold zq_c; simp) (hd 0 (by omega))
          · exact h
        have := zn_mname_l n hx hL hd hq L n 27 0 (by omega) (by omega) (by omega) (by omega)
        rw [Nat.pow_zero, Nat.div_one] at this
        refine Eq.trans this ?_
        rw [decide_eq_true (show 0 < x ∧ x < 2 ^ 40 from ⟨x0, hb2⟩), Bool.true_and, zn_nf L 9 (L + 1) 27 x hb (by omega) (by omega)]
        rfl
      · rw [if_neg hq]
        by_cases h8 : L = 8
        · subst h8
          have : ¬ x < 2 ^ 40 := fun h => hq (Nat.div_eq_of_lt (by rw [show (32 : Nat) ^ 8 = 2 ^ 40 by decide]; exact h))
          simp [this]
        · have := zn_nf_gap (x := x) (L := L) hq (hz (by omega)) L 9 27 0 (by omega) (by omega)
          rw [Nat.pow_zero, Nat.div_one] at this
          simp [this]
/-- the characters of a name, as bytes -/
def zq_asc (c : Nat) : Nat := if c = 27 then 46 else 96 + c
def zq_ch : Nat → Nat → List Nat
  | 0, _ => []
  | f + 1, y => if y = 0 then [] else zq_asc (y % 32) :: zq_ch f (y / 32)
theorem zn_ch : ∀ (m f y : Nat), y < 32 ^ m → m ≤ f → zq_ch f y = zq_ch m y := by
  intro m
  induction m with
  | zero =>
    intro f y hy _
    have : y = 0 := by omega
    subst this
    cases f <;> simp [zq_ch]
  | succ m ih =>
    intro f y hy hf
    obtain ⟨f, rfl⟩ : ∃ q, f = q + 1 := ⟨f - 1, by omega⟩
    rw [zq_ch, zq_ch, ih f (y / 32) (by rw [Nat.pow_succ] at hy; omega) (by omega)]
/-- what a name is: L characters, none of them 0, nothing behind them -/
theorem zn_nm_len {x : Nat} (h : zq_nm x = true) : ∃ L, 0 < L ∧ L ≤ 8 ∧ x / 32 ^ L = 0 ∧ (∀ j, j < L → 1 ≤ zq_c x j ∧ zq_c x j ≤ 27) := by
  unfold zq_nm at h
  rw [Bool.and_eq_true, decide_eq_true_eq] at h
  obtain ⟨⟨h0, h40⟩, hf⟩ := h
  have key : ∀ (m f b y : Nat), y < 32 ^ m → zq_nf f b y = true → ∃ L, L ≤ m ∧ y / 32 ^ L = 0 ∧ (∀ j, j < L → 1 ≤ zq_c y j ∧ zq_c y j ≤ 27) := by
    intro m
    induction m with
    | zero => intro f b y hy _; exact ⟨0, by omega, by have : y = 0 := by omega
                                                       subst this; rfl, fun j hj => by omega⟩
    | succ m ih =>
      intro f b y hy hq
      by_cases y0 : y = 0
      · subst y0; exact ⟨0, by omega, rfl, fun j hj => by omega⟩
      · cases f with
        | zero => cases hq
        | succ f =>
          rw [zq_nf, if_neg y0] at hq
          by_cases c0 : y % 32 = 0
          · rw [if_pos c0] at hq; cases hq
          · rw [if_neg c0] at hq
            by_cases c1 : 27 < y % 32
            · rw [if_pos c1] at hq; cases hq
            · rw [if_neg c1] at hq
              split at hq
              · cases hq
              · obtain ⟨L, g1, g2, g3⟩ := ih f _ (y / 32) (by rw [Nat.pow_succ] at hy; omega) hq
                refine ⟨L + 1, by omega, ?_, fun j hj => ?_⟩
                · rw [Nat.pow_succ, Nat.mul_comm, ← Nat.div_div_eq_div_mul]; exact g2
                · cases j with
                  | zero => unfold zq_c; rw [Nat.pow_zero, Nat.div_one]; omega
                  | succ j =>
                    have := g3 j (by omega)
                    unfold zq_c at this ⊢
                    rw [Nat.pow_succ, Nat.mul_comm, ← Nat.div_div_eq_div_mul]; exact this
  obtain ⟨L, g1, g2, g3⟩ := key 8 9 27 x (by omega) hf
  refine ⟨L, ?_, g1, g2, g3⟩
  rcases Nat.eq_zero_or_pos L with h | h
  · subst h; rw [Nat.pow_zero, Nat.div_one] at g2; omega
  · exact h
theorem zn_letters_is {n : Nat} (hn : 20 ≤ n) {x L : Nat} (hx : x < 2 ^ 63) (hL : L ≤ 8) (h0 : x / 32 ^ L = 0) (hd : ∀ j, j < L → 1 ≤ zq_c x j ∧ zq_c x j ≤ 27) : zf_M_letters n (lN x) = some (nI L) := by
  obtain ⟨K, k1, k2, k3, k4⟩ := zn_letters hn hx
  rw [k2]
  congr 2
  have hz : ∀ j, L ≤ j → zq_c x j = 0 := fun j hj => by
    unfold zq_c
    have e2 : x / 32 ^ j = x / 32 ^ L / 32 ^ (j - L) := by rw [Nat.div_div_eq_div_mul, ← Nat.pow_add]; congr 2; omega
    rw [e2, h0, Nat.zero_div]
  rcases Nat.lt_trichotomy K L with h | h | h
  · exact absurd (k4 (by omega)) (by have := hd K h; omega)
  · exact h
  · exact absurd (hz L (by omega)) (k3 L h)
theorem zn_ch_len {x : Nat} : ∀ (r L k : Nat), L - k = r → k ≤ L → x / 32 ^ L = 0 → (∀ j, j < L → 1 ≤ zq_c x j ∧ zq_c x j ≤ 27) → zq_ch r (x / 32 ^ k) = (List.range r).map (fun i => zq_asc (zq_c x (k + i))) := by
  intro r
  induction r with
  | zero => intro L k _ _ _ _; rfl
  | succ r ih =>
    intro L k h1 h2 h3 hd
    have hk := hd k (by omega)
    have hy : x / 32 ^ k ≠ 0 := fun e => by unfold zq_c at hk; rw [e] at hk; simp at hk
    rw [zq_ch, if_neg hy, ← zn_dd, ih L (k + 1) (by omega) (by omega) h3 hd, List.range_succ_eq_map, List.map_cons, List.map_map]
    congr 1
    apply List.map_congr_left
    intro i _
    show zq_asc (zq_c x (k + 1 + i)) = zq_asc (zq_c x (k + (i + 1)))
    congr 2
    omega
