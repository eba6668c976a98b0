/-! Names within names. -/
theorem zn_or {a b k : Nat} (hb : b < 2 ^ k) (h : a * 2 ^ k + b < 2 ^ 64) : lN (a * 2 ^ k) ||| lN b = lN (a * 2 ^ k + b) := by
  apply Int64.toBitVec_inj.mp
  apply BitVec.eq_of_toNat_eq
  rw [Int64.toBitVec_or, BitVec.toNat_or, zn_tn (by omega), zn_tn (by omega), zn_tn h, ← Nat.shiftLeft_eq, Nat.shiftLeft_add_eq_or_of_lt hb]
theorem zn_vwithin_l (n e : Nat) (he : e < 2 ^ 63) (e0 : e ≠ 0) : ∀ (r f z : Nat), z < 32 ^ r → r < f → r ≤ 8 → (zl_Names_isWithin_20 n f (lN e) (lN z) = some 1 ∧ ∃ j, z / 32 ^ j = e) ∨ (zl_Names_isWithin_20 n f (lN e) (lN z) = some 0 ∧ ∀ j, z / 32 ^ j ≠ e) := by
  intro r
  induction r with
  | zero =>
    intro f z hz hf _
    obtain ⟨f, rfl⟩ : ∃ q, f = q + 1 := ⟨f - 1, by omega⟩
    have : z = 0 := by omega
    subst this
    refine Or.inr ⟨?_, fun j h => e0 (by rw [← h, Nat.zero_div])⟩
    rw [zl_Names_isWithin_20, if_pos ((lg_cmp_eq (lN 0) (0 : Int64)).mpr rfl)]
  | succ r ih =>
    intro f z hz hf hr
    obtain ⟨f, rfl⟩ : ∃ q, f = q + 1 := ⟨f - 1, by omega⟩
    have hz2 : z < 2 ^ 40 := Nat.lt_of_lt_of_le hz (by rw [show (2 : Nat) ^ 40 = 32 ^ 8 by decide]; exact Nat.pow_le_pow_right (by decide) hr)
    rw [zl_Names_isWithin_20]
    simp only [zk_l]
    rw [zn_u5 (by omega)]
    (try simp only [lg_cmp_lt, lg_cmp_gt, lg_cmp_ge, lg_cmp_le, lg_cmp_eq]); simp (disch := omega) only [zi_0, zi_1, zi_2, zi_3, zi_4, zi_5, zi_6, zi_7, zi_8, zi_9, zi_10, zi_11, zi_12, zi_13, zi_14, zi_15, zi_16, zi_17, zi_18, zi_19, zi_20, zi_21, zi_22, zi_23, zi_24, zi_25, zi_26, zi_27, zi_28, zi_29, zi_30, zi_31, zi_32, zi_40, zi_45, zi_46, zi_48, zi_49, zi_50, zi_55, zi_60, zi_63, zi_96, zi_97, zi_110, zi_122, zi_123, zi_127, zi_128, zi_129, zi_130, zi_150, zi_180, zi_200, zi_255, zl_0, zl_1, zl_2, zl_3, zl_4, zl_5, zl_6, zl_7, zl_8, zl_9, zl_10, zl_11, zl_12, zl_13, zl_14, zl_15, zl_16, zl_17, zl_18, zl_19, zl_20, zl_21, zl_22, zl_23, zl_24, zl_25, zl_26, zl_27, zl_28, zl_29, zl_30, zl_31, zl_32, zl_46, zl_96, zl_127, zl_128, zl_255, zl_1000, nI_ltI, nI_leI, nI_eq, pk_lLT, pk_lLE, pk_lEQ, nI_add, zi_sub, zi_mul, zi_dec, nI_clamp, lN_add, lN_mul]
    by_cases z0 : z = 0
    · subst z0
      rw [if_pos rfl]
      exact Or.inr ⟨rfl, fun j h => e0 (by rw [← h, Nat.zero_div])⟩
    · rw [if_neg z0]
      by_cases ze : z = e
      · rw [if_pos ze]
        exact Or.inl ⟨rfl, 0, by rw [Nat.pow_zero, Nat.div_one]; exact ze⟩
      · rw [if_neg ze]
        rcases ih f (z / 32) (by rw [Nat.pow_succ] at hz; omega) (by omega) (by omega) with ⟨h1, j, h2⟩ | ⟨h1, h2⟩
        · exact Or.inl ⟨h1, j + 1, by rw [Nat.pow_succ, Nat.mul_comm, ← Nat.div_div_eq_div_mul]; exact h2⟩
        · refine Or.inr ⟨h1, fun j => ?_⟩
          cases j with
          | zero => rw [Nat.pow_zero, Nat.div_one]; exact ze
          | succ j => rw [Nat.pow_succ, Nat.mul_comm, ← Nat.div_div_eq_div_mul]; exact h2 j
theorem zn_nz {x L : Nat} (hd : ∀ j, j < L → 1 ≤ zq_c x j ∧ zq_c x j ≤ 27) : ∀ i, i < L → x / 32 ^ i ≠ 0 := fun i hi e => by
  have := hd i hi
  unfold zq_c at this
  rw [e] at this
  simp at this
theorem zn_z {x L : Nat} (h0 : x / 32 ^ L = 0) : ∀ i, L ≤ i → x / 32 ^ i = 0 := fun j hj => by
  have e2 : x / 32 ^ j = x / 32 ^ L / 32 ^ (j - L) := by rw [Nat.div_div_eq_div_mul, ← Nat.pow_add]; congr 2; omega
  rw [e2, h0, Nat.zero_div]
theorem zn_nm_lt {x : Nat} (h : zq_nm x = true) : 0 < x ∧ x < 2 ^ 40 := by
  unfold zq_nm at h
  rw [Bool.and_eq_true, decide_eq_true_eq] at h
  exact h.1
/-- within: class and reference answer alike, on names -/
theorem zn_within {n : Nat} (hn : 20 ≤ n) {x y : Nat} (hx : zq_nm x = true) (hy : zq_nm y = true) : ∃ r : Int32, zf_Names_isWithin n (lN x) (lN y) = some r ∧ zf_M_within n (lN x) (lN y) = some r := by
  have x40 := (zn_nm_lt hx).2
  have y40 := (zn_nm_lt hy).2
  obtain ⟨L, l0, l8, xz, xd⟩ := zn_nm_len hx
  obtain ⟨K, k0, k8, yz, yd⟩ := zn_nm_len hy
  have hxL := zn_letters_is hn (show x < 2 ^ 63 by omega) l8 xz xd
  have hyK := zn_letters_is hn (show y < 2 ^ 63 by omega) k8 yz yd
  have xn := zn_nz xd
  have yn := zn_nz yd
  have xz' := zn_z xz
  have e5 : lN y <<< ((5 : Int32).toInt64 &&& 63) ||| (27 : Int64) = lN (y * 2 ^ 5 + 27) := by
    rw [zi_5, zn_sl (by omega), zl_27, zn_or (by omega) (by omega)]
  have V := zn_vwithin_l n (y * 2 ^ 5 + 27) (by omega) (by omega) 8 n x (by omega) (by omega) (by omega)
  have ey : ∀ t, (y * 2 ^ 5 + 27) / 32 ^ (t + 1) = y / 32 ^ t := fun t => by
    rw [show (32 : Nat) ^ (t + 1) = 32 * 32 ^ t by rw [Nat.pow_succ, Nat.mul_comm], ← Nat.div_div_eq_div_mul]
    congr 1
    omega
  have only : ∀ j, x / 32 ^ j = y * 2 ^ 5 + 27 → j + K + 1 = L := fun j hj => by
    have h1 : x / 32 ^ (j + (K + 1)) = 0 := by rw [Nat.pow_add, ← Nat.div_div_eq_div_mul, hj, ey, yz]
    have h2 : x / 32 ^ (j + K) ≠ 0 := by
      rw [Nat.pow_add, ← Nat.div_div_eq_div_mul, hj, show K = (K - 1) + 1 by omega, ey]
      exact yn (K - 1) (by omega)
    have g1 : ¬ j + (K + 1) < L := fun h => xn _ h h1
    have g2 : ¬ L ≤ j + K := fun h => h2 (xz' _ h)
    omega
  rw [zf_Names_isWithin, zf_M_within, hxL, hyK]
  simp only [zk_p, zk_l]
  rw [e5]
  by_cases hLK : K < L
  · have far : nI L - nI K = nI (L - K) := zi_sub (by omega)
    have far1 : nI (L - K) - (1 : Int32) = nI (L - K - 1) := zi_sub (b := 1) (by omega)
    have hne : ¬ x = y := fun e => by
      subst e
      exact xn K hLK yz
    have d1 : x / 32 ^ (L - K) ≤ x := Nat.div_le_self _ _
    have dc : zq_c x (L - K - 1) < 32 := Nat.mod_lt _ (by decide)
    rw [far, far1, zn_dsh (by omega) (by omega), zn_dig (by omega) (by omega)]
    (try simp only [lg_cmp_lt, lg_cmp_gt, lg_cmp_ge, lg_cmp_le, lg_cmp_eq]); simp (disch := omega) only [zi_0, zi_1, zi_2, zi_3, zi_4, zi_5, zi_6, zi_7, zi_8, zi_9, zi_10, zi_11, zi_12, zi_13, zi_14, zi_15, zi_16, zi_17, zi_18, zi_19, zi_20, zi_21, zi_22, zi_23, zi_24, zi_25, zi_26, zi_27, zi_28, zi_29, zi_30, zi_31, zi_32, zi_40, zi_45, zi_46, zi_48, zi_49, zi_50, zi_55, zi_60, zi_63, zi_96, zi_97, zi_110, zi_122, zi_123, zi_127, zi_128, zi_129, zi_130, zi_150, zi_180, zi_200, zi_255, zl_0, zl_1, zl_2, zl_3, zl_4, zl_5, zl_6, zl_7, zl_8, zl_9, zl_10, zl_11, zl_12, zl_13, zl_14, zl_15, zl_16, zl_17, zl_18, zl_19, zl_20, zl_21, zl_22, zl_23, zl_24, zl_25, zl_26, zl_27, zl_28, zl_29, zl_30, zl_31, zl_32, zl_46, zl_96, zl_127, zl_128, zl_255, zl_1000, nI_ltI, nI_leI, nI_eq, pk_lLT, pk_lLE, pk_lEQ, nI_add, zi_sub, zi_mul, zi_dec, nI_clamp, lN_add, lN_mul]
    rw [if_neg hne, if_pos (by omega)]
    have step : x / 32 ^ (L - K - 1) = (x / 32 ^ (L - K)) * 32 + zq_c x (L - K - 1) := by
      have := zn_dd x (L - K - 1)
      rw [show L - K - 1 + 1 = L - K by omega] at this
      rw [this]
      unfold zq_c
      omega
    by_cases c1 : x / 32 ^ (L - K) = y
    · rw [if_pos c1]
      by_cases c2 : zq_c x (L - K - 1) = 27
      · rw [if_pos c2]
        rcases V with ⟨v, -⟩ | ⟨-, v⟩
        · exact ⟨1, v, rfl⟩
        · exact absurd (by rw [step, c1, c2]) (v (L - K - 1))
      · rw [if_neg c2]
        rcases V with ⟨-, j, v⟩ | ⟨v, -⟩
        · have := only j v
          rw [show j = L - K - 1 by omega, step, c1] at v
          omega
        · exact ⟨0, v, rfl⟩
    · rw [if_neg c1]
      rcases V with ⟨-, j, v⟩ | ⟨v, -⟩
      · have := only j v
        rw [show j = L - K - 1 by omega, step] at v
        omega
      · exact ⟨0, v, rfl⟩
  · have far : ¬ (1 : Int32) ≤ nI L - nI K := by
      rw [Int32.le_iff_toInt_le, Int32.toInt_sub, nI_toInt (by omega), nI_toInt (by omega), show (1 : Int32).toInt = 1 from rfl]
      rw [Int.bmod_eq_of_le (by omega) (by omega)]
      omega
    rw [if_neg far]
    (try simp only [lg_cmp_lt, lg_cmp_gt, lg_cmp_ge, lg_cmp_le, lg_cmp_eq]); simp (disch := omega) only [zi_0, zi_1, zi_2, zi_3, zi_4, zi_5, zi_6, zi_7, zi_8, zi_9, zi_10, zi_11, zi_12, zi_13, zi_14, zi_15, zi_16, zi_17, zi_18, zi_19, zi_20, zi_21, zi_22, zi_23, zi_24, zi_25, zi_26, zi_27, zi_28, zi_29, zi_30, zi_31, zi_32, zi_40, zi_45, zi_46, zi_48, zi_49, zi_50, zi_55, zi_60, zi_63, zi_96, zi_97, zi_110, zi_122, zi_123, zi_127, zi_128, zi_129, zi_130, zi_150, zi_180, zi_200, zi_255, zl_0, zl_1, zl_2, zl_3, zl_4, zl_5, zl_6, zl_7, zl_8, zl_9, zl_10, zl_11, zl_12, zl_13, zl_14, zl_15, zl_16, zl_17, zl_18, zl_19, zl_20, zl_21, zl_22, zl_23, zl_24, zl_25, zl_26, zl_27, zl_28, zl_29, zl_30, zl_31, zl_32, zl_46, zl_96, zl_127, zl_128, zl_255, zl_1000, nI_ltI, nI_leI, nI_eq, pk_lLT, pk_lLE, pk_lEQ, nI_add, zi_sub, zi_mul, zi_dec, nI_clamp, lN_add, lN_mul]
    by_cases hne : x = y
    · rw [if_pos hne, if_pos hne]; exact ⟨_, rfl, rfl⟩
    · rw [if_neg hne, if_neg hne]
      rcases V with ⟨-, j, v⟩ | ⟨v, -⟩
      · have := only j v
        omega
      · exact ⟨0, v, rfl⟩
