/-! Names and whole elements into the draft. -/
def zq_eN (tag x : Nat) : List Nat := tag :: (zq_ch 8 x).length :: zq_ch 8 x
theorem zq_ch_len (m y : Nat) : (zq_ch m y).length ≤ m := by
  induction m generalizing y with
  | zero => simp [zq_ch]
  | succ m ih =>
    rw [zq_ch]
    split
    · simp
    · have := ih (y / 32); simp; omega
theorem zq_eN_len (tag x : Nat) : (zq_eN tag x).length ≤ 10 := by
  have := zq_ch_len 8 x
  simp [zq_eN]; omega
theorem zn_ascii (n : Nat) {c : Nat} (hc : c < 32) : zf_Names_toAscii n (nI c) = some (nI (zq_asc c)) := by
  rw [zf_Names_toAscii]
  unfold zq_asc
  (try simp only [lg_cmp_lt, lg_cmp_gt, lg_cmp_ge, lg_cmp_le, lg_cmp_eq]); simp (disch := omega) only [zi_0, zi_1, zi_2, zi_3, zi_4, zi_5, zi_6, zi_7, zi_8, zi_9, zi_10, zi_11, zi_12, zi_13, zi_14, zi_15, zi_16, zi_17, zi_18, zi_19, zi_20, zi_21, zi_22, zi_23, zi_24, zi_25, zi_26, zi_27, zi_28, zi_29, zi_30, zi_31, zi_32, zi_40, zi_45, zi_46, zi_48, zi_49, zi_50, zi_55, zi_60, zi_63, zi_96, zi_97, zi_110, zi_122, zi_123, zi_127, zi_128, zi_129, zi_130, zi_150, zi_180, zi_200, zi_255, zl_0, zl_1, zl_2, zl_3, zl_4, zl_5, zl_6, zl_7, zl_8, zl_9, zl_10, zl_11, zl_12, zl_13, zl_14, zl_15, zl_16, zl_17, zl_18, zl_19, zl_20, zl_21, zl_22, zl_23, zl_24, zl_25, zl_26, zl_27, zl_28, zl_29, zl_30, zl_31, zl_32, zl_46, zl_96, zl_127, zl_128, zl_255, zl_1000, nI_ltI, nI_leI, nI_eq, pk_lLT, pk_lLE, pk_lEQ, nI_add, zi_sub, zi_mul, zi_dec, nI_clamp, lN_add, lN_mul]
  split <;> rfl
theorem zn_asc_lt {c : Nat} (hc : c < 32) : zq_asc c < 256 := by
  unfold zq_asc; split <;> omega
theorem zn_length_l (n : Nat) : ∀ (r f i y : Nat), y < 32 ^ r → r < f → r ≤ 8 → i ≤ 8 → zl_Names_length_4 n f (nI i) (lN y) = some (nI (i + (zq_ch r y).length)) := by
  intro r
  induction r with
  | zero =>
    intro f i y hy hf _ _
    obtain ⟨f, rfl⟩ : ∃ q, f = q + 1 := ⟨f - 1, by omega⟩
    have : y = 0 := by omega
    subst this
    rw [zl_Names_length_4, if_pos ((lg_cmp_eq (lN 0) (0 : Int64)).mpr rfl)]
    rfl
  | succ r ih =>
    intro f i y hy hf hr hi
    obtain ⟨f, rfl⟩ : ∃ q, f = q + 1 := ⟨f - 1, by omega⟩
    have hy2 : y < 2 ^ 40 := Nat.lt_of_lt_of_le hy (by rw [show (2 : Nat) ^ 40 = 32 ^ 8 by decide]; exact Nat.pow_le_pow_right (by decide) hr)
    rw [zl_Names_length_4, zq_ch]
    by_cases y0 : y = 0
    · subst y0
      rw [if_pos ((lg_cmp_eq (lN 0) (0 : Int64)).mpr rfl), if_pos rfl]
      rfl
    · rw [if_neg (by rw [lg_cmp_eq, zl_0, pk_lEQ (by omega) (by omega)]; exact y0), if_neg y0]
      simp only [zk_l]
      rw [zn_u5 (by omega), nI_1]
      by_cases hi8 : i + 1 ≤ 8
      · rw [ih f (i + 1) (y / 32) (by rw [Nat.pow_succ] at hy; omega) (by omega) (by omega) hi8, List.length_cons]
        congr 2
        omega
      · have gen : ∀ (r f i y : Nat), y < 32 ^ r → r < f → r ≤ 8 → zl_Names_length_4 n f (nI i) (lN y) = some (nI (i + (zq_ch r y).length)) := by
          intro r
          induction r with
          | zero =>
            intro f i y hy hf _
            obtain ⟨f, rfl⟩ : ∃ q, f = q + 1 := ⟨f - 1, by omega⟩
            have : y = 0 := by omega
            subst this
            rw [zl_Names_length_4, if_pos ((lg_cmp_eq (lN 0) (0 : Int64)).mpr rfl)]
            rfl
          | succ r ih2 =>
            intro f i y hy hf hr
            obtain ⟨f, rfl⟩ : ∃ q, f = q + 1 := ⟨f - 1, by omega⟩
            have hy2 : y < 2 ^ 40 := Nat.lt_of_lt_of_le hy (by rw [show (2 : Nat) ^ 40 = 32 ^ 8 by decide]; exact Nat.pow_le_pow_right (by decide) hr)
            rw [zl_Names_length_4, zq_ch]
            by_cases y0 : y = 0
            · subst y0
              rw [if_pos ((lg_cmp_eq (lN 0) (0 : Int64)).mpr rfl), if_pos rfl]
              rfl
            · rw [if_neg (by rw [lg_cmp_eq, zl_0, pk_lEQ (by omega) (by omega)]; exact y0), if_neg y0]
              simp only [zk_l]
              rw [zn_u5 (by omega), nI_1, ih2 f (i + 1) (y / 32) (by rw [Nat.pow_succ] at hy; omega) (by omega) (by omega), List.length_cons]
              congr 2
              omega
        rw [gen r f (i + 1) (y / 32) (by rw [Nat.pow_succ] at hy; omega) (by omega) (by omega), List.length_cons]
        congr 2
        omega
theorem zp_name_l (n : Nat) : ∀ (r f : Nat) (s : zh_S) (l : List Nat) (y : Nat), zq_w s → zq_dV s l → y < 32 ^ r → r < f → r ≤ 8 → l.length + r ≤ 200 → ∃ t, zl_Draft_appendName_18 n f s 1 (lN y) = some t ∧ zq_dV t (l ++ zq_ch r y) ∧ zq_F zq_PD s t := by
  intro r
  induction r with
  | zero =>
    intro f s l y w d hy hf _ _
    obtain ⟨f, rfl⟩ : ∃ q, f = q + 1 := ⟨f - 1, by omega⟩
    have : y = 0 := by omega
    subst this
    refine ⟨s, ?_, by rw [zq_ch, List.append_nil]; exact d, zq_F.rf⟩
    rw [zl_Draft_appendName_18, if_pos ((lg_cmp_eq (lN 0) (0 : Int64)).mpr rfl)]
  | succ r ih =>
    intro f s l y w d hy hf hr hl
    obtain ⟨f, rfl⟩ : ∃ q, f = q + 1 := ⟨f - 1, by omega⟩
    have hy2 : y < 2 ^ 40 := Nat.lt_of_lt_of_le hy (by rw [show (2 : Nat) ^ 40 = 32 ^ 8 by decide]; exact Nat.pow_le_pow_right (by decide) hr)
    have hc : y % 32 < 32 := Nat.mod_lt _ (by decide)
    by_cases y0 : y = 0
    · subst y0
      refine ⟨s, ?_, by rw [zq_ch, if_pos rfl, List.append_nil]; exact d, zq_F.rf⟩
      rw [zl_Draft_appendName_18, if_pos ((lg_cmp_eq (lN 0) (0 : Int64)).mpr rfl)]
    · obtain ⟨t, e1, d1, f1⟩ := zp_app n w d (b := zq_asc (y % 32)) (zn_asc_lt hc) (by omega)
      obtain ⟨u, e2, d2, f2⟩ := ih f t _ (y / 32) (f1.w w) d1 (by rw [Nat.pow_succ] at hy; omega) (by omega) (by omega) (by rw [List.length_append]; simp; omega)
      refine ⟨u, ?_, ?_, f1.tr f2⟩
      · rw [zl_Draft_appendName_18, if_neg (by rw [lg_cmp_eq, zl_0, pk_lEQ (by omega) (by omega)]; exact y0), zn_i31 (by omega), zn_ascii n hc]
        simp only [zk_p]
        rw [if_pos ⟨zw_K1 w, zw_N1 w⟩, e1]
        simp only [zk_b, zk_l]
        rw [zn_u5 (by omega)]
        exact e2
      · rw [zq_ch, if_neg y0]
        rw [List.append_assoc] at d2
        exact d2
theorem zp_name {n : Nat} (hn : 20 ≤ n) {s : zh_S} {l : List Nat} {tag x : Nat} (ht : tag < 256) (hx : zq_nm x = true) (w : zq_w s) (d : zq_dV s l) (hl : l.length + 10 ≤ 200) : ∃ t, zf_Draft_appendName n s 1 (nI tag) (lN x) = some t ∧ zq_dV t (l ++ zq_eN tag x) ∧ zq_F zq_PD s t := by
  have x40 := (zn_nm_lt hx).2
  have h8 := zq_ch_len 8 x
  obtain ⟨t, e1, d1, f1⟩ := zp_app n w d (b := tag) ht (by omega)
  obtain ⟨u, e2, d2, f2⟩ := zp_app n (f1.w w) d1 (b := (zq_ch 8 x).length) (by omega) (by rw [List.length_append]; simp; omega)
  obtain ⟨v, e3, d3, f3⟩ := zp_name_l n 8 n u _ x (f2.w (f1.w w)) d2 (by omega) (by omega) (by omega) (by rw [List.length_append, List.length_append]; simp; omega)
  refine ⟨v, ?_, by rw [List.append_assoc, List.append_assoc] at d3; exact d3, (f1.tr f2).tr f3⟩
  have el : zf_Names_length n (lN x) = some (nI (zq_ch 8 x).length) := by
    have := zn_length_l n 8 n 0 x (by omega) (by omega) (by omega) (by omega)
    rw [Nat.zero_add] at this
    exact this
  rw [zf_Draft_appendName, if_pos ⟨zw_K1 w, zw_N1 w⟩, e1]
  simp only [zk_b]
  rw [el]
  simp only [zk_p]
  rw [if_pos ⟨zw_K1 (f1.w w), zw_N1 (f1.w w)⟩, e2]
  exact e3
theorem zp_mname_l (n : Nat) {x L : Nat} (hx : x < 2 ^ 63) (hL : L ≤ 8) (hd : ∀ j, j < L → 1 ≤ zq_c x j ∧ zq_c x j ≤ 27) : ∀ (r f k : Nat) (s : zh_S) (l : List Nat), zq_w s → zq_dM s l → L - k = r → k ≤ L → r < f → l.length + r ≤ 200 → ∃ t, zl_M_name_20 n f s 44 (lN x) (nI L) (nI k) = some t ∧ zq_dM t (l ++ zq_ch r (x / 32 ^ k)) ∧ zq_F zq_PE s t := by
  intro r
  induction r with
  | zero =>
    intro f k s l w d h1 h2 hf hl
    obtain ⟨f, rfl⟩ : ∃ q, f = q + 1 := ⟨f - 1, by omega⟩
    refine ⟨s, ?_, by rw [zq_ch, List.append_nil]; exact d, zq_F.rf⟩
    rw [zl_M_name_20, if_pos (nI_le (by omega) (by omega))]
  | succ r ih =>
    intro f k s l w d h1 h2 hf hl
    obtain ⟨f, rfl⟩ : ∃ q, f = q + 1 := ⟨f - 1, by omega⟩
    have hc : zq_c x k < 32 := Nat.mod_lt _ (by decide)
    have hy := zn_nz hd k (by omega)
    obtain ⟨t, e1, d1, f1⟩ := zp_add n w d (b := zq_asc (zq_c x k)) (zn_asc_lt hc) (by omega)
    obtain ⟨u, e2, d2, f2⟩ := ih f (k + 1) t _ (f1.w w) d1 (by omega) (by omega) (by omega) (by rw [List.length_append]; simp; omega)
    refine ⟨u, ?_, ?_, f1.tr f2⟩
    · have e3 : (if nI (zq_c x k) = (27 : Int32) then zb_M_name_58 n (zl_M_name_20 n f) s 44 (lN x) (nI L) (nI k) 44 (46 : Int32) else zb_M_name_58 n (zl_M_name_20 n f) s 44 (lN x) (nI L) (nI k) 44 ((96 : Int32) + nI (zq_c x k))) = zb_M_name_58 n (zl_M_name_20 n f) s 44 (lN x) (nI L) (nI k) 44 (nI (zq_asc (zq_c x k))) := by
        unfold zq_asc
        (try simp only [lg_cmp_lt, lg_cmp_gt, lg_cmp_ge, lg_cmp_le, lg_cmp_eq]); simp (disch := omega) only [zi_0, zi_1, zi_2, zi_3, zi_4, zi_5, zi_6, zi_7, zi_8, zi_9, zi_10, zi_11, zi_12, zi_13, zi_14, zi_15, zi_16, zi_17, zi_18, zi_19, zi_20, zi_21, zi_22, zi_23, zi_24, zi_25, zi_26, zi_27, zi_28, zi_29, zi_30, zi_31, zi_32, zi_40, zi_45, zi_46, zi_48, zi_49, zi_50, zi_55, zi_60, zi_63, zi_96, zi_97, zi_110, zi_122, zi_123, zi_127, zi_128, zi_129, zi_130, zi_150, zi_180, zi_200, zi_255, zl_0, zl_1, zl_2, zl_3, zl_4, zl_5, zl_6, zl_7, zl_8, zl_9, zl_10, zl_11, zl_12, zl_13, zl_14, zl_15, zl_16, zl_17, zl_18, zl_19, zl_20, zl_21, zl_22, zl_23, zl_24, zl_25, zl_26, zl_27, zl_28, zl_29, zl_30, zl_31, zl_32, zl_46, zl_96, zl_127, zl_128, zl_255, zl_1000, nI_ltI, nI_leI, nI_eq, pk_lLT, pk_lLE, pk_lEQ, nI_add, zi_sub, zi_mul, zi_dec, nI_clamp, lN_add, lN_mul]
        split <;> rfl
      rw [zl_M_name_20, if_neg (nI_ge (by omega) (by omega)), zn_dig hx (by omega), lN_i]
      simp only [zk_l]
      rw [e3, zb_M_name_58, if_pos ⟨zw_K44 w, zw_N44 w⟩, e1]
      simp only [zk_p, zk_l]
      rw [nI_1]
      exact e2
    · rw [zq_ch, if_neg hy, ← zn_dd]
      rw [List.append_assoc] at d2
      exact d2
theorem zp_mname {n : Nat} (hn : 20 ≤ n) {s : zh_S} {l : List Nat} {tag x : Nat} (ht : tag < 256) (hx : zq_nm x = true) (w : zq_w s) (d : zq_dM s l) (hl : l.length + 10 ≤ 200) : ∃ t, zf_M_name n s 44 (nI tag) (lN x) = some t ∧ zq_dM t (l ++ zq_eN tag x) ∧ zq_F zq_PE s t := by
  have x40 := (zn_nm_lt hx).2
  obtain ⟨L, l0, l8, xz, xd⟩ := zn_nm_len hx
  have hxL := zn_letters_is hn (show x < 2 ^ 63 by omega) l8 xz xd
  have hb : x < 32 ^ L := by
    rcases Nat.div_eq_zero_iff.mp xz with h | h
    · exact absurd h (Nat.ne_of_gt (Nat.pow_pos (by decide)))
    · exact h
  have ec : zq_ch 8 x = zq_ch L x := zn_ch L 8 x hb l8
  have el : (zq_ch L x).length = L := by
    have := zn_ch_len (x := x) L L 0 (by omega) (by omega) xz xd
    rw [Nat.pow_zero, Nat.div_one] at this
    rw [this]; simp
  obtain ⟨t, e1, d1, f1⟩ := zp_add n w d (b := tag) ht (by omega)
  obtain ⟨u, e2, d2, f2⟩ := zp_add n (f1.w w) d1 (b := L) (by omega) (by rw [List.length_append]; simp; omega)
  obtain ⟨v, e3, d3, f3⟩ := zp_mname_l n (show x < 2 ^ 63 by omega) l8 xd L n 0 u _ (f2.w (f1.w w)) d2 (by omega) (by omega) (by omega) (by rw [List.length_append, List.length_append]; simp; omega)
  refine ⟨v, ?_, ?_, (f1.tr f2).tr f3⟩
  · rw [zf_M_name, hxL]
    simp only [zk_p]
    rw [if_pos ⟨zw_K44 w, zw_N44 w⟩, e1]
    simp only []
    rw [if_pos ⟨zw_K44 (f1.w w), zw_N44 (f1.w w)⟩, e2]
    exact e3
  · rw [Nat.pow_zero, Nat.div_one, List.append_assoc, List.append_assoc] at d3
    unfold zq_eN
    rw [ec, el]
    exact d3
theorem zp_true {n : Nat} {s : zh_S} {l : List Nat} (w : zq_w s) (d : zq_dV s l) (hl : l.length + 10 ≤ 200) : ∃ t, zf_Draft_appendTrue n s 1 = some t ∧ zq_dV t (l ++ [1, 1, 255]) ∧ zq_F zq_PD s t := by
  obtain ⟨t, e1, d1, f1⟩ := zp_app n w d (b := 1) (by omega) (by omega)
  obtain ⟨u, e2, d2, f2⟩ := zp_app n (f1.w w) d1 (b := 1) (by omega) (by rw [List.length_append]; simp; omega)
  obtain ⟨v, e3, d3, f3⟩ := zp_app n (f2.w (f1.w w)) d2 (b := 255) (by omega) (by rw [List.length_append, List.length_append]; simp; omega)
  refine ⟨v, ?_, by rw [List.append_assoc, List.append_assoc] at d3; exact d3, (f1.tr f2).tr f3⟩
  rw [zf_Draft_appendTrue, if_pos ⟨zw_K1 w, zw_N1 w⟩, zi_1, e1]
  simp only [zk_b]
  rw [if_pos ⟨zw_K1 (f1.w w), zw_N1 (f1.w w)⟩, e2]
  simp only []
  rw [if_pos ⟨zw_K1 (f2.w (f1.w w)), zw_N1 (f2.w (f1.w w))⟩, zi_255, e3]
theorem zp_yes {n : Nat} {s : zh_S} {l : List Nat} (w : zq_w s) (d : zq_dM s l) (hl : l.length + 10 ≤ 200) : ∃ t, zf_M_yes n s 44 = some t ∧ zq_dM t (l ++ [1, 1, 255]) ∧ zq_F zq_PE s t := by
  obtain ⟨t, e1, d1, f1⟩ := zp_add n w d (b := 1) (by omega) (by omega)
  obtain ⟨u, e2, d2, f2⟩ := zp_add n (f1.w w) d1 (b := 1) (by omega) (by rw [List.length_append]; simp; omega)
  obtain ⟨v, e3, d3, f3⟩ := zp_add n (f2.w (f1.w w)) d2 (b := 255) (by omega) (by rw [List.length_append, List.length_append]; simp; omega)
  refine ⟨v, ?_, by rw [List.append_assoc, List.append_assoc] at d3; exact d3, (f1.tr f2).tr f3⟩
  rw [zf_M_yes, if_pos ⟨zw_K44 w, zw_N44 w⟩, zi_1, e1]
  simp only [zk_p]
  rw [if_pos ⟨zw_K44 (f1.w w), zw_N44 (f1.w w)⟩, e2]
  simp only []
  rw [if_pos ⟨zw_K44 (f2.w (f1.w w)), zw_N44 (f2.w (f1.w w))⟩, zi_255, e3]
