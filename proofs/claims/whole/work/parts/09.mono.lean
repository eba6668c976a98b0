set_option maxHeartbeats 4000000 in
theorem zm_Draft_init {n : Nat} {s0 : zh_S} {a0 : Nat} {z : zh_S} (hf : zf_Draft_init n s0 a0 = some z) : zh_N s0 ≤ zh_N z ∧ zh_M s0 ≤ zh_M z := by
  rw [zf_Draft_init] at hf
  obtain ⟨-, hf⟩ := zx_ck hf
  obtain ⟨a_2, e_a_2, hf⟩ := zx_l hf
  obtain ⟨s_1, e_s_1, hf⟩ := zx_l hf
  have n_s_1 := zx_mnew e_s_1
  obtain ⟨-, hf⟩ := zx_ck hf
  obtain ⟨s_4, e_s_4, hf⟩ := zx_l hf
  have n_s_4 := zx_muR e_s_4
  obtain ⟨s_6, e_s_6, hf⟩ := zx_l hf
  have n_s_6 := zx_muI e_s_6
  obtain rfl := zx_r1 hf
  omega
set_option maxHeartbeats 4000000 in
theorem zm_Tool_init {n : Nat} {s0 : zh_S} {a0 : Nat} {z : zh_S} (hf : zf_Tool_init n s0 a0 = some z) : zh_N s0 ≤ zh_N z ∧ zh_M s0 ≤ zh_M z := by
  rw [zf_Tool_init] at hf
  obtain ⟨-, hf⟩ := zx_ck hf
  obtain ⟨a_2, e_a_2, hf⟩ := zx_l hf
  obtain ⟨s_1, e_s_1, hf⟩ := zx_l hf
  have n_s_1 := zx_mnew e_s_1
  obtain ⟨-, hf⟩ := zx_ck hf
  obtain ⟨s_4, e_s_4, hf⟩ := zx_l hf
  have n_s_4 := zx_muJ e_s_4
  obtain ⟨-, hf⟩ := zx_ck hf
  obtain ⟨s_6, e_s_6, hf⟩ := zx_l hf
  have n_s_6 := zx_muJ e_s_6
  obtain ⟨-, hf⟩ := zx_ck hf
  obtain ⟨s_8, e_s_8, hf⟩ := zx_l hf
  have n_s_8 := zx_muJ e_s_8
  obtain ⟨-, hf⟩ := zx_ck hf
  obtain ⟨s_10, e_s_10, hf⟩ := zx_l hf
  have n_s_10 := zx_muJ e_s_10
  obtain ⟨-, hf⟩ := zx_ck hf
  obtain ⟨s_12, e_s_12, hf⟩ := zx_l hf
  have n_s_12 := zx_muJ e_s_12
  obtain ⟨-, hf⟩ := zx_ck hf
  obtain ⟨s_14, e_s_14, hf⟩ := zx_l hf
  have n_s_14 := zx_muJ e_s_14
  obtain ⟨-, hf⟩ := zx_ck hf
  obtain ⟨s_16, e_s_16, hf⟩ := zx_l hf
  have n_s_16 := zx_muJ e_s_16
  obtain ⟨-, hf⟩ := zx_ck hf
  obtain ⟨s_18, e_s_18, hf⟩ := zx_l hf
  have n_s_18 := zx_muJ e_s_18
  obtain ⟨-, hf⟩ := zx_ck hf
  obtain ⟨s_20, e_s_20, hf⟩ := zx_l hf
  have n_s_20 := zx_muJ e_s_20
  obtain ⟨-, hf⟩ := zx_ck hf
  obtain ⟨s_22, e_s_22, hf⟩ := zx_l hf
  have n_s_22 := zx_muJ e_s_22
  obtain ⟨-, hf⟩ := zx_ck hf
  obtain ⟨s_24, e_s_24, hf⟩ := zx_l hf
  have n_s_24 := zx_muJ e_s_24
  obtain ⟨-, hf⟩ := zx_ck hf
  obtain ⟨s_26, e_s_26, hf⟩ := zx_l hf
  have n_s_26 := zx_muJ e_s_26
  obtain ⟨-, hf⟩ := zx_ck hf
  obtain ⟨s_28, e_s_28, hf⟩ := zx_l hf
  have n_s_28 := zx_muJ e_s_28
  obtain ⟨-, hf⟩ := zx_ck hf
  obtain ⟨s_30, e_s_30, hf⟩ := zx_l hf
  have n_s_30 := zx_muR e_s_30
  obtain ⟨-, hf⟩ := zx_ck hf
  obtain ⟨a_33, e_a_33, hf⟩ := zx_l hf
  obtain ⟨s_32, e_s_32, hf⟩ := zx_l hf
  have n_s_32 := zx_mnew e_s_32
  obtain ⟨-, hf⟩ := zx_ck hf
  obtain ⟨s_35, e_s_35, hf⟩ := zx_l hf
  have n_s_35 := zx_muR e_s_35
  obtain ⟨-, hf⟩ := zx_ck hf
  obtain ⟨a_38, e_a_38, hf⟩ := zx_l hf
  obtain ⟨s_37, e_s_37, hf⟩ := zx_l hf
  have n_s_37 := zx_mnew e_s_37
  obtain ⟨-, hf⟩ := zx_ck hf
  obtain ⟨s_40, e_s_40, hf⟩ := zx_l hf
  have n_s_40 := zx_muR e_s_40
  obtain ⟨s_42, e_s_42, hf⟩ := zx_l hf
  have n_s_42 := zx_muI e_s_42
  obtain rfl := zx_r1 hf
  omega
set_option maxHeartbeats 4000000 in
theorem zm_Signed_init_R {n : Nat} {s0 : zh_S} {a0 : Nat} {z : zh_S} (hf : zf_Signed_init_R n s0 a0 = some z) : zh_N s0 ≤ zh_N z ∧ zh_M s0 ≤ zh_M z := by
  rw [zf_Signed_init_R] at hf
  obtain ⟨-, hf⟩ := zx_ck hf
  obtain ⟨s_1, e_s_1, hf⟩ := zx_l hf
  have n_s_1 := zx_muI e_s_1
  obtain rfl := zx_r1 hf
  omega
set_option maxHeartbeats 4000000 in
theorem zm_RevokedList_init {n : Nat} {s0 : zh_S} {a0 : Nat} {z : zh_S} (hf : zf_RevokedList_init n s0 a0 = some z) : zh_N s0 ≤ zh_N z ∧ zh_M s0 ≤ zh_M z := by
  rw [zf_RevokedList_init] at hf
  obtain ⟨s_1, hq, hf⟩ := zx_p hf
  have n_s_1 := zm_Signed_init_R hq
  obtain ⟨-, hf⟩ := zx_ck hf
  obtain ⟨a_3, e_a_3, hf⟩ := zx_l hf
  obtain ⟨s_2, e_s_2, hf⟩ := zx_l hf
  have n_s_2 := zx_mnew e_s_2
  obtain ⟨-, hf⟩ := zx_ck hf
  obtain ⟨s_5, e_s_5, hf⟩ := zx_l hf
  have n_s_5 := zx_muR e_s_5
  obtain ⟨-, hf⟩ := zx_ck hf
  obtain ⟨a_8, e_a_8, hf⟩ := zx_l hf
  obtain ⟨s_7, e_s_7, hf⟩ := zx_l hf
  have n_s_7 := zx_mnew e_s_7
  obtain ⟨-, hf⟩ := zx_ck hf
  obtain ⟨s_10, e_s_10, hf⟩ := zx_l hf
  have n_s_10 := zx_muR e_s_10
  obtain rfl := zx_r1 hf
  omega
set_option maxHeartbeats 4000000 in
theorem zm_Signed_init_C {n : Nat} {s0 : zh_S} {a0 : Nat} {z : zh_S} (hf : zf_Signed_init_C n s0 a0 = some z) : zh_N s0 ≤ zh_N z ∧ zh_M s0 ≤ zh_M z := by
  rw [zf_Signed_init_C] at hf
  obtain ⟨-, hf⟩ := zx_ck hf
  obtain ⟨s_1, e_s_1, hf⟩ := zx_l hf
  have n_s_1 := zx_muI e_s_1
  obtain rfl := zx_r1 hf
  omega
set_option maxHeartbeats 4000000 in
theorem zm_Certificate_init {n : Nat} {s0 : zh_S} {a0 : Nat} {z : zh_S} (hf : zf_Certificate_init n s0 a0 = some z) : zh_N s0 ≤ zh_N z ∧ zh_M s0 ≤ zh_M z := by
  rw [zf_Certificate_init] at hf
  obtain ⟨s_1, hq, hf⟩ := zx_p hf
  have n_s_1 := zm_Signed_init_C hq
  obtain rfl := zx_r1 hf
  omega
set_option maxHeartbeats 4000000 in
theorem zm_Shelf_init_64 {z : zh_S} (n : Nat) (k : Nat) : ∀ (s0 : zh_S) (a0 : Nat) (i1 : Int32), zl_Shelf_init_64 n k s0 a0 i1 = some z → zh_N s0 ≤ zh_N z ∧ zh_M s0 ≤ zh_M z := by
  induction k with
  | zero => intro s0 a0 i1 hf; cases hf
  | succ k ih =>
    intro s0 a0 i1 hf
    rw [zl_Shelf_init_64] at hf
    obtain ⟨-, hf⟩ := zx_ck hf
    obtain ⟨a_2, -, hf⟩ := zx_p hf
    obtain ⟨-, hf⟩ := zx_ck hf
    by_cases hc : (Int32.ofNat (zh_K s0 a_2).2) ≤ i1
    · rw [if_pos hc] at hf
      obtain rfl := zx_r1 hf
      omega
    · rw [if_neg hc] at hf
      obtain ⟨a_5, -, hf⟩ := zx_p hf
      obtain ⟨a_8, e_a_8, hf⟩ := zx_l hf
      obtain ⟨s_7, e_s_7, hf⟩ := zx_l hf
      have n_s_7 := zx_mnew e_s_7
      obtain ⟨s_9, hq, hf⟩ := zx_p hf
      have n_s_9 := zm_RevokedList_init hq
      obtain ⟨-, hf⟩ := zx_ck hf
      obtain ⟨-, hf⟩ := zx_ck hf
      obtain ⟨s_10, e_s_10, hf⟩ := zx_l hf
      have n_s_10 := zx_muR e_s_10
      obtain ⟨i_13, e_i_13, hf⟩ := zx_l hf
      have n_z := ih s_10 a0 i_13 hf
      omega
set_option maxHeartbeats 4000000 in
theorem zm_Shelf_init_34 {z : zh_S} (n : Nat) (k : Nat) : ∀ (s0 : zh_S) (a0 : Nat) (i1 : Int32), zl_Shelf_init_34 n k s0 a0 i1 = some z → zh_N s0 ≤ zh_N z ∧ zh_M s0 ≤ zh_M z := by
  induction k with
  | zero => intro s0 a0 i1 hf; cases hf
  | succ k ih =>
    intro s0 a0 i1 hf
    rw [zl_Shelf_init_34] at hf
    obtain ⟨-, hf⟩ := zx_ck hf
    obtain ⟨a_2, -, hf⟩ := zx_p hf
    obtain ⟨-, hf⟩ := zx_ck hf
    by_cases hc : (Int32.ofNat (zh_K s0 a_2).2) ≤ i1
    · rw [if_pos hc] at hf
      have n_z := zm_Shelf_init_64 n n s0 a0 (0 : Int32) hf
      omega
    · rw [if_neg hc] at hf
      obtain ⟨a_5, -, hf⟩ := zx_p hf
      obtain ⟨a_8, e_a_8, hf⟩ := zx_l hf
      obtain ⟨s_7, e_s_7, hf⟩ := zx_l hf
      have n_s_7 := zx_mnew e_s_7
      obtain ⟨s_9, hq, hf⟩ := zx_p hf
      have n_s_9 := zm_Certificate_init hq
      obtain ⟨-, hf⟩ := zx_ck hf
      obtain ⟨-, hf⟩ := zx_ck hf
      obtain ⟨s_10, e_s_10, hf⟩ := zx_l hf
      have n_s_10 := zx_muR e_s_10
      obtain ⟨i_13, e_i_13, hf⟩ := zx_l hf
      have n_z := ih s_10 a0 i_13 hf
      omega
set_option maxHeartbeats 4000000 in
theorem zm_Shelf_init {n : Nat} {s0 : zh_S} {a0 : Nat} {z : zh_S} (hf : zf_Shelf_init n s0 a0 = some z) : zh_N s0 ≤ zh_N z ∧ zh_M s0 ≤ zh_M z := by
  rw [zf_Shelf_init] at hf
  obtain ⟨-, hf⟩ := zx_ck hf
  obtain ⟨a_2, e_a_2, hf⟩ := zx_l hf
  obtain ⟨s_1, e_s_1, hf⟩ := zx_l hf
  have n_s_1 := zx_mnew e_s_1
  obtain ⟨-, hf⟩ := zx_ck hf
  obtain ⟨s_4, e_s_4, hf⟩ := zx_l hf
  have n_s_4 := zx_muR e_s_4
  obtain ⟨-, hf⟩ := zx_ck hf
  obtain ⟨a_7, e_a_7, hf⟩ := zx_l hf
  obtain ⟨s_6, e_s_6, hf⟩ := zx_l hf
  have n_s_6 := zx_mnew e_s_6
  obtain ⟨-, hf⟩ := zx_ck hf
  obtain ⟨s_9, e_s_9, hf⟩ := zx_l hf
  have n_s_9 := zx_muR e_s_9
  obtain ⟨s_11, e_s_11, hf⟩ := zx_l hf
  have n_s_11 := zx_muI e_s_11
  obtain ⟨s_12, e_s_12, hf⟩ := zx_l hf
  have n_s_12 := zx_muI e_s_12
  have n_z := zm_Shelf_init_34 n n s_12 a0 (0 : Int32) hf
  omega
set_option maxHeartbeats 4000000 in
theorem zm_V_init {n : Nat} {s0 : zh_S} {a0 : Nat} {z : zh_S} (hf : zf_V_init n s0 a0 = some z) : zh_N s0 ≤ zh_N z ∧ zh_M s0 ≤ zh_M z := by
  rw [zf_V_init] at hf
  obtain ⟨a_2, e_a_2, hf⟩ := zx_l hf
  obtain ⟨s_1, e_s_1, hf⟩ := zx_l hf
  have n_s_1 := zx_mnew e_s_1
  obtain ⟨s_3, hq, hf⟩ := zx_p hf
  have n_s_3 := zm_Draft_init hq
  obtain ⟨-, hf⟩ := zx_ck hf
  obtain ⟨s_4, e_s_4, hf⟩ := zx_l hf
  have n_s_4 := zx_muR e_s_4
  obtain ⟨a_7, e_a_7, hf⟩ := zx_l hf
  obtain ⟨s_6, e_s_6, hf⟩ := zx_l hf
  have n_s_6 := zx_mnew e_s_6
  obtain ⟨s_8, hq, hf⟩ := zx_p hf
  have n_s_8 := zm_Tool_init hq
  obtain ⟨-, hf⟩ := zx_ck hf
  obtain ⟨s_9, e_s_9, hf⟩ := zx_l hf
  have n_s_9 := zx_muR e_s_9
  obtain ⟨a_12, e_a_12, hf⟩ := zx_l hf
  obtain ⟨s_11, e_s_11, hf⟩ := zx_l hf
  have n_s_11 := zx_mnew e_s_11
  obtain ⟨s_13, hq, hf⟩ := zx_p hf
  have n_s_13 := zm_Shelf_init hq
  obtain ⟨-, hf⟩ := zx_ck hf
  obtain ⟨s_14, e_s_14, hf⟩ := zx_l hf
  have n_s_14 := zx_muR e_s_14
  obtain ⟨s_16, e_s_16, hf⟩ := zx_l hf
  have n_s_16 := zx_muR e_s_16
  obtain rfl := zx_r1 hf
  omega
set_option maxHeartbeats 4000000 in
theorem zm_M_init {n : Nat} {s0 : zh_S} {a0 : Nat} {z : zh_S} (hf : zf_M_init n s0 a0 = some z) : zh_N s0 ≤ zh_N z ∧ zh_M s0 ≤ zh_M z := by
  rw [zf_M_init] at hf
  obtain ⟨-, hf⟩ := zx_ck hf
  obtain ⟨a_2, e_a_2, hf⟩ := zx_l hf
  obtain ⟨s_1, e_s_1, hf⟩ := zx_l hf
  have n_s_1 := zx_mnew e_s_1
  obtain ⟨-, hf⟩ := zx_ck hf
  obtain ⟨s_4, e_s_4, hf⟩ := zx_l hf
  have n_s_4 := zx_muR e_s_4
  obtain ⟨-, hf⟩ := zx_ck hf
  obtain ⟨a_7, e_a_7, hf⟩ := zx_l hf
  obtain ⟨s_6, e_s_6, hf⟩ := zx_l hf
  have n_s_6 := zx_mnew e_s_6
  obtain ⟨-, hf⟩ := zx_ck hf
  obtain ⟨s_9, e_s_9, hf⟩ := zx_l hf
  have n_s_9 := zx_muR e_s_9
  obtain ⟨-, hf⟩ := zx_ck hf
  obtain ⟨a_12, e_a_12, hf⟩ := zx_l hf
  obtain ⟨s_11, e_s_11, hf⟩ := zx_l hf
  have n_s_11 := zx_mnew e_s_11
  obtain ⟨-, hf⟩ := zx_ck hf
  obtain ⟨s_14, e_s_14, hf⟩ := zx_l hf
  have n_s_14 := zx_muR e_s_14
  obtain ⟨-, hf⟩ := zx_ck hf
  obtain ⟨a_17, e_a_17, hf⟩ := zx_l hf
  obtain ⟨s_16, e_s_16, hf⟩ := zx_l hf
  have n_s_16 := zx_mnew e_s_16
  obtain ⟨-, hf⟩ := zx_ck hf
  obtain ⟨s_19, e_s_19, hf⟩ := zx_l hf
  have n_s_19 := zx_muR e_s_19
  obtain ⟨-, hf⟩ := zx_ck hf
  obtain ⟨a_22, e_a_22, hf⟩ := zx_l hf
  obtain ⟨s_21, e_s_21, hf⟩ := zx_l hf
  have n_s_21 := zx_mnew e_s_21
  obtain ⟨-, hf⟩ := zx_ck hf
  obtain ⟨s_24, e_s_24, hf⟩ := zx_l hf
  have n_s_24 := zx_muJ e_s_24
  obtain ⟨-, hf⟩ := zx_ck hf
  obtain ⟨s_26, e_s_26, hf⟩ := zx_l hf
  have n_s_26 := zx_muJ e_s_26
  obtain ⟨-, hf⟩ := zx_ck hf
  obtain ⟨s_28, e_s_28, hf⟩ := zx_l hf
  have n_s_28 := zx_muJ e_s_28
  obtain ⟨-, hf⟩ := zx_ck hf
  obtain ⟨s_30, e_s_30, hf⟩ := zx_l hf
  have n_s_30 := zx_muJ e_s_30
  obtain ⟨-, hf⟩ := zx_ck hf
  obtain ⟨s_32, e_s_32, hf⟩ := zx_l hf
  have n_s_32 := zx_muJ e_s_32
  obtain ⟨-, hf⟩ := zx_ck hf
  obtain ⟨s_34, e_s_34, hf⟩ := zx_l hf
  have n_s_34 := zx_muJ e_s_34
  obtain ⟨-, hf⟩ := zx_ck hf
  obtain ⟨s_36, e_s_36, hf⟩ := zx_l hf
  have n_s_36 := zx_muR e_s_36
  obtain ⟨-, hf⟩ := zx_ck hf
  obtain ⟨a_39, e_a_39, hf⟩ := zx_l hf
  obtain ⟨s_38, e_s_38, hf⟩ := zx_l hf
  have n_s_38 := zx_mnew e_s_38
  obtain ⟨-, hf⟩ := zx_ck hf
  obtain ⟨s_41, e_s_41, hf⟩ := zx_l hf
  have n_s_41 := zx_muJ e_s_41
  obtain ⟨-, hf⟩ := zx_ck hf
  obtain ⟨s_43, e_s_43, hf⟩ := zx_l hf
  have n_s_43 := zx_muJ e_s_43
  obtain ⟨-, hf⟩ := zx_ck hf
  obtain ⟨s_45, e_s_45, hf⟩ := zx_l hf
  have n_s_45 := zx_muJ e_s_45
  obtain ⟨-, hf⟩ := zx_ck hf
  obtain ⟨s_47, e_s_47, hf⟩ := zx_l hf
  have n_s_47 := zx_muJ e_s_47
  obtain ⟨-, hf⟩ := zx_ck hf
  obtain ⟨s_49, e_s_49, hf⟩ := zx_l hf
  have n_s_49 := zx_muJ e_s_49
  obtain ⟨-, hf⟩ := zx_ck hf
  obtain ⟨s_51, e_s_51, hf⟩ := zx_l hf
  have n_s_51 := zx_muJ e_s_51
  obtain ⟨-, hf⟩ := zx_ck hf
  obtain ⟨s_53, e_s_53, hf⟩ := zx_l hf
  have n_s_53 := zx_muR e_s_53
  obtain ⟨-, hf⟩ := zx_ck hf
  obtain ⟨a_56, e_a_56, hf⟩ := zx_l hf
  obtain ⟨s_55, e_s_55, hf⟩ := zx_l hf
  have n_s_55 := zx_mnew e_s_55
  obtain ⟨-, hf⟩ := zx_ck hf
  obtain ⟨s_58, e_s_58, hf⟩ := zx_l hf
  have n_s_58 := zx_muJ e_s_58
  obtain ⟨-, hf⟩ := zx_ck hf
  obtain ⟨s_60, e_s_60, hf⟩ := zx_l hf
  have n_s_60 := zx_muJ e_s_60
  obtain ⟨-, hf⟩ := zx_ck hf
  obtain ⟨s_62, e_s_62, hf⟩ := zx_l hf
  have n_s_62 := zx_muJ e_s_62
  obtain ⟨-, hf⟩ := zx_ck hf
  obtain ⟨s_64, e_s_64, hf⟩ := zx_l hf
  have n_s_64 := zx_muJ e_s_64
  obtain ⟨-, hf⟩ := zx_ck hf
  obtain ⟨s_66, e_s_66, hf⟩ := zx_l hf
  have n_s_66 := zx_muJ e_s_66
  obtain ⟨-, hf⟩ := zx_ck hf
  obtain ⟨s_68, e_s_68, hf⟩ := zx_l hf
  have n_s_68 := zx_muJ e_s_68
  obtain ⟨-, hf⟩ := zx_ck hf
  obtain ⟨s_70, e_s_70, hf⟩ := zx_l hf
  have n_s_70 := zx_muR e_s_70
  obtain ⟨-, hf⟩ := zx_ck hf
  obtain ⟨a_73, e_a_73, hf⟩ := zx_l hf
  obtain ⟨s_72, e_s_72, hf⟩ := zx_l hf
  have n_s_72 := zx_mnew e_s_72
  obtain ⟨-, hf⟩ := zx_ck hf
  obtain ⟨s_75, e_s_75, hf⟩ := zx_l hf
  have n_s_75 := zx_muR e_s_75
  obtain ⟨-, hf⟩ := zx_ck hf
  obtain ⟨a_78, e_a_78, hf⟩ := zx_l hf
  obtain ⟨s_77, e_s_77, hf⟩ := zx_l hf
  have n_s_77 := zx_mnew e_s_77
  obtain ⟨-, hf⟩ := zx_ck hf
  obtain ⟨s_80, e_s_80, hf⟩ := zx_l hf
  have n_s_80 := zx_muR e_s_80
  obtain ⟨-, hf⟩ := zx_ck hf
  obtain ⟨a_83, e_a_83, hf⟩ := zx_l hf
  obtain ⟨s_82, e_s_82, hf⟩ := zx_l hf
  have n_s_82 := zx_mnew e_s_82
  obtain ⟨-, hf⟩ := zx_ck hf
  obtain ⟨s_85, e_s_85, hf⟩ := zx_l hf
  have n_s_85 := zx_muR e_s_85
  obtain ⟨-, hf⟩ := zx_ck hf
  obtain ⟨a_88, e_a_88, hf⟩ := zx_l hf
  obtain ⟨s_87, e_s_87, hf⟩ := zx_l hf
  have n_s_87 := zx_mnew e_s_87
  obtain ⟨-, hf⟩ := zx_ck hf
  obtain ⟨s_90, e_s_90, hf⟩ := zx_l hf
  have n_s_90 := zx_muR e_s_90
  obtain ⟨-, hf⟩ := zx_ck hf
  obtain ⟨a_93, e_a_93, hf⟩ := zx_l hf
  obtain ⟨s_92, e_s_92, hf⟩ := zx_l hf
  have n_s_92 := zx_mnew e_s_92
  obtain ⟨-, hf⟩ := zx_ck hf
  obtain ⟨s_95, e_s_95, hf⟩ := zx_l hf
  have n_s_95 := zx_muR e_s_95
  obtain ⟨-, hf⟩ := zx_ck hf
  obtain ⟨a_98, e_a_98, hf⟩ := zx_l hf
  obtain ⟨s_97, e_s_97, hf⟩ := zx_l hf
  have n_s_97 := zx_mnew e_s_97
  obtain ⟨-, hf⟩ := zx_ck hf
  obtain ⟨s_100, e_s_100, hf⟩ := zx_l hf
  have n_s_100 := zx_muR e_s_100
  obtain ⟨-, hf⟩ := zx_ck hf
  obtain ⟨a_103, e_a_103, hf⟩ := zx_l hf
  obtain ⟨s_102, e_s_102, hf⟩ := zx_l hf
  have n_s_102 := zx_mnew e_s_102
  obtain ⟨-, hf⟩ := zx_ck hf
  obtain ⟨s_105, e_s_105, hf⟩ := zx_l hf
  have n_s_105 := zx_muR e_s_105
  obtain ⟨-, hf⟩ := zx_ck hf
  obtain ⟨a_108, e_a_108, hf⟩ := zx_l hf
  obtain ⟨s_107, e_s_107, hf⟩ := zx_l hf
  have n_s_107 := zx_mnew e_s_107
  obtain ⟨-, hf⟩ := zx_ck hf
  obtain ⟨s_110, e_s_110, hf⟩ := zx_l hf
  have n_s_110 := zx_muR e_s_110
  obtain ⟨-, hf⟩ := zx_ck hf
  obtain ⟨a_113, e_a_113, hf⟩ := zx_l hf
  obtain ⟨s_112, e_s_112, hf⟩ := zx_l hf
  have n_s_112 := zx_mnew e_s_112
  obtain ⟨-, hf⟩ := zx_ck hf
  obtain ⟨s_115, e_s_115, hf⟩ := zx_l hf
  have n_s_115 := zx_muR e_s_115
  obtain ⟨-, hf⟩ := zx_ck hf
  obtain ⟨a_118, e_a_118, hf⟩ := zx_l hf
  obtain ⟨s_117, e_s_117, hf⟩ := zx_l hf
  have n_s_117 := zx_mnew e_s_117
  obtain ⟨-, hf⟩ := zx_ck hf
  obtain ⟨s_120, e_s_120, hf⟩ := zx_l hf
  have n_s_120 := zx_muR e_s_120
  obtain ⟨a_122, -, hf⟩ := zx_p hf
  obtain ⟨-, hf⟩ := zx_ck hf
  obtain ⟨s_124, e_s_124, hf⟩ := zx_l hf
  have n_s_124 := zx_muJ e_s_124
  obtain ⟨-, hf⟩ := zx_ck hf
  obtain ⟨a_127, -, hf⟩ := zx_p hf
  obtain ⟨-, hf⟩ := zx_ck hf
  obtain ⟨s_129, e_s_129, hf⟩ := zx_l hf
  have n_s_129 := zx_muJ e_s_129
  obtain ⟨-, hf⟩ := zx_ck hf
  obtain ⟨a_132, -, hf⟩ := zx_p hf
  obtain ⟨-, hf⟩ := zx_ck hf
  obtain ⟨s_134, e_s_134, hf⟩ := zx_l hf
  have n_s_134 := zx_muJ e_s_134
  obtain ⟨-, hf⟩ := zx_ck hf
  obtain ⟨a_137, -, hf⟩ := zx_p hf
  obtain ⟨-, hf⟩ := zx_ck hf
  obtain ⟨s_139, e_s_139, hf⟩ := zx_l hf
  have n_s_139 := zx_muJ e_s_139
  obtain ⟨-, hf⟩ := zx_ck hf
  obtain ⟨a_142, -, hf⟩ := zx_p hf
  obtain ⟨-, hf⟩ := zx_ck hf
  obtain ⟨s_144, e_s_144, hf⟩ := zx_l hf
  have n_s_144 := zx_muJ e_s_144
  obtain ⟨-, hf⟩ := zx_ck hf
  obtain ⟨a_147, -, hf⟩ := zx_p hf
  obtain ⟨-, hf⟩ := zx_ck hf
  obtain ⟨s_149, e_s_149, hf⟩ := zx_l hf
  have n_s_149 := zx_muJ e_s_149
  obtain ⟨-, hf⟩ := zx_ck hf
  obtain ⟨a_152, -, hf⟩ := zx_p hf
  obtain ⟨-, hf⟩ := zx_ck hf
  obtain ⟨s_154, e_s_154, hf⟩ := zx_l hf
  have n_s_154 := zx_muJ e_s_154
  obtain rfl := zx_r1 hf
  omega
set_option maxHeartbeats 4000000 in
theorem zm_Search_init {n : Nat} {s0 : zh_S} {a0 : Nat} {a1 : Nat} {j2 : Int64} {i4 : Int32} {i5 : Int32} {z : zh_S} (hf : zf_Search_init n s0 a0 a1 j2 i4 i5 = some z) : zh_N s0 ≤ zh_N z ∧ zh_M s0 ≤ zh_M z := by
  rw [zf_Search_init] at hf
  obtain ⟨-, hf⟩ := zx_ck hf
  obtain ⟨a_2, e_a_2, hf⟩ := zx_l hf
  obtain ⟨s_1, e_s_1, hf⟩ := zx_l hf
  have n_s_1 := zx_mnew e_s_1
  obtain ⟨-, hf⟩ := zx_ck hf
  obtain ⟨s_4, e_s_4, hf⟩ := zx_l hf
  have n_s_4 := zx_muR e_s_4
  obtain ⟨s_6, e_s_6, hf⟩ := zx_l hf
  have n_s_6 := zx_muI e_s_6
  obtain ⟨s_7, e_s_7, hf⟩ := zx_l hf
  have n_s_7 := zx_muI e_s_7
  obtain ⟨s_8, e_s_8, hf⟩ := zx_l hf
  have n_s_8 := zx_muI e_s_8
  obtain ⟨s_9, e_s_9, hf⟩ := zx_l hf
  have n_s_9 := zx_muR e_s_9
  obtain ⟨s_10, e_s_10, hf⟩ := zx_l hf
  have n_s_10 := zx_muJ e_s_10
  obtain ⟨s_11, e_s_11, hf⟩ := zx_l hf
  have n_s_11 := zx_muI e_s_11
  obtain ⟨-, hf⟩ := zx_ck hf
  obtain ⟨s_12, e_s_12, hf⟩ := zx_l hf
  have n_s_12 := zx_muI e_s_12
  obtain rfl := zx_r1 hf
  omega
set_option maxHeartbeats 4000000 in
theorem zm_Search_goThrough_96 {z : zh_S} {r : Int32} (n : Nat) (g : zh_S → Nat → Int32 → Option (Int32 × zh_S)) (hgm : ∀ (s0 : zh_S) (a0 : Nat) (i1 r : Int32) (z : zh_S), g s0 a0 i1 = some (r, z) → zh_N s0 ≤ zh_N z ∧ zh_M s0 ≤ zh_M z) (r14 : zh_S → Nat → Int32 → Int32 → Int64 → Int32 → Option (Int32 × zh_S)) (hr14 : ∀ (s0 : zh_S) (a0 : Nat) (i1 : Int32) (i2 : Int32) (j3 : Int64) (i5 : Int32), r14 s0 a0 i1 i2 j3 i5 = some (r, z) → zh_N s0 ≤ zh_N z ∧ zh_M s0 ≤ zh_M z) : ∀ (s0 : zh_S) (a0 : Nat) (i1 : Int32) (i2 : Int32) (j3 : Int64) (i5 : Int32), zb_Search_goThrough_96 n g r14 s0 a0 i1 i2 j3 i5 = some (r, z) → zh_N s0 ≤ zh_N z ∧ zh_M s0 ≤ zh_M z := by
  intro s0 a0 i1 i2 j3 i5 hf
  rw [zb_Search_goThrough_96] at hf
  obtain ⟨i_1, e_i_1, hf⟩ := zx_l hf
  have n_z := hr14 s0 a0 i1 i2 j3 i_1 hf
  omega
set_option maxHeartbeats 4000000 in
theorem zm_Search_goThrough_14 {z : zh_S} {r : Int32} (n : Nat) (g : zh_S → Nat → Int32 → Option (Int32 × zh_S)) (hgm : ∀ (s0 : zh_S) (a0 : Nat) (i1 r : Int32) (z : zh_S), g s0 a0 i1 = some (r, z) → zh_N s0 ≤ zh_N z ∧ zh_M s0 ≤ zh_M z) (k : Nat) : ∀ (s0 : zh_S) (a0 : Nat) (i1 : Int32) (i2 : Int32) (j3 : Int64) (i5 : Int32), zl_Search_goThrough_14 n g k s0 a0 i1 i2 j3 i5 = some (r, z) → zh_N s0 ≤ zh_N z ∧ zh_M s0 ≤ zh_M z := by
  induction k with
  | zero => intro s0 a0 i1 i2 j3 i5 hf; cases hf
  | succ k ih =>
    intro s0 a0 i1 i2 j3 i5 hf
    rw [zl_Search_goThrough_14] at hf
    obtain ⟨-, hf⟩ := zx_ck hf
    obtain ⟨a_2, -, hf⟩ := zx_p hf
    obtain ⟨-, hf⟩ := zx_ck hf
    by_cases hc : (zh_I s0 a_2 2) ≤ i5
    · rw [if_pos hc] at hf
      obtain ⟨-, rfl⟩ := zx_r2 hf
      omega
    · rw [if_neg hc] at hf
      by_cases hc : (40 : Int32) ≤ (zh_I s0 a0 7)
      · rw [if_pos hc] at hf
        obtain ⟨-, rfl⟩ := zx_r2 hf
        omega
      · rw [if_neg hc] at hf
        obtain ⟨a_5, -, hf⟩ := zx_p hf
        obtain ⟨-, hf⟩ := zx_ck hf
        obtain ⟨a_8, -, hf⟩ := zx_p hf
        obtain ⟨-, hf⟩ := zx_ck hf
        obtain ⟨a_11, -, hf⟩ := zx_p hf
        obtain ⟨-, hf⟩ := zx_ck hf
        by_cases hc : (zh_I s0 a_11 18) = i2
        · rw [if_pos hc] at hf
          by_cases hc : (lg_cmp (zh_J s0 a_11 7) j3) = 0
          · rw [if_pos hc] at hf
            obtain ⟨i_14, hq, hf⟩ := zx_p hf
            by_cases hc : i_14 = 0
            · rw [if_pos hc] at hf
              obtain ⟨a_15, -, hf⟩ := zx_p hf
              obtain ⟨-, hf⟩ := zx_ck hf
              obtain ⟨s_17, e_s_17, hf⟩ := zx_l hf
              have n_s_17 := zx_muI e_s_17
              obtain ⟨-, hf⟩ := zx_ck hf
              obtain ⟨i_21, s_19, hq, hf⟩ := zx_b hf
              have n_s_19 := hgm _ _ _ _ _ hq
              by_cases hc : i_21 = 0
              · rw [if_pos hc] at hf
                have n_z := zm_Search_goThrough_96 n g hgm _ ih s_19 a0 i1 i2 j3 i5 hf
                omega
              · rw [if_neg hc] at hf
                obtain ⟨-, rfl⟩ := zx_r2 hf
                omega
            · rw [if_neg hc] at hf
              have n_z := zm_Search_goThrough_96 n g hgm _ ih s0 a0 i1 i2 j3 i5 hf
              omega
          · rw [if_neg hc] at hf
            have n_z := zm_Search_goThrough_96 n g hgm _ ih s0 a0 i1 i2 j3 i5 hf
            omega
        · rw [if_neg hc] at hf
          have n_z := zm_Search_goThrough_96 n g hgm _ ih s0 a0 i1 i2 j3 i5 hf
          omega
set_option maxHeartbeats 4000000 in
theorem zm_Search_goThrough {n : Nat} {g : zh_S → Nat → Int32 → Option (Int32 × zh_S)} (hgm : ∀ (s0 : zh_S) (a0 : Nat) (i1 r : Int32) (z : zh_S), g s0 a0 i1 = some (r, z) → zh_N s0 ≤ zh_N z ∧ zh_M s0 ≤ zh_M z) {s0 : zh_S} {a0 : Nat} {i1 : Int32} {i2 : Int32} {r : Int32} {z : zh_S} (hf : zf_Search_goThrough n g s0 a0 i1 i2 = some (r, z)) : zh_N s0 ≤ zh_N z ∧ zh_M s0 ≤ zh_M z := by
  rw [zf_Search_goThrough] at hf
  obtain ⟨-, hf⟩ := zx_ck hf
  obtain ⟨a_2, hq, hf⟩ := zx_p hf
  obtain ⟨-, hf⟩ := zx_ck hf
  obtain ⟨j_4, e_j_4, hf⟩ := zx_l hf
  have n_z := zm_Search_goThrough_14 n g hgm n s0 a0 i1 i2 j_4 (0 : Int32) hf
  omega
set_option maxHeartbeats 4000000 in
theorem zm_Search_tryCandidate_46 {z : zh_S} {r : Int32} (n : Nat) : ∀ (s0 : zh_S) (a0 : Nat) (i1 : Int32), zb_Search_tryCandidate_46 n s0 a0 i1 = some (r, z) → zh_N s0 ≤ zh_N z ∧ zh_M s0 ≤ zh_M z := by
  intro s0 a0 i1 hf
  rw [zb_Search_tryCandidate_46] at hf
  obtain ⟨-, hf⟩ := zx_ck hf
  by_cases hc : (zh_I s0 a0 6) = 0
  · rw [if_pos hc] at hf
    obtain ⟨s_2, e_s_2, hf⟩ := zx_l hf
    have n_s_2 := zx_muI e_s_2
    obtain ⟨-, rfl⟩ := zx_r2 hf
    omega
  · rw [if_neg hc] at hf
    obtain ⟨-, rfl⟩ := zx_r2 hf
    omega
set_option maxHeartbeats 4000000 in
theorem zm_Search_tryCandidate_19 {z : zh_S} {r : Int32} (n : Nat) (k : Nat) : ∀ (s0 : zh_S) (a0 : Nat) (i1 : Int32) (i2 : Int32), zl_Search_tryCandidate_19 n k s0 a0 i1 i2 = some (r, z) → zh_N s0 ≤ zh_N z ∧ zh_M s0 ≤ zh_M z := by
  induction k with
  | zero => intro s0 a0 i1 i2 hf; cases hf
  | succ k ih =>
    intro s0 a0 i1 i2 hf
    rw [zl_Search_tryCandidate_19] at hf
    by_cases hc : i2 < 0
    · rw [if_pos hc] at hf
      have n_z := zm_Search_tryCandidate_46 n s0 a0 i1 hf
      omega
    · rw [if_neg hc] at hf
      obtain ⟨-, hf⟩ := zx_ck hf
      by_cases hc : (zh_I s0 a0 6) = 0
      · rw [if_pos hc] at hf
        obtain ⟨i_2, hq, hf⟩ := zx_p hf
        obtain ⟨s_3, e_s_3, hf⟩ := zx_l hf
        have n_s_3 := zx_muI e_s_3
        obtain ⟨i_4, e_i_4, hf⟩ := zx_l hf
        have n_z := ih s_3 a0 i1 i_4 hf
        omega
      · rw [if_neg hc] at hf
        have n_z := zm_Search_tryCandidate_46 n s0 a0 i1 hf
        omega
set_option maxHeartbeats 4000000 in
theorem zm_Search_tryCandidate {n : Nat} {s0 : zh_S} {a0 : Nat} {i1 : Int32} {r : Int32} {z : zh_S} (hf : zf_Search_tryCandidate n s0 a0 i1 = some (r, z)) : zh_N s0 ≤ zh_N z ∧ zh_M s0 ≤ zh_M z := by
  rw [zf_Search_tryCandidate] at hf
  obtain ⟨-, hf⟩ := zx_ck hf
  obtain ⟨s_2, e_s_2, hf⟩ := zx_l hf
  have n_s_2 := zx_muI e_s_2
  obtain ⟨s_3, e_s_3, hf⟩ := zx_l hf
  have n_s_3 := zx_muI e_s_3
  obtain ⟨i_4, e_i_4, hf⟩ := zx_l hf
  have n_z := zm_Search_tryCandidate_19 n n s_3 a0 i1 i_4 hf
  omega
set_option maxHeartbeats 4000000 in
theorem zm_Search_goOn {n : Nat} : ∀ (d : Nat) {s0 : zh_S} {a0 : Nat} {i1 r : Int32} {z : zh_S}, zf_Search_goOn n d s0 a0 i1 = some (r, z) → zh_N s0 ≤ zh_N z ∧ zh_M s0 ≤ zh_M z := by
  intro d
  induction d with
  | zero => intro s0 a0 i1 r z hf; cases hf
  | succ d ihd =>
    intro s0 a0 i1 r z hf
    rw [zf_Search_goOn] at hf
    obtain ⟨g, e_g, hf⟩ := zx_l hf
    have hgm : ∀ (s0 : zh_S) (a0 : Nat) (i1 r : Int32) (z : zh_S), g s0 a0 i1 = some (r, z) → zh_N s0 ≤ zh_N z ∧ zh_M s0 ≤ zh_M z := fun s0 a0 i1 r z h => ihd (by rw [e_g] at h; exact h)
    obtain ⟨-, hf⟩ := zx_ck hf
    obtain ⟨a_2, hq, hf⟩ := zx_p hf
    obtain ⟨-, hf⟩ := zx_ck hf
    by_cases hc : (zh_I s0 a_2 18) = 0
    · rw [if_pos hc] at hf
      by_cases hc : (zh_I s0 a0 2) ≤ i1
      · rw [if_pos hc] at hf
        obtain ⟨-, rfl⟩ := zx_r2 hf
        omega
      · rw [if_neg hc] at hf
        obtain ⟨i_5, s_4, hq, hf⟩ := zx_b hf
        have n_s_4 := zm_Search_goThrough hgm hq
        by_cases hc : i_5 = 0
        · rw [if_pos hc] at hf
          obtain ⟨-, hf⟩ := zx_ck hf
          obtain ⟨i_8, s_6, hq, hf⟩ := zx_b hf
          have n_s_6 := zm_Search_goThrough hgm hq
          by_cases hc : i_8 = 0
          · rw [if_pos hc] at hf
            obtain ⟨-, rfl⟩ := zx_r2 hf
            omega
          · rw [if_neg hc] at hf
            obtain ⟨-, rfl⟩ := zx_r2 hf
            omega
        · rw [if_neg hc] at hf
          obtain ⟨-, rfl⟩ := zx_r2 hf
          omega
    · rw [if_neg hc] at hf
      obtain ⟨i_10, s_9, hq, hf⟩ := zx_b hf
      have n_s_9 := zm_Search_tryCandidate hq
      obtain ⟨-, hf⟩ := zx_ck hf
      obtain ⟨-, rfl⟩ := zx_r2 hf
      omega
set_option maxHeartbeats 4000000 in
theorem zm_Search_lookFor {n : Nat} {s0 : zh_S} {a0 : Nat} {i1 : Int32} {r : Int32} {z : zh_S} (hf : zf_Search_lookFor n s0 a0 i1 = some (r, z)) : zh_N s0 ≤ zh_N z ∧ zh_M s0 ≤ zh_M z := by
  rw [zf_Search_lookFor] at hf
  obtain ⟨-, hf⟩ := zx_ck hf
  obtain ⟨a_2, -, hf⟩ := zx_p hf
  obtain ⟨-, hf⟩ := zx_ck hf
  obtain ⟨s_4, e_s_4, hf⟩ := zx_l hf
  have n_s_4 := zx_muI e_s_4
  obtain ⟨-, hf⟩ := zx_ck hf
  obtain ⟨i_8, s_6, hq, hf⟩ := zx_b hf
  have n_s_6 := zm_Search_goOn 7 hq
  by_cases hc : i_8 = 0
  · rw [if_pos hc] at hf
    obtain ⟨-, hf⟩ := zx_ck hf
    by_cases hc : (zh_I s_6 a0 7) = 0
    · rw [if_pos hc] at hf
      obtain ⟨-, rfl⟩ := zx_r2 hf
      omega
    · rw [if_neg hc] at hf
      obtain ⟨-, rfl⟩ := zx_r2 hf
      omega
  · rw [if_neg hc] at hf
    obtain ⟨-, hf⟩ := zx_ck hf
    obtain ⟨-, rfl⟩ := zx_r2 hf
    omega
set_option maxHeartbeats 4000000 in
theorem zm_V_validate {n : Nat} {s0 : zh_S} {a0 : Nat} {i1 : Int32} {j2 : Int64} {i4 : Int32} {i5 : Int32} {r : Int32} {z : zh_S} (hf : zf_V_validate n s0 a0 i1 j2 i4 i5 = some (r, z)) : zh_N s0 ≤ zh_N z ∧ zh_M s0 ≤ zh_M z := by
  rw [zf_V_validate] at hf
  obtain ⟨-, hf⟩ := zx_ck hf
  obtain ⟨a_2, -, hf⟩ := zx_p hf
  obtain ⟨-, hf⟩ := zx_ck hf
  obtain ⟨i_5, hq, hf⟩ := zx_p hf
  by_cases hc : i_5 = 0
  · rw [if_pos hc] at hf
    obtain ⟨-, rfl⟩ := zx_r2 hf
    omega
  · rw [if_neg hc] at hf
    by_cases hc : (lg_cmp j2 (0 : Int64)) < 0
    · rw [if_pos hc] at hf
      obtain ⟨-, rfl⟩ := zx_r2 hf
      omega
    · rw [if_neg hc] at hf
      by_cases hc : i4 < (1 : Int32)
      · rw [if_pos hc] at hf
        obtain ⟨-, rfl⟩ := zx_r2 hf
        omega
      · rw [if_neg hc] at hf
        by_cases hc : i4 ≤ (5 : Int32)
        · rw [if_pos hc] at hf
          obtain ⟨a_7, e_a_7, hf⟩ := zx_l hf
          obtain ⟨s_6, e_s_6, hf⟩ := zx_l hf
          have n_s_6 := zx_mnew e_s_6
          obtain ⟨-, hf⟩ := zx_ck hf
          obtain ⟨a_9, -, hf⟩ := zx_p hf
          obtain ⟨s_11, hq, hf⟩ := zx_p hf
          have n_s_11 := zm_Search_init hq
          obtain ⟨-, hf⟩ := zx_ck hf
          obtain ⟨s_12, e_s_12, hf⟩ := zx_l hf
          have n_s_12 := zx_muR e_s_12
          rcases zx_o hf with ⟨-, hf⟩ | ⟨a_14, -, hf⟩
          · skip
            cases hf
          · skip
            obtain ⟨-, hf⟩ := zx_ck hf
            obtain ⟨i_17, s_15, hq, hf⟩ := zx_b hf
            have n_s_15 := zm_Search_lookFor hq
            obtain ⟨-, rfl⟩ := zx_r2 hf
            omega
        · rw [if_neg hc] at hf
          obtain ⟨-, rfl⟩ := zx_r2 hf
          omega
set_option maxHeartbeats 4000000 in
theorem zm_M_holds_42 {z : zh_S} {r : Int32} (n : Nat) : ∀ (s0 : zh_S) (a0 : Nat), zb_M_holds_42 n s0 a0 = some (r, z) → zh_N s0 ≤ zh_N z ∧ zh_M s0 ≤ zh_M z := by
  intro s0 a0 hf
  rw [zb_M_holds_42] at hf
  obtain ⟨-, hf⟩ := zx_ck hf
  by_cases hc : (zh_I s0 a0 26) = 0
  · rw [if_pos hc] at hf
    obtain ⟨-, rfl⟩ := zx_r2 hf
    omega
  · rw [if_neg hc] at hf
    obtain ⟨-, rfl⟩ := zx_r2 hf
    omega
set_option maxHeartbeats 4000000 in
theorem zm_M_holds_10 {z : zh_S} {r : Int32} (n : Nat) (k : Nat) : ∀ (s0 : zh_S) (a0 : Nat) (i1 : Int32) (j2 : Int64) (i4 : Int32) (i5 : Int32), zl_M_holds_10 n k s0 a0 i1 j2 i4 i5 = some (r, z) → zh_N s0 ≤ zh_N z ∧ zh_M s0 ≤ zh_M z := by
  induction k with
  | zero => intro s0 a0 i1 j2 i4 i5 hf; cases hf
  | succ k ih =>
    intro s0 a0 i1 j2 i4 i5 hf
    rw [zl_M_holds_10] at hf
    by_cases hc : i5 < 0
    · rw [if_pos hc] at hf
      have n_z := zm_M_holds_42 n s0 a0 hf
      omega
    · rw [if_neg hc] at hf
      obtain ⟨-, hf⟩ := zx_ck hf
      by_cases hc : (zh_I s0 a0 26) = 0
      · rw [if_pos hc] at hf
        obtain ⟨i_2, hq, hf⟩ := zx_p hf
        obtain ⟨s_3, e_s_3, hf⟩ := zx_l hf
        have n_s_3 := zx_muI e_s_3
        obtain ⟨i_4, e_i_4, hf⟩ := zx_l hf
        have n_z := ih s_3 a0 i1 j2 i4 i_4 hf
        omega
      · rw [if_neg hc] at hf
        have n_z := zm_M_holds_42 n s0 a0 hf
        omega
set_option maxHeartbeats 4000000 in
theorem zm_M_holds {n : Nat} {s0 : zh_S} {a0 : Nat} {i1 : Int32} {j2 : Int64} {i4 : Int32} {r : Int32} {z : zh_S} (hf : zf_M_holds n s0 a0 i1 j2 i4 = some (r, z)) : zh_N s0 ≤ zh_N z ∧ zh_M s0 ≤ zh_M z := by
  rw [zf_M_holds] at hf
  obtain ⟨-, hf⟩ := zx_ck hf
  obtain ⟨s_1, e_s_1, hf⟩ := zx_l hf
  have n_s_1 := zx_muI e_s_1
  obtain ⟨i_3, e_i_3, hf⟩ := zx_l hf
  have n_z := zm_M_holds_10 n n s_1 a0 i1 j2 i4 i_3 hf
  omega
set_option maxHeartbeats 4000000 in
theorem zm_M_search_190 {z : zh_S} {r : Int32} (n : Nat) (r13 : zh_S → Nat → Int64 → Int32 → Int32 → Int32 → Int32 → Option (Int32 × zh_S)) (hr13 : ∀ (s0 : zh_S) (a0 : Nat) (j1 : Int64) (i3 : Int32) (i4 : Int32) (i5 : Int32) (i6 : Int32), r13 s0 a0 j1 i3 i4 i5 i6 = some (r, z) → zh_N s0 ≤ zh_N z ∧ zh_M s0 ≤ zh_M z) : ∀ (s0 : zh_S) (a0 : Nat) (j1 : Int64) (i3 : Int32) (i4 : Int32) (i5 : Int32) (i6 : Int32), zb_M_search_190 n r13 s0 a0 j1 i3 i4 i5 i6 = some (r, z) → zh_N s0 ≤ zh_N z ∧ zh_M s0 ≤ zh_M z := by
  intro s0 a0 j1 i3 i4 i5 i6 hf
  rw [zb_M_search_190] at hf
  have n_z := hr13 s0 a0 j1 i3 i4 i5 i6 hf
  omega
set_option maxHeartbeats 4000000 in
theorem zm_M_search_141 {z : zh_S} {r : Int32} (n : Nat) (r13 : zh_S → Nat → Int64 → Int32 → Int32 → Int32 → Int32 → Option (Int32 × zh_S)) (hr13 : ∀ (s0 : zh_S) (a0 : Nat) (j1 : Int64) (i3 : Int32) (i4 : Int32) (i5 : Int32) (i6 : Int32), r13 s0 a0 j1 i3 i4 i5 i6 = some (r, z) → zh_N s0 ≤ zh_N z ∧ zh_M s0 ≤ zh_M z) : ∀ (s0 : zh_S) (a0 : Nat) (j1 : Int64) (i3 : Int32) (i4 : Int32) (i5 : Int32) (i8 : Int32) (it0 : Int32), zb_M_search_141 n r13 s0 a0 j1 i3 i4 i5 i8 it0 = some (r, z) → zh_N s0 ≤ zh_N z ∧ zh_M s0 ≤ zh_M z := by
  intro s0 a0 j1 i3 i4 i5 i8 it0 hf
  rw [zb_M_search_141] at hf
  by_cases hc : it0 = 0
  · rw [if_pos hc] at hf
    obtain ⟨i_1, e_i_1, hf⟩ := zx_l hf
    have n_z := zm_M_search_190 n _ hr13 s0 a0 j1 i3 i4 i_1 it0 hf
    omega
  · rw [if_neg hc] at hf
    obtain ⟨-, hf⟩ := zx_ck hf
    obtain ⟨a_3, -, hf⟩ := zx_p hf
    obtain ⟨-, hf⟩ := zx_ck hf
    obtain ⟨s_5, e_s_5, hf⟩ := zx_l hf
    have n_s_5 := zx_muI e_s_5
    obtain ⟨-, hf⟩ := zx_ck hf
    obtain ⟨a_8, -, hf⟩ := zx_p hf
    obtain ⟨-, hf⟩ := zx_ck hf
    obtain ⟨-, hf⟩ := zx_ck hf
    obtain ⟨s_11, e_s_11, hf⟩ := zx_l hf
    have n_s_11 := zx_muI e_s_11
    obtain ⟨-, hf⟩ := zx_ck hf
    obtain ⟨a_14, -, hf⟩ := zx_p hf
    obtain ⟨-, hf⟩ := zx_ck hf
    obtain ⟨s_16, e_s_16, hf⟩ := zx_l hf
    have n_s_16 := zx_muI e_s_16
    obtain ⟨i_18, e_i_18, hf⟩ := zx_l hf
    have n_z := zm_M_search_190 n _ hr13 s_16 a0 j1 i3 i4 i_18 it0 hf
    omega
set_option maxHeartbeats 4000000 in
theorem zm_M_search_129 {z : zh_S} {r : Int32} (n : Nat) (r13 : zh_S → Nat → Int64 → Int32 → Int32 → Int32 → Int32 → Option (Int32 × zh_S)) (hr13 : ∀ (s0 : zh_S) (a0 : Nat) (j1 : Int64) (i3 : Int32) (i4 : Int32) (i5 : Int32) (i6 : Int32), r13 s0 a0 j1 i3 i4 i5 i6 = some (r, z) → zh_N s0 ≤ zh_N z ∧ zh_M s0 ≤ zh_M z) : ∀ (s0 : zh_S) (a0 : Nat) (j1 : Int64) (i3 : Int32) (i4 : Int32) (i5 : Int32) (i8 : Int32), zb_M_search_129 n r13 s0 a0 j1 i3 i4 i5 i8 = some (r, z) → zh_N s0 ≤ zh_N z ∧ zh_M s0 ≤ zh_M z := by
  intro s0 a0 j1 i3 i4 i5 i8 hf
  rw [zb_M_search_129] at hf
  by_cases hc : (24 : Int32) ≤ i8
  · rw [if_pos hc] at hf
    have n_z := zm_M_search_141 n _ hr13 s0 a0 j1 i3 i4 i5 i8 (0 : Int32) hf
    omega
  · rw [if_neg hc] at hf
    have n_z := zm_M_search_141 n _ hr13 s0 a0 j1 i3 i4 i5 i8 (1 : Int32) hf
    omega
set_option maxHeartbeats 4000000 in
theorem zm_M_search_105 {z : zh_S} {r : Int32} (n : Nat) (r13 : zh_S → Nat → Int64 → Int32 → Int32 → Int32 → Int32 → Option (Int32 × zh_S)) (hr13 : ∀ (s0 : zh_S) (a0 : Nat) (j1 : Int64) (i3 : Int32) (i4 : Int32) (i5 : Int32) (i6 : Int32), r13 s0 a0 j1 i3 i4 i5 i6 = some (r, z) → zh_N s0 ≤ zh_N z ∧ zh_M s0 ≤ zh_M z) (k : Nat) : ∀ (s0 : zh_S) (a0 : Nat) (j1 : Int64) (i3 : Int32) (i4 : Int32) (i5 : Int32) (i8 : Int32), zl_M_search_105 n r13 k s0 a0 j1 i3 i4 i5 i8 = some (r, z) → zh_N s0 ≤ zh_N z ∧ zh_M s0 ≤ zh_M z := by
  induction k with
  | zero => intro s0 a0 j1 i3 i4 i5 i8 hf; cases hf
  | succ k ih =>
    intro s0 a0 j1 i3 i4 i5 i8 hf
    rw [zl_M_search_105] at hf
    by_cases hc : (24 : Int32) ≤ i8
    · rw [if_pos hc] at hf
      have n_z := zm_M_search_129 n _ hr13 s0 a0 j1 i3 i4 i5 i8 hf
      omega
    · rw [if_neg hc] at hf
      obtain ⟨-, hf⟩ := zx_ck hf
      obtain ⟨i_2, hq, hf⟩ := zx_p hf
      by_cases hc : i_2 = 0
      · rw [if_pos hc] at hf
        obtain ⟨i_3, e_i_3, hf⟩ := zx_l hf
        have n_z := ih s0 a0 j1 i3 i4 i5 i_3 hf
        omega
      · rw [if_neg hc] at hf
        have n_z := zm_M_search_129 n _ hr13 s0 a0 j1 i3 i4 i5 i8 hf
        omega
set_option maxHeartbeats 4000000 in
theorem zm_M_search_103 {z : zh_S} {r : Int32} (n : Nat) (r13 : zh_S → Nat → Int64 → Int32 → Int32 → Int32 → Int32 → Option (Int32 × zh_S)) (hr13 : ∀ (s0 : zh_S) (a0 : Nat) (j1 : Int64) (i3 : Int32) (i4 : Int32) (i5 : Int32) (i6 : Int32), r13 s0 a0 j1 i3 i4 i5 i6 = some (r, z) → zh_N s0 ≤ zh_N z ∧ zh_M s0 ≤ zh_M z) : ∀ (s0 : zh_S) (a0 : Nat) (j1 : Int64) (i3 : Int32) (i4 : Int32) (i5 : Int32) (it0 : Int32), zb_M_search_103 n r13 s0 a0 j1 i3 i4 i5 it0 = some (r, z) → zh_N s0 ≤ zh_N z ∧ zh_M s0 ≤ zh_M z := by
  intro s0 a0 j1 i3 i4 i5 it0 hf
  rw [zb_M_search_103] at hf
  have n_z := zm_M_search_105 n _ hr13 n s0 a0 j1 i3 i4 i5 it0 hf
  omega
set_option maxHeartbeats 4000000 in
theorem zm_M_search_89 {z : zh_S} {r : Int32} (n : Nat) (r13 : zh_S → Nat → Int64 → Int32 → Int32 → Int32 → Int32 → Option (Int32 × zh_S)) (hr13 : ∀ (s0 : zh_S) (a0 : Nat) (j1 : Int64) (i3 : Int32) (i4 : Int32) (i5 : Int32) (i6 : Int32), r13 s0 a0 j1 i3 i4 i5 i6 = some (r, z) → zh_N s0 ≤ zh_N z ∧ zh_M s0 ≤ zh_M z) : ∀ (s0 : zh_S) (a0 : Nat) (j1 : Int64) (i3 : Int32) (i4 : Int32) (i5 : Int32), zb_M_search_89 n r13 s0 a0 j1 i3 i4 i5 = some (r, z) → zh_N s0 ≤ zh_N z ∧ zh_M s0 ≤ zh_M z := by
  intro s0 a0 j1 i3 i4 i5 hf
  rw [zb_M_search_89] at hf
  have n_z := zm_M_search_103 n _ hr13 s0 a0 j1 i3 i4 i5 (24 : Int32) hf
  omega
set_option maxHeartbeats 4000000 in
theorem zm_M_search_78 {z : zh_S} {r : Int32} (n : Nat) (r13 : zh_S → Nat → Int64 → Int32 → Int32 → Int32 → Int32 → Option (Int32 × zh_S)) (hr13 : ∀ (s0 : zh_S) (a0 : Nat) (j1 : Int64) (i3 : Int32) (i4 : Int32) (i5 : Int32) (i6 : Int32), r13 s0 a0 j1 i3 i4 i5 i6 = some (r, z) → zh_N s0 ≤ zh_N z ∧ zh_M s0 ≤ zh_M z) : ∀ (s0 : zh_S) (a0 : Nat) (j1 : Int64) (i3 : Int32) (i4 : Int32) (i5 : Int32) (i7 : Int32), zb_M_search_78 n r13 s0 a0 j1 i3 i4 i5 i7 = some (r, z) → zh_N s0 ≤ zh_N z ∧ zh_M s0 ≤ zh_M z := by
  intro s0 a0 j1 i3 i4 i5 i7 hf
  rw [zb_M_search_78] at hf
  by_cases hc : i7 = 0
  · rw [if_pos hc] at hf
    by_cases hc : i5 = i3
    · rw [if_pos hc] at hf
      have n_z := zm_M_search_89 n _ hr13 s0 a0 j1 i3 i4 i5 hf
      omega
    · rw [if_neg hc] at hf
      obtain ⟨-, hf⟩ := zx_ck hf
      obtain ⟨a_2, -, hf⟩ := zx_p hf
      obtain ⟨-, hf⟩ := zx_ck hf
      have n_z := zm_M_search_103 n _ hr13 s0 a0 j1 i3 i4 i5 (zh_I s0 a_2 ((i5 - (1 : Int32)).toNatClampNeg)) hf
      omega
  · rw [if_neg hc] at hf
    have n_z := zm_M_search_89 n _ hr13 s0 a0 j1 i3 i4 i5 hf
    omega
set_option maxHeartbeats 4000000 in
theorem zm_M_search_13 {z : zh_S} {r : Int32} (n : Nat) (k : Nat) : ∀ (s0 : zh_S) (a0 : Nat) (j1 : Int64) (i3 : Int32) (i4 : Int32) (i5 : Int32) (i6 : Int32), zl_M_search_13 n k s0 a0 j1 i3 i4 i5 i6 = some (r, z) → zh_N s0 ≤ zh_N z ∧ zh_M s0 ≤ zh_M z := by
  induction k with
  | zero => intro s0 a0 j1 i3 i4 i5 i6 hf; cases hf
  | succ k ih =>
    intro s0 a0 j1 i3 i4 i5 i6 hf
    rw [zl_M_search_13] at hf
    by_cases hc : i5 ≤ 0
    · rw [if_pos hc] at hf
      obtain ⟨-, rfl⟩ := zx_r2 hf
      omega
    · rw [if_neg hc] at hf
      obtain ⟨-, hf⟩ := zx_ck hf
      by_cases hc : (40 : Int32) ≤ (zh_I s0 a0 25)
      · rw [if_pos hc] at hf
        obtain ⟨-, rfl⟩ := zx_r2 hf
        omega
      · rw [if_neg hc] at hf
        obtain ⟨a_2, -, hf⟩ := zx_p hf
        obtain ⟨-, hf⟩ := zx_ck hf
        obtain ⟨i_5, hq, hf⟩ := zx_p hf
        by_cases hc : i6 = 0
        · rw [if_pos hc] at hf
          have n_z := zm_M_search_78 n _ ih s0 a0 j1 i3 i4 i5 i_5 hf
          omega
        · rw [if_neg hc] at hf
          by_cases hc : i_5 = 0
          · rw [if_pos hc] at hf
            have n_z := zm_M_search_78 n _ ih s0 a0 j1 i3 i4 i5 i_5 hf
            omega
          · rw [if_neg hc] at hf
            obtain ⟨s_6, e_s_6, hf⟩ := zx_l hf
            have n_s_6 := zx_muI e_s_6
            obtain ⟨i_8, s_7, hq, hf⟩ := zx_b hf
            have n_s_7 := zm_M_holds hq
            by_cases hc : i_8 = 0
            · rw [if_pos hc] at hf
              have n_z := zm_M_search_78 n _ ih s_7 a0 j1 i3 i4 i5 i_5 hf
              omega
            · rw [if_neg hc] at hf
              obtain ⟨-, rfl⟩ := zx_r2 hf
              omega
set_option maxHeartbeats 4000000 in
theorem zm_M_search {n : Nat} {s0 : zh_S} {a0 : Nat} {j1 : Int64} {i3 : Int32} {i4 : Int32} {r : Int32} {z : zh_S} (hf : zf_M_search n s0 a0 j1 i3 i4 = some (r, z)) : zh_N s0 ≤ zh_N z ∧ zh_M s0 ≤ zh_M z := by
  rw [zf_M_search] at hf
  obtain ⟨-, hf⟩ := zx_ck hf
  obtain ⟨a_2, -, hf⟩ := zx_p hf
  obtain ⟨-, hf⟩ := zx_ck hf
  obtain ⟨s_4, e_s_4, hf⟩ := zx_l hf
  have n_s_4 := zx_muI e_s_4
  have n_z := zm_M_search_13 n n s_4 a0 j1 i3 i4 (1 : Int32) (1 : Int32) hf
  omega
set_option maxHeartbeats 4000000 in
theorem zm_M_validate_65 {z : zh_S} {r : Int32} (n : Nat) (k : Nat) : ∀ (s0 : zh_S) (a0 : Nat) (i6 : Int32), zl_M_validate_65 n k s0 a0 i6 = some (r, z) → zh_N s0 ≤ zh_N z ∧ zh_M s0 ≤ zh_M z := by
  induction k with
  | zero => intro s0 a0 i6 hf; cases hf
  | succ k ih =>
    intro s0 a0 i6 hf
    rw [zl_M_validate_65] at hf
    obtain ⟨-, hf⟩ := zx_ck hf
    by_cases hc : (zh_I s0 a0 24) ≤ i6
    · rw [if_pos hc] at hf
      by_cases hc : (zh_I s0 a0 24) ≤ 0
      · rw [if_pos hc] at hf
        by_cases hc : (zh_I s0 a0 25) = 0
        · rw [if_pos hc] at hf
          obtain ⟨-, rfl⟩ := zx_r2 hf
          omega
        · rw [if_neg hc] at hf
          obtain ⟨-, rfl⟩ := zx_r2 hf
          omega
      · rw [if_neg hc] at hf
        obtain ⟨-, rfl⟩ := zx_r2 hf
        omega
    · rw [if_neg hc] at hf
      obtain ⟨a_2, -, hf⟩ := zx_p hf
      obtain ⟨a_4, -, hf⟩ := zx_p hf
      obtain ⟨-, hf⟩ := zx_ck hf
      obtain ⟨-, hf⟩ := zx_ck hf
      obtain ⟨s_7, e_s_7, hf⟩ := zx_l hf
      have n_s_7 := zx_muI e_s_7
      obtain ⟨i_9, e_i_9, hf⟩ := zx_l hf
      have n_z := ih s_7 a0 i_9 hf
      omega
set_option maxHeartbeats 4000000 in
theorem zm_M_validate {n : Nat} {s0 : zh_S} {a0 : Nat} {i1 : Int32} {j2 : Int64} {i4 : Int32} {i5 : Int32} {r : Int32} {z : zh_S} (hf : zf_M_validate n s0 a0 i1 j2 i4 i5 = some (r, z)) : zh_N s0 ≤ zh_N z ∧ zh_M s0 ≤ zh_M z := by
  rw [zf_M_validate] at hf
  by_cases hc : i1 < 0
  · rw [if_pos hc] at hf
    obtain ⟨-, rfl⟩ := zx_r2 hf
    omega
  · rw [if_neg hc] at hf
    obtain ⟨-, hf⟩ := zx_ck hf
    by_cases hc : (zh_I s0 a0 15) ≤ i1
    · rw [if_pos hc] at hf
      obtain ⟨-, rfl⟩ := zx_r2 hf
      omega
    · rw [if_neg hc] at hf
      by_cases hc : (lg_cmp j2 (0 : Int64)) < 0
      · rw [if_pos hc] at hf
        obtain ⟨-, rfl⟩ := zx_r2 hf
        omega
      · rw [if_neg hc] at hf
        by_cases hc : i4 < (1 : Int32)
        · rw [if_pos hc] at hf
          obtain ⟨-, rfl⟩ := zx_r2 hf
          omega
        · rw [if_neg hc] at hf
          by_cases hc : i4 ≤ (5 : Int32)
          · rw [if_pos hc] at hf
            obtain ⟨s_2, e_s_2, hf⟩ := zx_l hf
            have n_s_2 := zx_muI e_s_2
            obtain ⟨s_3, e_s_3, hf⟩ := zx_l hf
            have n_s_3 := zx_muI e_s_3
            obtain ⟨a_4, -, hf⟩ := zx_p hf
            obtain ⟨-, hf⟩ := zx_ck hf
            obtain ⟨s_6, e_s_6, hf⟩ := zx_l hf
            have n_s_6 := zx_muI e_s_6
            obtain ⟨-, hf⟩ := zx_ck hf
            obtain ⟨i_10, s_8, hq, hf⟩ := zx_b hf
            have n_s_8 := zm_M_search hq
            obtain ⟨-, hf⟩ := zx_ck hf
            obtain ⟨s_11, e_s_11, hf⟩ := zx_l hf
            have n_s_11 := zx_muI e_s_11
            have n_z := zm_M_validate_65 n n s_11 a0 (0 : Int32) hf
            omega
          · rw [if_neg hc] at hf
            obtain ⟨-, rfl⟩ := zx_r2 hf
            omega
set_option maxHeartbeats 4000000 in
theorem zm_Reader_init {n : Nat} {s0 : zh_S} {a0 : Nat} {a1 : Nat} {z : zh_S} (hf : zf_Reader_init n s0 a0 a1 = some z) : zh_N s0 ≤ zh_N z ∧ zh_M s0 ≤ zh_M z := by
  rw [zf_Reader_init] at hf
  obtain ⟨-, hf⟩ := zx_ck hf
  obtain ⟨s_1, e_s_1, hf⟩ := zx_l hf
  have n_s_1 := zx_muI e_s_1
  obtain ⟨s_3, e_s_3, hf⟩ := zx_l hf
  have n_s_3 := zx_muI e_s_3
  obtain ⟨s_4, e_s_4, hf⟩ := zx_l hf
  have n_s_4 := zx_muR e_s_4
  obtain rfl := zx_r1 hf
  omega
set_option maxHeartbeats 4000000 in
theorem zm_Certificate_forget {n : Nat} {s0 : zh_S} {a0 : Nat} {z : zh_S} (hf : zf_Certificate_forget n s0 a0 = some z) : zh_N s0 ≤ zh_N z ∧ zh_M s0 ≤ zh_M z := by
  rw [zf_Certificate_forget] at hf
  obtain ⟨-, hf⟩ := zx_ck hf
  obtain ⟨s_1, e_s_1, hf⟩ := zx_l hf
  have n_s_1 := zx_muJ e_s_1
  obtain ⟨s_3, e_s_3, hf⟩ := zx_l hf
  have n_s_3 := zx_muJ e_s_3
  obtain ⟨s_4, e_s_4, hf⟩ := zx_l hf
  have n_s_4 := zx_muJ e_s_4
  obtain ⟨s_5, e_s_5, hf⟩ := zx_l hf
  have n_s_5 := zx_muJ e_s_5
  obtain ⟨s_6, e_s_6, hf⟩ := zx_l hf
  have n_s_6 := zx_muI e_s_6
  obtain ⟨s_7, e_s_7, hf⟩ := zx_l hf
  have n_s_7 := zx_muI e_s_7
  obtain ⟨s_8, e_s_8, hf⟩ := zx_l hf
  have n_s_8 := zx_muI e_s_8
  obtain ⟨s_9, e_s_9, hf⟩ := zx_l hf
  have n_s_9 := zx_muI e_s_9
  obtain rfl := zx_r1 hf
  omega
set_option maxHeartbeats 4000000 in
theorem zm_Reader_fail {n : Nat} {s0 : zh_S} {a0 : Nat} {i1 : Int32} {i2 : Int32} {r : Int32} {z : zh_S} (hf : zf_Reader_fail n s0 a0 i1 i2 = some (r, z)) : zh_N s0 ≤ zh_N z ∧ zh_M s0 ≤ zh_M z := by
  rw [zf_Reader_fail] at hf
  obtain ⟨-, hf⟩ := zx_ck hf
  by_cases hc : (zh_I s0 a0 2) = 0
  · rw [if_pos hc] at hf
    obtain ⟨s_2, e_s_2, hf⟩ := zx_l hf
    have n_s_2 := zx_muI e_s_2
    obtain ⟨-, rfl⟩ := zx_r2 hf
    omega
  · rw [if_neg hc] at hf
    obtain ⟨-, rfl⟩ := zx_r2 hf
    omega
set_option maxHeartbeats 4000000 in
theorem zm_Reader_open_176 {z : zh_S} {r : Int32} (n : Nat) : ∀ (s0 : zh_S) (a0 : Nat) (i2 : Int32) (i3 : Int32) (i4 : Int32), zb_Reader_open_176 n s0 a0 i2 i3 i4 = some (r, z) → zh_N s0 ≤ zh_N z ∧ zh_M s0 ≤ zh_M z := by
  intro s0 a0 i2 i3 i4 hf
  rw [zb_Reader_open_176] at hf
  obtain ⟨-, hf⟩ := zx_ck hf
  by_cases hc : i4 ≤ (i2 - (zh_I s0 a0 1))
  · rw [if_pos hc] at hf
    obtain ⟨-, rfl⟩ := zx_r2 hf
    omega
  · rw [if_neg hc] at hf
    obtain ⟨i_3, s_2, hq, hf⟩ := zx_b hf
    have n_s_2 := zm_Reader_fail hq
    obtain ⟨-, rfl⟩ := zx_r2 hf
    omega
set_option maxHeartbeats 4000000 in
theorem zm_Reader_open {n : Nat} {s0 : zh_S} {a0 : Nat} {i1 : Int32} {i2 : Int32} {r : Int32} {z : zh_S} (hf : zf_Reader_open n s0 a0 i1 i2 = some (r, z)) : zh_N s0 ≤ zh_N z ∧ zh_M s0 ≤ zh_M z := by
  rw [zf_Reader_open] at hf
  obtain ⟨-, hf⟩ := zx_ck hf
  obtain ⟨i_2, e_i_2, hf⟩ := zx_l hf
  by_cases hc : (zh_I s0 a0 2) = 0
  · rw [if_pos hc] at hf
    by_cases hc : (zh_I s0 a0 1) < i2
    · rw [if_pos hc] at hf
      obtain ⟨a_3, -, hf⟩ := zx_p hf
      obtain ⟨-, hf⟩ := zx_ck hf
      obtain ⟨a_6, -, hf⟩ := zx_p hf
      obtain ⟨-, hf⟩ := zx_ck hf
      by_cases hc : (zh_I s0 a_6 ((zh_I s0 a0 1).toNatClampNeg)) = i1
      · rw [if_pos hc] at hf
        obtain ⟨s_9, e_s_9, hf⟩ := zx_l hf
        have n_s_9 := zx_muI e_s_9
        by_cases hc : (zh_I s_9 a0 1) < i2
        · rw [if_pos hc] at hf
          obtain ⟨a_10, -, hf⟩ := zx_p hf
          obtain ⟨-, hf⟩ := zx_ck hf
          obtain ⟨a_13, -, hf⟩ := zx_p hf
          obtain ⟨-, hf⟩ := zx_ck hf
          obtain ⟨i_16, e_i_16, hf⟩ := zx_l hf
          obtain ⟨s_17, e_s_17, hf⟩ := zx_l hf
          have n_s_17 := zx_muI e_s_17
          by_cases hc : i_16 ≤ (127 : Int32)
          · rw [if_pos hc] at hf
            have n_z := zm_Reader_open_176 n s_17 a0 i2 i_2 i_16 hf
            omega
          · rw [if_neg hc] at hf
            by_cases hc : i_16 = (129 : Int32)
            · rw [if_pos hc] at hf
              by_cases hc : (zh_I s_17 a0 1) < i2
              · rw [if_pos hc] at hf
                obtain ⟨a_18, -, hf⟩ := zx_p hf
                obtain ⟨-, hf⟩ := zx_ck hf
                obtain ⟨a_21, -, hf⟩ := zx_p hf
                obtain ⟨-, hf⟩ := zx_ck hf
                obtain ⟨i_24, e_i_24, hf⟩ := zx_l hf
                obtain ⟨s_25, e_s_25, hf⟩ := zx_l hf
                have n_s_25 := zx_muI e_s_25
                by_cases hc : (127 : Int32) < i_24
                · rw [if_pos hc] at hf
                  have n_z := zm_Reader_open_176 n s_25 a0 i2 i_2 i_24 hf
                  omega
                · rw [if_neg hc] at hf
                  obtain ⟨i_27, s_26, hq, hf⟩ := zx_b hf
                  have n_s_26 := zm_Reader_fail hq
                  obtain ⟨-, rfl⟩ := zx_r2 hf
                  omega
              · rw [if_neg hc] at hf
                obtain ⟨i_29, s_28, hq, hf⟩ := zx_b hf
                have n_s_28 := zm_Reader_fail hq
                obtain ⟨-, rfl⟩ := zx_r2 hf
                omega
            · rw [if_neg hc] at hf
              obtain ⟨i_31, s_30, hq, hf⟩ := zx_b hf
              have n_s_30 := zm_Reader_fail hq
              obtain ⟨-, rfl⟩ := zx_r2 hf
              omega
        · rw [if_neg hc] at hf
          obtain ⟨i_33, s_32, hq, hf⟩ := zx_b hf
          have n_s_32 := zm_Reader_fail hq
          obtain ⟨-, rfl⟩ := zx_r2 hf
          omega
      · rw [if_neg hc] at hf
        obtain ⟨i_35, s_34, hq, hf⟩ := zx_b hf
        have n_s_34 := zm_Reader_fail hq
        obtain ⟨-, rfl⟩ := zx_r2 hf
        omega
    · rw [if_neg hc] at hf
      obtain ⟨i_37, s_36, hq, hf⟩ := zx_b hf
      have n_s_36 := zm_Reader_fail hq
      obtain ⟨-, rfl⟩ := zx_r2 hf
      omega
  · rw [if_neg hc] at hf
    obtain ⟨-, rfl⟩ := zx_r2 hf
    omega
set_option maxHeartbeats 4000000 in
theorem zm_Reader_readInteger_41 {z : zh_S} {r : Int64} (n : Nat) (k : Nat) : ∀ (s0 : zh_S) (a0 : Nat) (i3 : Int32) (j4 : Int64), zl_Reader_readInteger_41 n k s0 a0 i3 j4 = some (r, z) → zh_N s0 ≤ zh_N z ∧ zh_M s0 ≤ zh_M z := by
  induction k with
  | zero => intro s0 a0 i3 j4 hf; cases hf
  | succ k ih =>
    intro s0 a0 i3 j4 hf
    rw [zl_Reader_readInteger_41] at hf
    obtain ⟨-, hf⟩ := zx_ck hf
    by_cases hc : i3 ≤ (zh_I s0 a0 1)
    · rw [if_pos hc] at hf
      obtain ⟨-, rfl⟩ := zx_r2 hf
      omega
    · rw [if_neg hc] at hf
      obtain ⟨a_2, -, hf⟩ := zx_p hf
      obtain ⟨-, hf⟩ := zx_ck hf
      obtain ⟨a_5, -, hf⟩ := zx_p hf
      obtain ⟨-, hf⟩ := zx_ck hf
      obtain ⟨j_8, e_j_8, hf⟩ := zx_l hf
      obtain ⟨s_9, e_s_9, hf⟩ := zx_l hf
      have n_s_9 := zx_muI e_s_9
      have n_z := ih s_9 a0 i3 j_8 hf
      omega
set_option maxHeartbeats 4000000 in
theorem zm_Reader_readInteger {n : Nat} {s0 : zh_S} {a0 : Nat} {i1 : Int32} {r : Int64} {z : zh_S} (hf : zf_Reader_readInteger n s0 a0 i1 = some (r, z)) : zh_N s0 ≤ zh_N z ∧ zh_M s0 ≤ zh_M z := by
  rw [zf_Reader_readInteger] at hf
  obtain ⟨-, hf⟩ := zx_ck hf
  obtain ⟨i_2, e_i_2, hf⟩ := zx_l hf
  obtain ⟨i_4, s_3, hq, hf⟩ := zx_b hf
  have n_s_3 := zm_Reader_open hq
  obtain ⟨-, hf⟩ := zx_ck hf
  by_cases hc : (zh_I s_3 a0 2) = 0
  · rw [if_pos hc] at hf
    obtain ⟨i_6, hq, hf⟩ := zx_p hf
    by_cases hc : i_6 = 0
    · rw [if_pos hc] at hf
      obtain ⟨i_8, s_7, hq, hf⟩ := zx_b hf
      have n_s_7 := zm_Reader_fail hq
      obtain ⟨-, rfl⟩ := zx_r2 hf
      omega
    · rw [if_neg hc] at hf
      have n_z := zm_Reader_readInteger_41 n n s_3 a0 i_4 (0 : Int64) hf
      omega
  · rw [if_neg hc] at hf
    obtain ⟨-, rfl⟩ := zx_r2 hf
    omega
set_option maxHeartbeats 4000000 in
theorem zm_Reader_readName_94 {z : zh_S} {r : Int64} (n : Nat) : ∀ (s0 : zh_S) (a0 : Nat) (i4 : Int32) (j5 : Int64), zb_Reader_readName_94 n s0 a0 i4 j5 = some (r, z) → zh_N s0 ≤ zh_N z ∧ zh_M s0 ≤ zh_M z := by
  intro s0 a0 i4 j5 hf
  rw [zb_Reader_readName_94] at hf
  obtain ⟨-, hf⟩ := zx_ck hf
  obtain ⟨s_1, e_s_1, hf⟩ := zx_l hf
  have n_s_1 := zx_muI e_s_1
  obtain ⟨-, rfl⟩ := zx_r2 hf
  omega
set_option maxHeartbeats 4000000 in
theorem zm_Reader_readName_79 {z : zh_S} {r : Int64} (n : Nat) : ∀ (s0 : zh_S) (a0 : Nat) (i3 : Int32) (i4 : Int32) (j5 : Int64), zb_Reader_readName_79 n s0 a0 i3 i4 j5 = some (r, z) → zh_N s0 ≤ zh_N z ∧ zh_M s0 ≤ zh_M z := by
  intro s0 a0 i3 i4 j5 hf
  rw [zb_Reader_readName_79] at hf
  obtain ⟨i_1, hq, hf⟩ := zx_p hf
  by_cases hc : i_1 = 0
  · rw [if_pos hc] at hf
    obtain ⟨-, hf⟩ := zx_ck hf
    obtain ⟨i_4, s_2, hq, hf⟩ := zx_b hf
    have n_s_2 := zm_Reader_fail hq
    have n_z := zm_Reader_readName_94 n s_2 a0 i4 j5 hf
    omega
  · rw [if_neg hc] at hf
    have n_z := zm_Reader_readName_94 n s0 a0 i4 j5 hf
    omega
set_option maxHeartbeats 4000000 in
theorem zm_Reader_readName_43 {z : zh_S} {r : Int64} (n : Nat) (k : Nat) : ∀ (s0 : zh_S) (a0 : Nat) (i3 : Int32) (i4 : Int32) (j5 : Int64) (i7 : Int32), zl_Reader_readName_43 n k s0 a0 i3 i4 j5 i7 = some (r, z) → zh_N s0 ≤ zh_N z ∧ zh_M s0 ≤ zh_M z := by
  induction k with
  | zero => intro s0 a0 i3 i4 j5 i7 hf; cases hf
  | succ k ih =>
    intro s0 a0 i3 i4 j5 i7 hf
    rw [zl_Reader_readName_43] at hf
    obtain ⟨-, hf⟩ := zx_ck hf
    by_cases hc : i7 < (zh_I s0 a0 1)
    · rw [if_pos hc] at hf
      have n_z := zm_Reader_readName_79 n s0 a0 i3 i4 j5 hf
      omega
    · rw [if_neg hc] at hf
      obtain ⟨a_2, -, hf⟩ := zx_p hf
      obtain ⟨-, hf⟩ := zx_ck hf
      obtain ⟨a_5, -, hf⟩ := zx_p hf
      obtain ⟨-, hf⟩ := zx_ck hf
      obtain ⟨i_8, hq, hf⟩ := zx_p hf
      obtain ⟨j_9, e_j_9, hf⟩ := zx_l hf
      obtain ⟨i_10, e_i_10, hf⟩ := zx_l hf
      have n_z := ih s0 a0 i3 i4 j_9 i_10 hf
      omega
set_option maxHeartbeats 4000000 in
theorem zm_Reader_readName {n : Nat} {s0 : zh_S} {a0 : Nat} {i1 : Int32} {i2 : Int32} {r : Int64} {z : zh_S} (hf : zf_Reader_readName n s0 a0 i1 i2 = some (r, z)) : zh_N s0 ≤ zh_N z ∧ zh_M s0 ≤ zh_M z := by
  rw [zf_Reader_readName] at hf
  obtain ⟨-, hf⟩ := zx_ck hf
  obtain ⟨i_2, e_i_2, hf⟩ := zx_l hf
  obtain ⟨i_4, s_3, hq, hf⟩ := zx_b hf
  have n_s_3 := zm_Reader_open hq
  obtain ⟨-, hf⟩ := zx_ck hf
  by_cases hc : (zh_I s_3 a0 2) = 0
  · rw [if_pos hc] at hf
    by_cases hc : (8 : Int32) < (i_4 - (zh_I s_3 a0 1))
    · rw [if_pos hc] at hf
      have n_z := zm_Reader_readName_79 n s_3 a0 i_2 i_4 (0 : Int64) hf
      omega
    · rw [if_neg hc] at hf
      obtain ⟨i_6, e_i_6, hf⟩ := zx_l hf
      have n_z := zm_Reader_readName_43 n n s_3 a0 i_2 i_4 (0 : Int64) i_6 hf
      omega
  · rw [if_neg hc] at hf
    obtain ⟨-, rfl⟩ := zx_r2 hf
    omega
set_option maxHeartbeats 4000000 in
theorem zm_Reader_close {n : Nat} {s0 : zh_S} {a0 : Nat} {i1 : Int32} {z : zh_S} (hf : zf_Reader_close n s0 a0 i1 = some z) : zh_N s0 ≤ zh_N z ∧ zh_M s0 ≤ zh_M z := by
  rw [zf_Reader_close] at hf
  obtain ⟨-, hf⟩ := zx_ck hf
  by_cases hc : i1 ≤ (zh_I s0 a0 1)
  · rw [if_pos hc] at hf
    obtain rfl := zx_r1 hf
    omega
  · rw [if_neg hc] at hf
    obtain ⟨i_3, s_2, hq, hf⟩ := zx_b hf
    have n_s_2 := zm_Reader_fail hq
    obtain rfl := zx_r1 hf
    omega
set_option maxHeartbeats 4000000 in
theorem zm_Reader_readSignature_C {n : Nat} {s0 : zh_S} {a0 : Nat} {a1 : Nat} {i2 : Int32} {i3 : Int32} {z : zh_S} (hf : zf_Reader_readSignature_C n s0 a0 a1 i2 i3 = some z) : zh_N s0 ≤ zh_N z ∧ zh_M s0 ≤ zh_M z := by
  rw [zf_Reader_readSignature_C] at hf
  obtain ⟨-, hf⟩ := zx_ck hf
  by_cases hc : (zh_I s0 a0 2) = 0
  · rw [if_pos hc] at hf
    obtain ⟨a_2, -, hf⟩ := zx_p hf
    obtain ⟨-, hf⟩ := zx_ck hf
    obtain ⟨i_5, hq, hf⟩ := zx_p hf
    obtain ⟨-, hf⟩ := zx_ck hf
    obtain ⟨s_6, e_s_6, hf⟩ := zx_l hf
    have n_s_6 := zx_muI e_s_6
    obtain ⟨j_9, s_8, hq, hf⟩ := zx_b hf
    have n_s_8 := zm_Reader_readInteger hq
    obtain ⟨-, hf⟩ := zx_ck hf
    obtain ⟨s_10, e_s_10, hf⟩ := zx_l hf
    have n_s_10 := zx_muJ e_s_10
    obtain ⟨-, hf⟩ := zx_ck hf
    obtain ⟨s_12, hq, hf⟩ := zx_p hf
    have n_s_12 := zm_Reader_close hq
    obtain ⟨-, hf⟩ := zx_ck hf
    obtain ⟨a_15, -, hf⟩ := zx_p hf
    obtain ⟨-, hf⟩ := zx_ck hf
    obtain ⟨s_18, hq, hf⟩ := zx_p hf
    have n_s_18 := zm_Reader_close hq
    obtain rfl := zx_r1 hf
    omega
  · rw [if_neg hc] at hf
    obtain rfl := zx_r1 hf
    omega
set_option maxHeartbeats 4000000 in
theorem zm_Reader_readFlag_67 {z : zh_S} {r : Int32} (n : Nat) : ∀ (s0 : zh_S) (a0 : Nat) (i3 : Int32), zb_Reader_readFlag_67 n s0 a0 i3 = some (r, z) → zh_N s0 ≤ zh_N z ∧ zh_M s0 ≤ zh_M z := by
  intro s0 a0 i3 hf
  rw [zb_Reader_readFlag_67] at hf
  obtain ⟨-, hf⟩ := zx_ck hf
  obtain ⟨s_1, e_s_1, hf⟩ := zx_l hf
  have n_s_1 := zx_muI e_s_1
  obtain ⟨-, rfl⟩ := zx_r2 hf
  omega
set_option maxHeartbeats 4000000 in
theorem zm_Reader_readFlag_60 {z : zh_S} {r : Int32} (n : Nat) : ∀ (s0 : zh_S) (a0 : Nat) (i2 : Int32) (i3 : Int32), zb_Reader_readFlag_60 n s0 a0 i2 i3 = some (r, z) → zh_N s0 ≤ zh_N z ∧ zh_M s0 ≤ zh_M z := by
  intro s0 a0 i2 i3 hf
  rw [zb_Reader_readFlag_60] at hf
  obtain ⟨-, hf⟩ := zx_ck hf
  obtain ⟨i_3, s_1, hq, hf⟩ := zx_b hf
  have n_s_1 := zm_Reader_fail hq
  have n_z := zm_Reader_readFlag_67 n s_1 a0 i3 hf
  omega
set_option maxHeartbeats 4000000 in
theorem zm_Reader_readFlag {n : Nat} {s0 : zh_S} {a0 : Nat} {i1 : Int32} {r : Int32} {z : zh_S} (hf : zf_Reader_readFlag n s0 a0 i1 = some (r, z)) : zh_N s0 ≤ zh_N z ∧ zh_M s0 ≤ zh_M z := by
  rw [zf_Reader_readFlag] at hf
  obtain ⟨-, hf⟩ := zx_ck hf
  obtain ⟨i_2, hq, hf⟩ := zx_p hf
  by_cases hc : i_2 = 0
  · rw [if_pos hc] at hf
    obtain ⟨-, rfl⟩ := zx_r2 hf
    omega
  · rw [if_neg hc] at hf
    obtain ⟨i_3, e_i_3, hf⟩ := zx_l hf
    obtain ⟨i_5, s_4, hq, hf⟩ := zx_b hf
    have n_s_4 := zm_Reader_open hq
    obtain ⟨-, hf⟩ := zx_ck hf
    by_cases hc : (zh_I s_4 a0 2) = 0
    · rw [if_pos hc] at hf
      by_cases hc : (i_5 - (zh_I s_4 a0 1)) = (1 : Int32)
      · rw [if_pos hc] at hf
        obtain ⟨a_7, -, hf⟩ := zx_p hf
        obtain ⟨-, hf⟩ := zx_ck hf
        obtain ⟨a_10, -, hf⟩ := zx_p hf
        obtain ⟨-, hf⟩ := zx_ck hf
        by_cases hc : (zh_I s_4 a_10 ((zh_I s_4 a0 1).toNatClampNeg)) = (255 : Int32)
        · rw [if_pos hc] at hf
          have n_z := zm_Reader_readFlag_67 n s_4 a0 i_5 hf
          omega
        · rw [if_neg hc] at hf
          have n_z := zm_Reader_readFlag_60 n s_4 a0 i_3 i_5 hf
          omega
      · rw [if_neg hc] at hf
        have n_z := zm_Reader_readFlag_60 n s_4 a0 i_3 i_5 hf
        omega
    · rw [if_neg hc] at hf
      obtain ⟨-, rfl⟩ := zx_r2 hf
      omega
set_option maxHeartbeats 4000000 in
theorem zm_Reader_skipOpaque {n : Nat} {s0 : zh_S} {a0 : Nat} {i1 : Int32} {z : zh_S} (hf : zf_Reader_skipOpaque n s0 a0 i1 = some z) : zh_N s0 ≤ zh_N z ∧ zh_M s0 ≤ zh_M z := by
  rw [zf_Reader_skipOpaque] at hf
  obtain ⟨-, hf⟩ := zx_ck hf
  obtain ⟨i_3, s_1, hq, hf⟩ := zx_b hf
  have n_s_1 := zm_Reader_open hq
  obtain ⟨-, hf⟩ := zx_ck hf
  by_cases hc : (zh_I s_1 a0 2) = 0
  · rw [if_pos hc] at hf
    obtain ⟨s_5, e_s_5, hf⟩ := zx_l hf
    have n_s_5 := zx_muI e_s_5
    obtain rfl := zx_r1 hf
    omega
  · rw [if_neg hc] at hf
    obtain rfl := zx_r1 hf
    omega
set_option maxHeartbeats 4000000 in
theorem zm_Reader_readRealm_80 {z : zh_S} (n : Nat) : ∀ (s0 : zh_S) (a0 : Nat) (i4 : Int32), zb_Reader_readRealm_80 n s0 a0 i4 = some z → zh_N s0 ≤ zh_N z ∧ zh_M s0 ≤ zh_M z := by
  intro s0 a0 i4 hf
  rw [zb_Reader_readRealm_80] at hf
  obtain ⟨-, hf⟩ := zx_ck hf
  obtain ⟨s_1, hq, hf⟩ := zx_p hf
  have n_s_1 := zm_Reader_close hq
  obtain rfl := zx_r1 hf
  omega
set_option maxHeartbeats 4000000 in
theorem zm_Reader_readRealm_55 {z : zh_S} (n : Nat) : ∀ (s0 : zh_S) (a0 : Nat) (a1 : Nat) (i4 : Int32), zb_Reader_readRealm_55 n s0 a0 a1 i4 = some z → zh_N s0 ≤ zh_N z ∧ zh_M s0 ≤ zh_M z := by
  intro s0 a0 a1 i4 hf
  rw [zb_Reader_readRealm_55] at hf
  obtain ⟨-, hf⟩ := zx_ck hf
  obtain ⟨i_2, hq, hf⟩ := zx_p hf
  by_cases hc : i_2 = 0
  · rw [if_pos hc] at hf
    have n_z := zm_Reader_readRealm_80 n s0 a0 i4 hf
    omega
  · rw [if_neg hc] at hf
    obtain ⟨j_4, s_3, hq, hf⟩ := zx_b hf
    have n_s_3 := zm_Reader_readName hq
    obtain ⟨-, hf⟩ := zx_ck hf
    obtain ⟨s_5, e_s_5, hf⟩ := zx_l hf
    have n_s_5 := zx_muJ e_s_5
    have n_z := zm_Reader_readRealm_80 n s_5 a0 i4 hf
    omega
set_option maxHeartbeats 4000000 in
theorem zm_Reader_readRealm_30 {z : zh_S} (n : Nat) : ∀ (s0 : zh_S) (a0 : Nat) (a1 : Nat) (i4 : Int32), zb_Reader_readRealm_30 n s0 a0 a1 i4 = some z → zh_N s0 ≤ zh_N z ∧ zh_M s0 ≤ zh_M z := by
  intro s0 a0 a1 i4 hf
  rw [zb_Reader_readRealm_30] at hf
  obtain ⟨-, hf⟩ := zx_ck hf
  obtain ⟨i_2, hq, hf⟩ := zx_p hf
  by_cases hc : i_2 = 0
  · rw [if_pos hc] at hf
    have n_z := zm_Reader_readRealm_55 n s0 a0 a1 i4 hf
    omega
  · rw [if_neg hc] at hf
    obtain ⟨j_4, s_3, hq, hf⟩ := zx_b hf
    have n_s_3 := zm_Reader_readName hq
    obtain ⟨-, hf⟩ := zx_ck hf
    obtain ⟨s_5, e_s_5, hf⟩ := zx_l hf
    have n_s_5 := zx_muJ e_s_5
    have n_z := zm_Reader_readRealm_55 n s_5 a0 a1 i4 hf
    omega
set_option maxHeartbeats 4000000 in
theorem zm_Reader_readRealm {n : Nat} {s0 : zh_S} {a0 : Nat} {a1 : Nat} {i2 : Int32} {z : zh_S} (hf : zf_Reader_readRealm n s0 a0 a1 i2 = some z) : zh_N s0 ≤ zh_N z ∧ zh_M s0 ≤ zh_M z := by
  rw [zf_Reader_readRealm] at hf
  obtain ⟨-, hf⟩ := zx_ck hf
  obtain ⟨i_2, e_i_2, hf⟩ := zx_l hf
  obtain ⟨i_4, s_3, hq, hf⟩ := zx_b hf
  have n_s_3 := zm_Reader_open hq
  obtain ⟨-, hf⟩ := zx_ck hf
  by_cases hc : (zh_I s_3 a0 1) = i_4
  · rw [if_pos hc] at hf
    obtain ⟨i_7, s_6, hq, hf⟩ := zx_b hf
    have n_s_6 := zm_Reader_fail hq
    have n_z := zm_Reader_readRealm_30 n s_6 a0 a1 i_4 hf
    omega
  · rw [if_neg hc] at hf
    have n_z := zm_Reader_readRealm_30 n s_3 a0 a1 i_4 hf
    omega
set_option maxHeartbeats 4000000 in
theorem zm_Reader_readUsage_35 {z : zh_S} (n : Nat) : ∀ (s0 : zh_S) (a1 : Nat) (j4 : Int64), zb_Reader_readUsage_35 n s0 a1 j4 = some z → zh_N s0 ≤ zh_N z ∧ zh_M s0 ≤ zh_M z := by
  intro s0 a1 j4 hf
  rw [zb_Reader_readUsage_35] at hf
  obtain ⟨-, hf⟩ := zx_ck hf
  obtain ⟨s_1, e_s_1, hf⟩ := zx_l hf
  have n_s_1 := zx_muJ e_s_1
  obtain rfl := zx_r1 hf
  omega
set_option maxHeartbeats 4000000 in
theorem zm_Reader_readUsage_28 {z : zh_S} (n : Nat) : ∀ (s0 : zh_S) (a0 : Nat) (a1 : Nat) (i3 : Int32) (j4 : Int64), zb_Reader_readUsage_28 n s0 a0 a1 i3 j4 = some z → zh_N s0 ≤ zh_N z ∧ zh_M s0 ≤ zh_M z := by
  intro s0 a0 a1 i3 j4 hf
  rw [zb_Reader_readUsage_28] at hf
  obtain ⟨-, hf⟩ := zx_ck hf
  obtain ⟨i_3, s_1, hq, hf⟩ := zx_b hf
  have n_s_1 := zm_Reader_fail hq
  have n_z := zm_Reader_readUsage_35 n s_1 a1 j4 hf
  omega
set_option maxHeartbeats 4000000 in
theorem zm_Reader_readUsage {n : Nat} {s0 : zh_S} {a0 : Nat} {a1 : Nat} {i2 : Int32} {z : zh_S} (hf : zf_Reader_readUsage n s0 a0 a1 i2 = some z) : zh_N s0 ≤ zh_N z ∧ zh_M s0 ≤ zh_M z := by
  rw [zf_Reader_readUsage] at hf
  obtain ⟨-, hf⟩ := zx_ck hf
  obtain ⟨i_2, e_i_2, hf⟩ := zx_l hf
  obtain ⟨j_4, s_3, hq, hf⟩ := zx_b hf
  have n_s_3 := zm_Reader_readInteger hq
  by_cases hc : (lg_cmp j_4 (1 : Int64)) < 0
  · rw [if_pos hc] at hf
    have n_z := zm_Reader_readUsage_28 n s_3 a0 a1 i_2 j_4 hf
    omega
  · rw [if_neg hc] at hf
    by_cases hc : (lg_cmp j_4 (7 : Int64)) ≤ 0
    · rw [if_pos hc] at hf
      have n_z := zm_Reader_readUsage_35 n s_3 a1 j_4 hf
      omega
    · rw [if_neg hc] at hf
      have n_z := zm_Reader_readUsage_28 n s_3 a0 a1 i_2 j_4 hf
      omega
set_option maxHeartbeats 4000000 in
theorem zm_Reader_readBasic_47 {z : zh_S} (n : Nat) : ∀ (s0 : zh_S) (a0 : Nat) (i3 : Int32), zb_Reader_readBasic_47 n s0 a0 i3 = some z → zh_N s0 ≤ zh_N z ∧ zh_M s0 ≤ zh_M z := by
  intro s0 a0 i3 hf
  rw [zb_Reader_readBasic_47] at hf
  obtain ⟨-, hf⟩ := zx_ck hf
  obtain ⟨s_1, hq, hf⟩ := zx_p hf
  have n_s_1 := zm_Reader_close hq
  obtain rfl := zx_r1 hf
  omega
set_option maxHeartbeats 4000000 in
theorem zm_Reader_readBasic {n : Nat} {s0 : zh_S} {a0 : Nat} {a1 : Nat} {i2 : Int32} {z : zh_S} (hf : zf_Reader_readBasic n s0 a0 a1 i2 = some z) : zh_N s0 ≤ zh_N z ∧ zh_M s0 ≤ zh_M z := by
  rw [zf_Reader_readBasic] at hf
  obtain ⟨-, hf⟩ := zx_ck hf
  obtain ⟨i_3, s_1, hq, hf⟩ := zx_b hf
  have n_s_1 := zm_Reader_open hq
  obtain ⟨-, hf⟩ := zx_ck hf
  obtain ⟨s_4, e_s_4, hf⟩ := zx_l hf
  have n_s_4 := zx_muI e_s_4
  obtain ⟨-, hf⟩ := zx_ck hf
  obtain ⟨i_8, s_6, hq, hf⟩ := zx_b hf
  have n_s_6 := zm_Reader_readFlag hq
  obtain ⟨-, hf⟩ := zx_ck hf
  obtain ⟨-, hf⟩ := zx_ck hf
  obtain ⟨s_9, e_s_9, hf⟩ := zx_l hf
  have n_s_9 := zx_muI e_s_9
  by_cases hc : (zh_I s_9 a1 16) = 0
  · rw [if_pos hc] at hf
    have n_z := zm_Reader_readBasic_47 n s_9 a0 i_3 hf
    omega
  · rw [if_neg hc] at hf
    obtain ⟨-, hf⟩ := zx_ck hf
    obtain ⟨i_12, hq, hf⟩ := zx_p hf
    by_cases hc : i_12 = 0
    · rw [if_pos hc] at hf
      have n_z := zm_Reader_readBasic_47 n s_9 a0 i_3 hf
      omega
    · rw [if_neg hc] at hf
      obtain ⟨j_14, s_13, hq, hf⟩ := zx_b hf
      have n_s_13 := zm_Reader_readInteger hq
      obtain ⟨-, hf⟩ := zx_ck hf
      obtain ⟨s_15, e_s_15, hf⟩ := zx_l hf
      have n_s_15 := zx_muJ e_s_15
      have n_z := zm_Reader_readBasic_47 n s_15 a0 i_3 hf
      omega
set_option maxHeartbeats 4000000 in
theorem zm_Reader_readExtension_129 {z : zh_S} {r : Int64} (n : Nat) : ∀ (s0 : zh_S) (a0 : Nat) (a1 : Nat) (i5 : Int32) (j7 : Int64), zb_Reader_readExtension_129 n s0 a0 a1 i5 j7 = some (r, z) → zh_N s0 ≤ zh_N z ∧ zh_M s0 ≤ zh_M z := by
  intro s0 a0 a1 i5 j7 hf
  rw [zb_Reader_readExtension_129] at hf
  obtain ⟨-, hf⟩ := zx_ck hf
  obtain ⟨s_2, e_s_2, hf⟩ := zx_l hf
  have n_s_2 := zx_muI e_s_2
  obtain ⟨-, hf⟩ := zx_ck hf
  obtain ⟨s_3, hq, hf⟩ := zx_p hf
  have n_s_3 := zm_Reader_close hq
  obtain ⟨-, rfl⟩ := zx_r2 hf
  omega
set_option maxHeartbeats 4000000 in
theorem zm_Reader_readExtension_126 {z : zh_S} {r : Int64} (n : Nat) : ∀ (s0 : zh_S) (a0 : Nat) (a1 : Nat) (i5 : Int32) (j7 : Int64) (at0 : Nat) (it1 : Int32), zb_Reader_readExtension_126 n s0 a0 a1 i5 j7 at0 it1 = some (r, z) → zh_N s0 ≤ zh_N z ∧ zh_M s0 ≤ zh_M z := by
  intro s0 a0 a1 i5 j7 at0 it1 hf
  rw [zb_Reader_readExtension_126] at hf
  obtain ⟨-, hf⟩ := zx_ck hf
  obtain ⟨-, hf⟩ := zx_ck hf
  obtain ⟨s_1, e_s_1, hf⟩ := zx_l hf
  have n_s_1 := zx_muI e_s_1
  have n_z := zm_Reader_readExtension_129 n s_1 a0 a1 i5 j7 hf
  omega
set_option maxHeartbeats 4000000 in
theorem zm_Reader_readExtension_121 {z : zh_S} {r : Int64} (n : Nat) : ∀ (s0 : zh_S) (a0 : Nat) (a1 : Nat) (i5 : Int32) (j7 : Int64) (at0 : Nat), zb_Reader_readExtension_121 n s0 a0 a1 i5 j7 at0 = some (r, z) → zh_N s0 ≤ zh_N z ∧ zh_M s0 ≤ zh_M z := by
  intro s0 a0 a1 i5 j7 at0 hf
  rw [zb_Reader_readExtension_121] at hf
  have n_z := zm_Reader_readExtension_126 n s0 a0 a1 i5 j7 at0 (1 : Int32) hf
  omega
set_option maxHeartbeats 4000000 in
theorem zm_Reader_readExtension_39 {z : zh_S} {r : Int64} (n : Nat) : ∀ (s0 : zh_S) (a0 : Nat) (a1 : Nat) (i5 : Int32) (j7 : Int64), zb_Reader_readExtension_39 n s0 a0 a1 i5 j7 = some (r, z) → zh_N s0 ≤ zh_N z ∧ zh_M s0 ≤ zh_M z := by
  intro s0 a0 a1 i5 j7 hf
  rw [zb_Reader_readExtension_39] at hf
  obtain ⟨-, hf⟩ := zx_ck hf
  obtain ⟨i_3, s_1, hq, hf⟩ := zx_b hf
  have n_s_1 := zm_Reader_readFlag hq
  by_cases hc : (lg_cmp j7 (1 : Int64)) = 0
  · rw [if_pos hc] at hf
    obtain ⟨-, hf⟩ := zx_ck hf
    obtain ⟨s_11, hq, hf⟩ := zx_p hf
    have n_s_11 := zm_Reader_readBasic hq
    have n_z := zm_Reader_readExtension_129 n s_11 a0 a1 i5 j7 hf
    omega
  · rw [if_neg hc] at hf
    by_cases hc : (lg_cmp j7 (2 : Int64)) = 0
    · rw [if_pos hc] at hf
      obtain ⟨-, hf⟩ := zx_ck hf
      obtain ⟨s_9, hq, hf⟩ := zx_p hf
      have n_s_9 := zm_Reader_readUsage hq
      have n_z := zm_Reader_readExtension_129 n s_9 a0 a1 i5 j7 hf
      omega
    · rw [if_neg hc] at hf
      by_cases hc : (lg_cmp j7 (3 : Int64)) = 0
      · rw [if_pos hc] at hf
        obtain ⟨-, hf⟩ := zx_ck hf
        obtain ⟨s_7, hq, hf⟩ := zx_p hf
        have n_s_7 := zm_Reader_readRealm hq
        have n_z := zm_Reader_readExtension_129 n s_7 a0 a1 i5 j7 hf
        omega
      · rw [if_neg hc] at hf
        obtain ⟨-, hf⟩ := zx_ck hf
        obtain ⟨s_4, hq, hf⟩ := zx_p hf
        have n_s_4 := zm_Reader_skipOpaque hq
        obtain ⟨-, hf⟩ := zx_ck hf
        by_cases hc : (zh_I s_4 a1 17) = 0
        · rw [if_pos hc] at hf
          by_cases hc : i_3 = 0
          · rw [if_pos hc] at hf
            have n_z := zm_Reader_readExtension_126 n s_4 a0 a1 i5 j7 a1 (0 : Int32) hf
            omega
          · rw [if_neg hc] at hf
            have n_z := zm_Reader_readExtension_121 n s_4 a0 a1 i5 j7 a1 hf
            omega
        · rw [if_neg hc] at hf
          have n_z := zm_Reader_readExtension_121 n s_4 a0 a1 i5 j7 a1 hf
          omega
set_option maxHeartbeats 4000000 in
theorem zm_Reader_readExtension {n : Nat} {s0 : zh_S} {a0 : Nat} {a1 : Nat} {j2 : Int64} {i4 : Int32} {r : Int64} {z : zh_S} (hf : zf_Reader_readExtension n s0 a0 a1 j2 i4 = some (r, z)) : zh_N s0 ≤ zh_N z ∧ zh_M s0 ≤ zh_M z := by
  rw [zf_Reader_readExtension] at hf
  obtain ⟨-, hf⟩ := zx_ck hf
  obtain ⟨i_3, s_1, hq, hf⟩ := zx_b hf
  have n_s_1 := zm_Reader_open hq
  obtain ⟨-, hf⟩ := zx_ck hf
  obtain ⟨i_5, e_i_5, hf⟩ := zx_l hf
  obtain ⟨j_7, s_6, hq, hf⟩ := zx_b hf
  have n_s_6 := zm_Reader_readInteger hq
  by_cases hc : 0 < (lg_cmp j_7 j2)
  · rw [if_pos hc] at hf
    have n_z := zm_Reader_readExtension_39 n s_6 a0 a1 i_3 j_7 hf
    omega
  · rw [if_neg hc] at hf
    obtain ⟨-, hf⟩ := zx_ck hf
    obtain ⟨i_10, s_8, hq, hf⟩ := zx_b hf
    have n_s_8 := zm_Reader_fail hq
    have n_z := zm_Reader_readExtension_39 n s_8 a0 a1 i_3 j_7 hf
    omega
set_option maxHeartbeats 4000000 in
theorem zm_Reader_readExtensions_55 {z : zh_S} (n : Nat) : ∀ (s0 : zh_S) (a0 : Nat) (i3 : Int32), zb_Reader_readExtensions_55 n s0 a0 i3 = some z → zh_N s0 ≤ zh_N z ∧ zh_M s0 ≤ zh_M z := by
  intro s0 a0 i3 hf
  rw [zb_Reader_readExtensions_55] at hf
  obtain ⟨-, hf⟩ := zx_ck hf
  obtain ⟨s_1, hq, hf⟩ := zx_p hf
  have n_s_1 := zm_Reader_close hq
  obtain rfl := zx_r1 hf
  omega
set_option maxHeartbeats 4000000 in
theorem zm_Reader_readExtensions_39 {z : zh_S} (n : Nat) (r16 : zh_S → Nat → Nat → Int32 → Int64 → Int32 → Option zh_S) (hr16 : ∀ (s0 : zh_S) (a0 : Nat) (a1 : Nat) (i3 : Int32) (j4 : Int64) (i6 : Int32), r16 s0 a0 a1 i3 j4 i6 = some z → zh_N s0 ≤ zh_N z ∧ zh_M s0 ≤ zh_M z) : ∀ (s0 : zh_S) (a0 : Nat) (a1 : Nat) (i3 : Int32) (j4 : Int64) (i6 : Int32), zb_Reader_readExtensions_39 n r16 s0 a0 a1 i3 j4 i6 = some z → zh_N s0 ≤ zh_N z ∧ zh_M s0 ≤ zh_M z := by
  intro s0 a0 a1 i3 j4 i6 hf
  rw [zb_Reader_readExtensions_39] at hf
  obtain ⟨-, hf⟩ := zx_ck hf
  obtain ⟨j_3, s_1, hq, hf⟩ := zx_b hf
  have n_s_1 := zm_Reader_readExtension hq
  obtain ⟨i_4, e_i_4, hf⟩ := zx_l hf
  have n_z := hr16 s_1 a0 a1 i3 j_3 i_4 hf
  omega
set_option maxHeartbeats 4000000 in
theorem zm_Reader_readExtensions_16 {z : zh_S} (n : Nat) (k : Nat) : ∀ (s0 : zh_S) (a0 : Nat) (a1 : Nat) (i3 : Int32) (j4 : Int64) (i6 : Int32), zl_Reader_readExtensions_16 n k s0 a0 a1 i3 j4 i6 = some z → zh_N s0 ≤ zh_N z ∧ zh_M s0 ≤ zh_M z := by
  induction k with
  | zero => intro s0 a0 a1 i3 j4 i6 hf; cases hf
  | succ k ih =>
    intro s0 a0 a1 i3 j4 i6 hf
    rw [zl_Reader_readExtensions_16] at hf
    by_cases hc : (200 : Int32) ≤ i6
    · rw [if_pos hc] at hf
      have n_z := zm_Reader_readExtensions_55 n s0 a0 i3 hf
      omega
    · rw [if_neg hc] at hf
      by_cases hc : i6 = 0
      · rw [if_pos hc] at hf
        have n_z := zm_Reader_readExtensions_39 n _ ih s0 a0 a1 i3 j4 i6 hf
        omega
      · rw [if_neg hc] at hf
        obtain ⟨-, hf⟩ := zx_ck hf
        obtain ⟨i_2, hq, hf⟩ := zx_p hf
        by_cases hc : i_2 = 0
        · rw [if_pos hc] at hf
          have n_z := zm_Reader_readExtensions_55 n s0 a0 i3 hf
          omega
        · rw [if_neg hc] at hf
          have n_z := zm_Reader_readExtensions_39 n _ ih s0 a0 a1 i3 j4 i6 hf
          omega
set_option maxHeartbeats 4000000 in
theorem zm_Reader_readExtensions {n : Nat} {s0 : zh_S} {a0 : Nat} {a1 : Nat} {i2 : Int32} {z : zh_S} (hf : zf_Reader_readExtensions n s0 a0 a1 i2 = some z) : zh_N s0 ≤ zh_N z ∧ zh_M s0 ≤ zh_M z := by
  rw [zf_Reader_readExtensions] at hf
  obtain ⟨-, hf⟩ := zx_ck hf
  obtain ⟨i_3, s_1, hq, hf⟩ := zx_b hf
  have n_s_1 := zm_Reader_open hq
  have n_z := zm_Reader_readExtensions_16 n n s_1 a0 a1 i_3 (-1 : Int64) (0 : Int32) hf
  omega
set_option maxHeartbeats 4000000 in
theorem zm_Reader_readCertificate_124 {z : zh_S} {r : Int32} (n : Nat) : ∀ (s0 : zh_S) (a0 : Nat) (a1 : Nat) (i2 : Int32) (i3 : Int32) (i4 : Int32), zb_Reader_readCertificate_124 n s0 a0 a1 i2 i3 i4 = some (r, z) → zh_N s0 ≤ zh_N z ∧ zh_M s0 ≤ zh_M z := by
  intro s0 a0 a1 i2 i3 i4 hf
  rw [zb_Reader_readCertificate_124] at hf
  obtain ⟨-, hf⟩ := zx_ck hf
  obtain ⟨s_1, hq, hf⟩ := zx_p hf
  have n_s_1 := zm_Reader_close hq
  obtain ⟨-, hf⟩ := zx_ck hf
  obtain ⟨s_3, hq, hf⟩ := zx_p hf
  have n_s_3 := zm_Reader_readSignature_C hq
  obtain ⟨-, hf⟩ := zx_ck hf
  obtain ⟨-, rfl⟩ := zx_r2 hf
  omega
set_option maxHeartbeats 4000000 in
theorem zm_Reader_readCertificate {n : Nat} {s0 : zh_S} {a0 : Nat} {a1 : Nat} {r : Int32} {z : zh_S} (hf : zf_Reader_readCertificate n s0 a0 a1 = some (r, z)) : zh_N s0 ≤ zh_N z ∧ zh_M s0 ≤ zh_M z := by
  rw [zf_Reader_readCertificate] at hf
  obtain ⟨-, hf⟩ := zx_ck hf
  obtain ⟨s_1, hq, hf⟩ := zx_p hf
  have n_s_1 := zm_Certificate_forget hq
  obtain ⟨-, hf⟩ := zx_ck hf
  obtain ⟨a_4, -, hf⟩ := zx_p hf
  obtain ⟨-, hf⟩ := zx_ck hf
  obtain ⟨i_8, s_7, hq, hf⟩ := zx_b hf
  have n_s_7 := zm_Reader_open hq
  obtain ⟨-, hf⟩ := zx_ck hf
  obtain ⟨i_10, e_i_10, hf⟩ := zx_l hf
  obtain ⟨i_12, s_11, hq, hf⟩ := zx_b hf
  have n_s_11 := zm_Reader_open hq
  obtain ⟨-, hf⟩ := zx_ck hf
  obtain ⟨j_15, s_13, hq, hf⟩ := zx_b hf
  have n_s_13 := zm_Reader_readInteger hq
  obtain ⟨-, hf⟩ := zx_ck hf
  obtain ⟨s_16, e_s_16, hf⟩ := zx_l hf
  have n_s_16 := zx_muJ e_s_16
  obtain ⟨-, hf⟩ := zx_ck hf
  obtain ⟨j_20, s_18, hq, hf⟩ := zx_b hf
  have n_s_18 := zm_Reader_readName hq
  obtain ⟨-, hf⟩ := zx_ck hf
  obtain ⟨s_21, e_s_21, hf⟩ := zx_l hf
  have n_s_21 := zx_muJ e_s_21
  obtain ⟨-, hf⟩ := zx_ck hf
  obtain ⟨j_25, s_23, hq, hf⟩ := zx_b hf
  have n_s_23 := zm_Reader_readInteger hq
  obtain ⟨-, hf⟩ := zx_ck hf
  obtain ⟨s_26, e_s_26, hf⟩ := zx_l hf
  have n_s_26 := zx_muJ e_s_26
  obtain ⟨-, hf⟩ := zx_ck hf
  obtain ⟨j_30, s_28, hq, hf⟩ := zx_b hf
  have n_s_28 := zm_Reader_readInteger hq
  obtain ⟨-, hf⟩ := zx_ck hf
  obtain ⟨s_31, e_s_31, hf⟩ := zx_l hf
  have n_s_31 := zx_muJ e_s_31
  obtain ⟨-, hf⟩ := zx_ck hf
  obtain ⟨j_35, s_33, hq, hf⟩ := zx_b hf
  have n_s_33 := zm_Reader_readName hq
  obtain ⟨-, hf⟩ := zx_ck hf
  obtain ⟨s_36, e_s_36, hf⟩ := zx_l hf
  have n_s_36 := zx_muJ e_s_36
  obtain ⟨-, hf⟩ := zx_ck hf
  obtain ⟨j_40, s_38, hq, hf⟩ := zx_b hf
  have n_s_38 := zm_Reader_readInteger hq
  obtain ⟨-, hf⟩ := zx_ck hf
  obtain ⟨s_41, e_s_41, hf⟩ := zx_l hf
  have n_s_41 := zx_muJ e_s_41
  obtain ⟨-, hf⟩ := zx_ck hf
  obtain ⟨j_45, s_43, hq, hf⟩ := zx_b hf
  have n_s_43 := zm_Reader_readInteger hq
  obtain ⟨-, hf⟩ := zx_ck hf
  obtain ⟨s_46, e_s_46, hf⟩ := zx_l hf
  have n_s_46 := zx_muJ e_s_46
  obtain ⟨-, hf⟩ := zx_ck hf
  obtain ⟨i_49, hq, hf⟩ := zx_p hf
  by_cases hc : i_49 = 0
  · rw [if_pos hc] at hf
    have n_z := zm_Reader_readCertificate_124 n s_46 a0 a1 i_8 i_10 i_12 hf
    omega
  · rw [if_neg hc] at hf
    obtain ⟨s_50, hq, hf⟩ := zx_p hf
    have n_s_50 := zm_Reader_readExtensions hq
    have n_z := zm_Reader_readCertificate_124 n s_50 a0 a1 i_8 i_10 i_12 hf
    omega
set_option maxHeartbeats 4000000 in
theorem zm_Signed_noteSigner_R {n : Nat} {s0 : zh_S} {a0 : Nat} {i1 : Int32} {a2 : Nat} {z : zh_S} (hf : zf_Signed_noteSigner_R n s0 a0 i1 a2 = some z) : zh_N s0 ≤ zh_N z ∧ zh_M s0 ≤ zh_M z := by
  rw [zf_Signed_noteSigner_R] at hf
  obtain ⟨-, hf⟩ := zx_ck hf
  obtain ⟨-, hf⟩ := zx_ck hf
  by_cases hc : (lg_cmp (zh_J s0 a0 0) (zh_J s0 a2 7)) = 0
  · rw [if_pos hc] at hf
    obtain ⟨i_3, hq, hf⟩ := zx_p hf
    by_cases hc : i_3 = 0
    · rw [if_pos hc] at hf
      obtain rfl := zx_r1 hf
      omega
    · rw [if_neg hc] at hf
      obtain ⟨s_4, e_s_4, hf⟩ := zx_l hf
      have n_s_4 := zx_muI e_s_4
      obtain rfl := zx_r1 hf
      omega
  · rw [if_neg hc] at hf
    obtain rfl := zx_r1 hf
    omega
set_option maxHeartbeats 4000000 in
theorem zm_Signed_noteSigner_C {n : Nat} {s0 : zh_S} {a0 : Nat} {i1 : Int32} {a2 : Nat} {z : zh_S} (hf : zf_Signed_noteSigner_C n s0 a0 i1 a2 = some z) : zh_N s0 ≤ zh_N z ∧ zh_M s0 ≤ zh_M z := by
  rw [zf_Signed_noteSigner_C] at hf
  obtain ⟨-, hf⟩ := zx_ck hf
  obtain ⟨-, hf⟩ := zx_ck hf
  by_cases hc : (lg_cmp (zh_J s0 a0 0) (zh_J s0 a2 7)) = 0
  · rw [if_pos hc] at hf
    obtain ⟨i_3, hq, hf⟩ := zx_p hf
    by_cases hc : i_3 = 0
    · rw [if_pos hc] at hf
      obtain rfl := zx_r1 hf
      omega
    · rw [if_neg hc] at hf
      obtain ⟨s_4, e_s_4, hf⟩ := zx_l hf
      have n_s_4 := zx_muI e_s_4
      obtain rfl := zx_r1 hf
      omega
  · rw [if_neg hc] at hf
    obtain rfl := zx_r1 hf
    omega
set_option maxHeartbeats 4000000 in
theorem zm_Shelf_keepCertificate_60 {z : zh_S} {r : Int32} (n : Nat) (k : Nat) : ∀ (s0 : zh_S) (a0 : Nat) (i2 : Int32) (a3 : Nat) (i4 : Int32), zl_Shelf_keepCertificate_60 n k s0 a0 i2 a3 i4 = some (r, z) → zh_N s0 ≤ zh_N z ∧ zh_M s0 ≤ zh_M z := by
  induction k with
  | zero => intro s0 a0 i2 a3 i4 hf; cases hf
  | succ k ih =>
    intro s0 a0 i2 a3 i4 hf
    rw [zl_Shelf_keepCertificate_60] at hf
    obtain ⟨-, hf⟩ := zx_ck hf
    by_cases hc : (zh_I s0 a0 3) ≤ i4
    · rw [if_pos hc] at hf
      obtain ⟨s_2, e_s_2, hf⟩ := zx_l hf
      have n_s_2 := zx_muI e_s_2
      obtain ⟨-, rfl⟩ := zx_r2 hf
      omega
    · rw [if_neg hc] at hf
      obtain ⟨a_3, -, hf⟩ := zx_p hf
      obtain ⟨-, hf⟩ := zx_ck hf
      obtain ⟨a_6, -, hf⟩ := zx_p hf
      obtain ⟨-, hf⟩ := zx_ck hf
      obtain ⟨s_8, hq, hf⟩ := zx_p hf
      have n_s_8 := zm_Signed_noteSigner_R hq
      obtain ⟨i_10, e_i_10, hf⟩ := zx_l hf
      have n_z := ih s_8 a0 i2 a3 i_10 hf
      omega
set_option maxHeartbeats 4000000 in
theorem zm_Shelf_keepCertificate_20 {z : zh_S} {r : Int32} (n : Nat) (k : Nat) : ∀ (s0 : zh_S) (a0 : Nat) (i2 : Int32) (a3 : Nat) (i4 : Int32), zl_Shelf_keepCertificate_20 n k s0 a0 i2 a3 i4 = some (r, z) → zh_N s0 ≤ zh_N z ∧ zh_M s0 ≤ zh_M z := by
  induction k with
  | zero => intro s0 a0 i2 a3 i4 hf; cases hf
  | succ k ih =>
    intro s0 a0 i2 a3 i4 hf
    rw [zl_Shelf_keepCertificate_20] at hf
    by_cases hc : i2 ≤ i4
    · rw [if_pos hc] at hf
      have n_z := zm_Shelf_keepCertificate_60 n n s0 a0 i2 a3 (0 : Int32) hf
      omega
    · rw [if_neg hc] at hf
      obtain ⟨-, hf⟩ := zx_ck hf
      obtain ⟨a_2, -, hf⟩ := zx_p hf
      obtain ⟨-, hf⟩ := zx_ck hf
      obtain ⟨a_5, -, hf⟩ := zx_p hf
      obtain ⟨-, hf⟩ := zx_ck hf
      obtain ⟨s_7, hq, hf⟩ := zx_p hf
      have n_s_7 := zm_Signed_noteSigner_C hq
      obtain ⟨-, hf⟩ := zx_ck hf
      obtain ⟨a_10, -, hf⟩ := zx_p hf
      obtain ⟨-, hf⟩ := zx_ck hf
      obtain ⟨a_13, -, hf⟩ := zx_p hf
      obtain ⟨-, hf⟩ := zx_ck hf
      obtain ⟨s_15, hq, hf⟩ := zx_p hf
      have n_s_15 := zm_Signed_noteSigner_C hq
      obtain ⟨i_17, e_i_17, hf⟩ := zx_l hf
      have n_z := ih s_15 a0 i2 a3 i_17 hf
      omega
set_option maxHeartbeats 4000000 in
theorem zm_Shelf_keepCertificate {n : Nat} {s0 : zh_S} {a0 : Nat} {i1 : Int32} {r : Int32} {z : zh_S} (hf : zf_Shelf_keepCertificate n s0 a0 i1 = some (r, z)) : zh_N s0 ≤ zh_N z ∧ zh_M s0 ≤ zh_M z := by
  rw [zf_Shelf_keepCertificate] at hf
  obtain ⟨-, hf⟩ := zx_ck hf
  obtain ⟨i_2, e_i_2, hf⟩ := zx_l hf
  obtain ⟨a_3, -, hf⟩ := zx_p hf
  obtain ⟨-, hf⟩ := zx_ck hf
  obtain ⟨a_6, -, hf⟩ := zx_p hf
  obtain ⟨-, hf⟩ := zx_ck hf
  obtain ⟨-, hf⟩ := zx_ck hf
  obtain ⟨s_8, e_s_8, hf⟩ := zx_l hf
  have n_s_8 := zx_muI e_s_8
  have n_z := zm_Shelf_keepCertificate_20 n n s_8 a0 i_2 a_6 (0 : Int32) hf
  omega
set_option maxHeartbeats 4000000 in
theorem zm_Reader_readSignature_R {n : Nat} {s0 : zh_S} {a0 : Nat} {a1 : Nat} {i2 : Int32} {i3 : Int32} {z : zh_S} (hf : zf_Reader_readSignature_R n s0 a0 a1 i2 i3 = some z) : zh_N s0 ≤ zh_N z ∧ zh_M s0 ≤ zh_M z := by
  rw [zf_Reader_readSignature_R] at hf
  obtain ⟨-, hf⟩ := zx_ck hf
  by_cases hc : (zh_I s0 a0 2) = 0
  · rw [if_pos hc] at hf
    obtain ⟨a_2, -, hf⟩ := zx_p hf
    obtain ⟨-, hf⟩ := zx_ck hf
    obtain ⟨i_5, hq, hf⟩ := zx_p hf
    obtain ⟨-, hf⟩ := zx_ck hf
    obtain ⟨s_6, e_s_6, hf⟩ := zx_l hf
    have n_s_6 := zx_muI e_s_6
    obtain ⟨j_9, s_8, hq, hf⟩ := zx_b hf
    have n_s_8 := zm_Reader_readInteger hq
    obtain ⟨-, hf⟩ := zx_ck hf
    obtain ⟨s_10, e_s_10, hf⟩ := zx_l hf
    have n_s_10 := zx_muJ e_s_10
    obtain ⟨-, hf⟩ := zx_ck hf
    obtain ⟨s_12, hq, hf⟩ := zx_p hf
    have n_s_12 := zm_Reader_close hq
    obtain ⟨-, hf⟩ := zx_ck hf
    obtain ⟨a_15, -, hf⟩ := zx_p hf
    obtain ⟨-, hf⟩ := zx_ck hf
    obtain ⟨s_18, hq, hf⟩ := zx_p hf
    have n_s_18 := zm_Reader_close hq
    obtain rfl := zx_r1 hf
    omega
  · rw [if_neg hc] at hf
    obtain rfl := zx_r1 hf
    omega
set_option maxHeartbeats 4000000 in
theorem zm_Reader_readList_153 {z : zh_S} {r : Int32} (n : Nat) : ∀ (s0 : zh_S) (a0 : Nat) (a1 : Nat) (i2 : Int32) (i3 : Int32) (i4 : Int32) (i5 : Int32), zb_Reader_readList_153 n s0 a0 a1 i2 i3 i4 i5 = some (r, z) → zh_N s0 ≤ zh_N z ∧ zh_M s0 ≤ zh_M z := by
  intro s0 a0 a1 i2 i3 i4 i5 hf
  rw [zb_Reader_readList_153] at hf
  obtain ⟨-, hf⟩ := zx_ck hf
  obtain ⟨s_1, hq, hf⟩ := zx_p hf
  have n_s_1 := zm_Reader_close hq
  obtain ⟨-, hf⟩ := zx_ck hf
  obtain ⟨s_3, hq, hf⟩ := zx_p hf
  have n_s_3 := zm_Reader_close hq
  obtain ⟨-, hf⟩ := zx_ck hf
  obtain ⟨s_5, hq, hf⟩ := zx_p hf
  have n_s_5 := zm_Reader_readSignature_R hq
  obtain ⟨-, hf⟩ := zx_ck hf
  obtain ⟨-, rfl⟩ := zx_r2 hf
  omega
set_option maxHeartbeats 4000000 in
theorem zm_Reader_readList_78 {z : zh_S} {r : Int32} (n : Nat) (k : Nat) : ∀ (s0 : zh_S) (a0 : Nat) (a1 : Nat) (i2 : Int32) (i3 : Int32) (i4 : Int32) (i5 : Int32) (i6 : Int32), zl_Reader_readList_78 n k s0 a0 a1 i2 i3 i4 i5 i6 = some (r, z) → zh_N s0 ≤ zh_N z ∧ zh_M s0 ≤ zh_M z := by
  induction k with
  | zero => intro s0 a0 a1 i2 i3 i4 i5 i6 hf; cases hf
  | succ k ih =>
    intro s0 a0 a1 i2 i3 i4 i5 i6 hf
    rw [zl_Reader_readList_78] at hf
    by_cases hc : (4 : Int32) ≤ i6
    · rw [if_pos hc] at hf
      have n_z := zm_Reader_readList_153 n s0 a0 a1 i2 i3 i4 i5 hf
      omega
    · rw [if_neg hc] at hf
      obtain ⟨-, hf⟩ := zx_ck hf
      obtain ⟨i_2, hq, hf⟩ := zx_p hf
      by_cases hc : i_2 = 0
      · rw [if_pos hc] at hf
        have n_z := zm_Reader_readList_153 n s0 a0 a1 i2 i3 i4 i5 hf
        omega
      · rw [if_neg hc] at hf
        obtain ⟨i_4, s_3, hq, hf⟩ := zx_b hf
        have n_s_3 := zm_Reader_open hq
        obtain ⟨-, hf⟩ := zx_ck hf
        obtain ⟨a_6, -, hf⟩ := zx_p hf
        obtain ⟨-, hf⟩ := zx_ck hf
        obtain ⟨j_10, s_8, hq, hf⟩ := zx_b hf
        have n_s_8 := zm_Reader_readInteger hq
        obtain ⟨-, hf⟩ := zx_ck hf
        obtain ⟨s_11, e_s_11, hf⟩ := zx_l hf
        have n_s_11 := zx_muJ e_s_11
        obtain ⟨-, hf⟩ := zx_ck hf
        obtain ⟨a_14, -, hf⟩ := zx_p hf
        obtain ⟨-, hf⟩ := zx_ck hf
        obtain ⟨j_18, s_16, hq, hf⟩ := zx_b hf
        have n_s_16 := zm_Reader_readInteger hq
        obtain ⟨-, hf⟩ := zx_ck hf
        obtain ⟨s_19, e_s_19, hf⟩ := zx_l hf
        have n_s_19 := zx_muJ e_s_19
        obtain ⟨-, hf⟩ := zx_ck hf
        obtain ⟨s_22, e_s_22, hf⟩ := zx_l hf
        have n_s_22 := zx_muI e_s_22
        obtain ⟨-, hf⟩ := zx_ck hf
        obtain ⟨s_23, hq, hf⟩ := zx_p hf
        have n_s_23 := zm_Reader_close hq
        obtain ⟨i_25, e_i_25, hf⟩ := zx_l hf
        have n_z := ih s_23 a0 a1 i2 i3 i4 i5 i_25 hf
        omega
set_option maxHeartbeats 4000000 in
theorem zm_Reader_readList {n : Nat} {s0 : zh_S} {a0 : Nat} {a1 : Nat} {r : Int32} {z : zh_S} (hf : zf_Reader_readList n s0 a0 a1 = some (r, z)) : zh_N s0 ≤ zh_N z ∧ zh_M s0 ≤ zh_M z := by
  rw [zf_Reader_readList] at hf
  obtain ⟨-, hf⟩ := zx_ck hf
  obtain ⟨s_1, e_s_1, hf⟩ := zx_l hf
  have n_s_1 := zx_muI e_s_1
  obtain ⟨-, hf⟩ := zx_ck hf
  obtain ⟨a_4, -, hf⟩ := zx_p hf
  obtain ⟨-, hf⟩ := zx_ck hf
  obtain ⟨i_8, s_7, hq, hf⟩ := zx_b hf
  have n_s_7 := zm_Reader_open hq
  obtain ⟨-, hf⟩ := zx_ck hf
  obtain ⟨i_10, e_i_10, hf⟩ := zx_l hf
  obtain ⟨i_12, s_11, hq, hf⟩ := zx_b hf
  have n_s_11 := zm_Reader_open hq
  obtain ⟨-, hf⟩ := zx_ck hf
  obtain ⟨j_15, s_13, hq, hf⟩ := zx_b hf
  have n_s_13 := zm_Reader_readName hq
  obtain ⟨-, hf⟩ := zx_ck hf
  obtain ⟨s_16, e_s_16, hf⟩ := zx_l hf
  have n_s_16 := zx_muJ e_s_16
  obtain ⟨-, hf⟩ := zx_ck hf
  obtain ⟨j_20, s_18, hq, hf⟩ := zx_b hf
  have n_s_18 := zm_Reader_readInteger hq
  obtain ⟨-, hf⟩ := zx_ck hf
  obtain ⟨s_21, e_s_21, hf⟩ := zx_l hf
  have n_s_21 := zx_muJ e_s_21
  obtain ⟨-, hf⟩ := zx_ck hf
  obtain ⟨j_25, s_23, hq, hf⟩ := zx_b hf
  have n_s_23 := zm_Reader_readInteger hq
  obtain ⟨-, hf⟩ := zx_ck hf
  obtain ⟨s_26, e_s_26, hf⟩ := zx_l hf
  have n_s_26 := zx_muJ e_s_26
  obtain ⟨-, hf⟩ := zx_ck hf
  obtain ⟨i_30, s_28, hq, hf⟩ := zx_b hf
  have n_s_28 := zm_Reader_open hq
  have n_z := zm_Reader_readList_78 n n s_28 a0 a1 i_8 i_10 i_12 i_30 (0 : Int32) hf
  omega
set_option maxHeartbeats 4000000 in
theorem zm_Shelf_keepList_7 {z : zh_S} {r : Int32} (n : Nat) (k : Nat) : ∀ (s0 : zh_S) (a0 : Nat) (i1 : Int32) (i2 : Int32), zl_Shelf_keepList_7 n k s0 a0 i1 i2 = some (r, z) → zh_N s0 ≤ zh_N z ∧ zh_M s0 ≤ zh_M z := by
  induction k with
  | zero => intro s0 a0 i1 i2 hf; cases hf
  | succ k ih =>
    intro s0 a0 i1 i2 hf
    rw [zl_Shelf_keepList_7] at hf
    obtain ⟨-, hf⟩ := zx_ck hf
    by_cases hc : (zh_I s0 a0 2) ≤ i2
    · rw [if_pos hc] at hf
      obtain ⟨s_2, e_s_2, hf⟩ := zx_l hf
      have n_s_2 := zx_muI e_s_2
      obtain ⟨-, rfl⟩ := zx_r2 hf
      omega
    · rw [if_neg hc] at hf
      obtain ⟨a_3, -, hf⟩ := zx_p hf
      obtain ⟨-, hf⟩ := zx_ck hf
      obtain ⟨a_6, -, hf⟩ := zx_p hf
      obtain ⟨a_8, -, hf⟩ := zx_p hf
      obtain ⟨-, hf⟩ := zx_ck hf
      obtain ⟨a_11, -, hf⟩ := zx_p hf
      obtain ⟨-, hf⟩ := zx_ck hf
      obtain ⟨s_13, hq, hf⟩ := zx_p hf
      have n_s_13 := zm_Signed_noteSigner_R hq
      obtain ⟨i_15, e_i_15, hf⟩ := zx_l hf
      have n_z := ih s_13 a0 i1 i_15 hf
      omega
set_option maxHeartbeats 4000000 in
theorem zm_Shelf_keepList {n : Nat} {s0 : zh_S} {a0 : Nat} {r : Int32} {z : zh_S} (hf : zf_Shelf_keepList n s0 a0 = some (r, z)) : zh_N s0 ≤ zh_N z ∧ zh_M s0 ≤ zh_M z := by
  rw [zf_Shelf_keepList] at hf
  obtain ⟨-, hf⟩ := zx_ck hf
  obtain ⟨i_2, e_i_2, hf⟩ := zx_l hf
  have n_z := zm_Shelf_keepList_7 n n s0 a0 i_2 (0 : Int32) hf
  omega
set_option maxHeartbeats 4000000 in
theorem zm_V_store_126 {z : zh_S} {r : Int32} (n : Nat) : ∀ (s0 : zh_S) (at0 : Nat) (it1 : Int32), zb_V_store_126 n s0 at0 it1 = some (r, z) → zh_N s0 ≤ zh_N z ∧ zh_M s0 ≤ zh_M z := by
  intro s0 at0 it1 hf
  rw [zb_V_store_126] at hf
  obtain ⟨-, hf⟩ := zx_ck hf
  obtain ⟨i_3, s_1, hq, hf⟩ := zx_b hf
  have n_s_1 := zm_Shelf_keepCertificate hq
  obtain ⟨-, rfl⟩ := zx_r2 hf
  omega
set_option maxHeartbeats 4000000 in
theorem zm_V_store_70 {z : zh_S} {r : Int32} (n : Nat) : ∀ (s0 : zh_S) (a0 : Nat) (i1 : Int32) (it0 : Int32), zb_V_store_70 n s0 a0 i1 it0 = some (r, z) → zh_N s0 ≤ zh_N z ∧ zh_M s0 ≤ zh_M z := by
  intro s0 a0 i1 it0 hf
  rw [zb_V_store_70] at hf
  by_cases hc : it0 = 0
  · rw [if_pos hc] at hf
    obtain ⟨-, rfl⟩ := zx_r2 hf
    omega
  · rw [if_neg hc] at hf
    obtain ⟨-, hf⟩ := zx_ck hf
    obtain ⟨a_2, -, hf⟩ := zx_p hf
    obtain ⟨-, hf⟩ := zx_ck hf
    by_cases hc : (12 : Int32) ≤ (zh_I s0 a_2 2)
    · rw [if_pos hc] at hf
      obtain ⟨-, rfl⟩ := zx_r2 hf
      omega
    · rw [if_neg hc] at hf
      obtain ⟨a_6, e_a_6, hf⟩ := zx_l hf
      obtain ⟨s_5, e_s_5, hf⟩ := zx_l hf
      have n_s_5 := zx_mnew e_s_5
      obtain ⟨-, hf⟩ := zx_ck hf
      obtain ⟨a_8, -, hf⟩ := zx_p hf
      obtain ⟨s_10, hq, hf⟩ := zx_p hf
      have n_s_10 := zm_Reader_init hq
      obtain ⟨-, hf⟩ := zx_ck hf
      obtain ⟨a_12, -, hf⟩ := zx_p hf
      obtain ⟨-, hf⟩ := zx_ck hf
      obtain ⟨a_15, hq, hf⟩ := zx_p hf
      obtain ⟨-, hf⟩ := zx_ck hf
      obtain ⟨i_18, s_16, hq, hf⟩ := zx_b hf
      have n_s_16 := zm_Reader_readCertificate hq
      by_cases hc : i_18 = 0
      · rw [if_pos hc] at hf
        obtain ⟨-, hf⟩ := zx_ck hf
        obtain ⟨a_20, -, hf⟩ := zx_p hf
        by_cases hc : i1 = 0
        · rw [if_pos hc] at hf
          have n_z := zm_V_store_126 n s_16 a_20 (1 : Int32) hf
          omega
        · rw [if_neg hc] at hf
          have n_z := zm_V_store_126 n s_16 a_20 (0 : Int32) hf
          omega
      · rw [if_neg hc] at hf
        obtain ⟨-, rfl⟩ := zx_r2 hf
        omega
set_option maxHeartbeats 4000000 in
theorem zm_V_store_65 {z : zh_S} {r : Int32} (n : Nat) : ∀ (s0 : zh_S) (a0 : Nat) (i1 : Int32), zb_V_store_65 n s0 a0 i1 = some (r, z) → zh_N s0 ≤ zh_N z ∧ zh_M s0 ≤ zh_M z := by
  intro s0 a0 i1 hf
  rw [zb_V_store_65] at hf
  have n_z := zm_V_store_70 n s0 a0 i1 (1 : Int32) hf
  omega
set_option maxHeartbeats 4000000 in
theorem zm_V_store_56 {z : zh_S} {r : Int32} (n : Nat) : ∀ (s0 : zh_S) (a0 : Nat) (i1 : Int32), zb_V_store_56 n s0 a0 i1 = some (r, z) → zh_N s0 ≤ zh_N z ∧ zh_M s0 ≤ zh_M z := by
  intro s0 a0 i1 hf
  rw [zb_V_store_56] at hf
  by_cases hc : i1 = 0
  · rw [if_pos hc] at hf
    have n_z := zm_V_store_65 n s0 a0 i1 hf
    omega
  · rw [if_neg hc] at hf
    by_cases hc : i1 = (1 : Int32)
    · rw [if_pos hc] at hf
      have n_z := zm_V_store_65 n s0 a0 i1 hf
      omega
    · rw [if_neg hc] at hf
      have n_z := zm_V_store_70 n s0 a0 i1 (0 : Int32) hf
      omega
set_option maxHeartbeats 4000000 in
theorem zm_V_store {n : Nat} {s0 : zh_S} {a0 : Nat} {i1 : Int32} {r : Int32} {z : zh_S} (hf : zf_V_store n s0 a0 i1 = some (r, z)) : zh_N s0 ≤ zh_N z ∧ zh_M s0 ≤ zh_M z := by
  rw [zf_V_store] at hf
  by_cases hc : i1 = (2 : Int32)
  · rw [if_pos hc] at hf
    obtain ⟨-, hf⟩ := zx_ck hf
    obtain ⟨a_2, -, hf⟩ := zx_p hf
    obtain ⟨-, hf⟩ := zx_ck hf
    by_cases hc : (6 : Int32) ≤ (zh_I s0 a_2 3)
    · rw [if_pos hc] at hf
      have n_z := zm_V_store_56 n s0 a0 i1 hf
      omega
    · rw [if_neg hc] at hf
      obtain ⟨a_6, e_a_6, hf⟩ := zx_l hf
      obtain ⟨s_5, e_s_5, hf⟩ := zx_l hf
      have n_s_5 := zx_mnew e_s_5
      obtain ⟨-, hf⟩ := zx_ck hf
      obtain ⟨a_8, -, hf⟩ := zx_p hf
      obtain ⟨s_10, hq, hf⟩ := zx_p hf
      have n_s_10 := zm_Reader_init hq
      obtain ⟨-, hf⟩ := zx_ck hf
      obtain ⟨a_12, -, hf⟩ := zx_p hf
      obtain ⟨-, hf⟩ := zx_ck hf
      obtain ⟨a_15, hq, hf⟩ := zx_p hf
      obtain ⟨-, hf⟩ := zx_ck hf
      obtain ⟨i_18, s_16, hq, hf⟩ := zx_b hf
      have n_s_16 := zm_Reader_readList hq
      by_cases hc : i_18 = 0
      · rw [if_pos hc] at hf
        obtain ⟨-, hf⟩ := zx_ck hf
        obtain ⟨a_20, -, hf⟩ := zx_p hf
        obtain ⟨-, hf⟩ := zx_ck hf
        obtain ⟨i_24, s_22, hq, hf⟩ := zx_b hf
        have n_s_22 := zm_Shelf_keepList hq
        obtain ⟨-, rfl⟩ := zx_r2 hf
        omega
      · rw [if_neg hc] at hf
        obtain ⟨-, rfl⟩ := zx_r2 hf
        omega
  · rw [if_neg hc] at hf
    have n_z := zm_V_store_56 n s0 a0 i1 hf
    omega
set_option maxHeartbeats 4000000 in
theorem zm_M_fails_21 {z : zh_S} (n : Nat) : ∀ (s0 : zh_S) (at0 : Nat) (it1 : Int32), zb_M_fails_21 n s0 at0 it1 = some z → zh_N s0 ≤ zh_N z ∧ zh_M s0 ≤ zh_M z := by
  intro s0 at0 it1 hf
  rw [zb_M_fails_21] at hf
  obtain ⟨-, hf⟩ := zx_ck hf
  obtain ⟨s_1, e_s_1, hf⟩ := zx_l hf
  have n_s_1 := zx_muI e_s_1
  obtain rfl := zx_r1 hf
  omega
set_option maxHeartbeats 4000000 in
theorem zm_M_fails {n : Nat} {s0 : zh_S} {a0 : Nat} {i1 : Int32} {i2 : Int32} {z : zh_S} (hf : zf_M_fails n s0 a0 i1 i2 = some z) : zh_N s0 ≤ zh_N z ∧ zh_M s0 ≤ zh_M z := by
  rw [zf_M_fails] at hf
  obtain ⟨-, hf⟩ := zx_ck hf
  by_cases hc : (zh_I s0 a0 10) = 0
  · rw [if_pos hc] at hf
    have n_z := zm_M_fails_21 n s0 a0 (i1 + ((16 : Int32) * i2)) hf
    omega
  · rw [if_neg hc] at hf
    have n_z := zm_M_fails_21 n s0 a0 (zh_I s0 a0 10) hf
    omega
set_option maxHeartbeats 4000000 in
theorem zm_M_head_272 {z : zh_S} {r : Int32} (n : Nat) : ∀ (s0 : zh_S) (a0 : Nat) (i2 : Int32) (i3 : Int32) (i4 : Int32) (it0 : Int32) (it1 : Int32), zb_M_head_272 n s0 a0 i2 i3 i4 it0 it1 = some (r, z) → zh_N s0 ≤ zh_N z ∧ zh_M s0 ≤ zh_M z := by
  intro s0 a0 i2 i3 i4 it0 it1 hf
  rw [zb_M_head_272] at hf
  obtain ⟨i_1, e_i_1, hf⟩ := zx_l hf
  by_cases hc : (i_1 + i4) ≤ i2
  · rw [if_pos hc] at hf
    obtain ⟨-, hf⟩ := zx_ck hf
    obtain ⟨s_2, e_s_2, hf⟩ := zx_l hf
    have n_s_2 := zx_muI e_s_2
    obtain ⟨-, rfl⟩ := zx_r2 hf
    omega
  · rw [if_neg hc] at hf
    obtain ⟨-, hf⟩ := zx_ck hf
    obtain ⟨s_4, hq, hf⟩ := zx_p hf
    have n_s_4 := zm_M_fails hq
    obtain ⟨-, rfl⟩ := zx_r2 hf
    omega
set_option maxHeartbeats 4000000 in
theorem zm_M_head_244 {z : zh_S} {r : Int32} (n : Nat) : ∀ (s0 : zh_S) (a0 : Nat) (i2 : Int32) (i3 : Int32) (it0 : Int32), zb_M_head_244 n s0 a0 i2 i3 it0 = some (r, z) → zh_N s0 ≤ zh_N z ∧ zh_M s0 ≤ zh_M z := by
  intro s0 a0 i2 i3 it0 hf
  rw [zb_M_head_244] at hf
  obtain ⟨-, hf⟩ := zx_ck hf
  obtain ⟨a_2, -, hf⟩ := zx_p hf
  obtain ⟨-, hf⟩ := zx_ck hf
  by_cases hc : (zh_I s0 a_2 (((zh_I s0 a0 9) + (1 : Int32)).toNatClampNeg)) = (129 : Int32)
  · rw [if_pos hc] at hf
    have n_z := zm_M_head_272 n s0 a0 i2 i3 it0 (zh_I s0 a0 9) (3 : Int32) hf
    omega
  · rw [if_neg hc] at hf
    have n_z := zm_M_head_272 n s0 a0 i2 i3 it0 (zh_I s0 a0 9) (2 : Int32) hf
    omega
set_option maxHeartbeats 4000000 in
theorem zm_M_head_193 {z : zh_S} {r : Int32} (n : Nat) : ∀ (s0 : zh_S) (a0 : Nat) (i2 : Int32) (i3 : Int32), zb_M_head_193 n s0 a0 i2 i3 = some (r, z) → zh_N s0 ≤ zh_N z ∧ zh_M s0 ≤ zh_M z := by
  intro s0 a0 i2 i3 hf
  rw [zb_M_head_193] at hf
  obtain ⟨-, hf⟩ := zx_ck hf
  by_cases hc : (zh_I s0 a0 10) = 0
  · rw [if_pos hc] at hf
    obtain ⟨a_2, -, hf⟩ := zx_p hf
    obtain ⟨-, hf⟩ := zx_ck hf
    by_cases hc : (zh_I s0 a_2 (((zh_I s0 a0 9) + (1 : Int32)).toNatClampNeg)) = (129 : Int32)
    · rw [if_pos hc] at hf
      obtain ⟨a_8, -, hf⟩ := zx_p hf
      obtain ⟨-, hf⟩ := zx_ck hf
      have n_z := zm_M_head_244 n s0 a0 i2 i3 (zh_I s0 a_8 (((zh_I s0 a0 9) + (2 : Int32)).toNatClampNeg)) hf
      omega
    · rw [if_neg hc] at hf
      obtain ⟨a_5, -, hf⟩ := zx_p hf
      obtain ⟨-, hf⟩ := zx_ck hf
      have n_z := zm_M_head_244 n s0 a0 i2 i3 (zh_I s0 a_5 (((zh_I s0 a0 9) + (1 : Int32)).toNatClampNeg)) hf
      omega
  · rw [if_neg hc] at hf
    obtain ⟨-, rfl⟩ := zx_r2 hf
    omega
set_option maxHeartbeats 4000000 in
theorem zm_M_head_153 {z : zh_S} {r : Int32} (n : Nat) : ∀ (s0 : zh_S) (a0 : Nat) (i2 : Int32) (i3 : Int32), zb_M_head_153 n s0 a0 i2 i3 = some (r, z) → zh_N s0 ≤ zh_N z ∧ zh_M s0 ≤ zh_M z := by
  intro s0 a0 i2 i3 hf
  rw [zb_M_head_153] at hf
  obtain ⟨-, hf⟩ := zx_ck hf
  obtain ⟨a_2, -, hf⟩ := zx_p hf
  obtain ⟨-, hf⟩ := zx_ck hf
  by_cases hc : (zh_I s0 a_2 (((zh_I s0 a0 9) + (1 : Int32)).toNatClampNeg)) = (129 : Int32)
  · rw [if_pos hc] at hf
    obtain ⟨a_5, -, hf⟩ := zx_p hf
    obtain ⟨-, hf⟩ := zx_ck hf
    by_cases hc : (128 : Int32) ≤ (zh_I s0 a_5 (((zh_I s0 a0 9) + (2 : Int32)).toNatClampNeg))
    · rw [if_pos hc] at hf
      have n_z := zm_M_head_193 n s0 a0 i2 i3 hf
      omega
    · rw [if_neg hc] at hf
      obtain ⟨s_8, hq, hf⟩ := zx_p hf
      have n_s_8 := zm_M_fails hq
      have n_z := zm_M_head_193 n s_8 a0 i2 i3 hf
      omega
  · rw [if_neg hc] at hf
    have n_z := zm_M_head_193 n s0 a0 i2 i3 hf
    omega
set_option maxHeartbeats 4000000 in
theorem zm_M_head_108 {z : zh_S} {r : Int32} (n : Nat) : ∀ (s0 : zh_S) (a0 : Nat) (i2 : Int32) (i3 : Int32), zb_M_head_108 n s0 a0 i2 i3 = some (r, z) → zh_N s0 ≤ zh_N z ∧ zh_M s0 ≤ zh_M z := by
  intro s0 a0 i2 i3 hf
  rw [zb_M_head_108] at hf
  obtain ⟨-, hf⟩ := zx_ck hf
  obtain ⟨s_1, hq, hf⟩ := zx_p hf
  have n_s_1 := zm_M_fails hq
  have n_z := zm_M_head_193 n s_1 a0 i2 i3 hf
  omega
set_option maxHeartbeats 4000000 in
theorem zm_M_head {n : Nat} {s0 : zh_S} {a0 : Nat} {i1 : Int32} {i2 : Int32} {r : Int32} {z : zh_S} (hf : zf_M_head n s0 a0 i1 i2 = some (r, z)) : zh_N s0 ≤ zh_N z ∧ zh_M s0 ≤ zh_M z := by
  rw [zf_M_head] at hf
  obtain ⟨-, hf⟩ := zx_ck hf
  by_cases hc : (zh_I s0 a0 10) = 0
  · rw [if_pos hc] at hf
    obtain ⟨i_2, e_i_2, hf⟩ := zx_l hf
    by_cases hc : (zh_I s0 a0 9) < i2
    · rw [if_pos hc] at hf
      obtain ⟨a_3, -, hf⟩ := zx_p hf
      obtain ⟨-, hf⟩ := zx_ck hf
      by_cases hc : (zh_I s0 a_3 ((zh_I s0 a0 9).toNatClampNeg)) = i1
      · rw [if_pos hc] at hf
        by_cases hc : ((zh_I s0 a0 9) + (1 : Int32)) < i2
        · rw [if_pos hc] at hf
          obtain ⟨a_6, -, hf⟩ := zx_p hf
          obtain ⟨-, hf⟩ := zx_ck hf
          by_cases hc : (zh_I s0 a_6 (((zh_I s0 a0 9) + (1 : Int32)).toNatClampNeg)) = (128 : Int32)
          · rw [if_pos hc] at hf
            have n_z := zm_M_head_108 n s0 a0 i2 i_2 hf
            omega
          · rw [if_neg hc] at hf
            obtain ⟨a_9, -, hf⟩ := zx_p hf
            obtain ⟨-, hf⟩ := zx_ck hf
            by_cases hc : (zh_I s0 a_9 (((zh_I s0 a0 9) + (1 : Int32)).toNatClampNeg)) ≤ (129 : Int32)
            · rw [if_pos hc] at hf
              obtain ⟨a_12, -, hf⟩ := zx_p hf
              obtain ⟨-, hf⟩ := zx_ck hf
              by_cases hc : (zh_I s0 a_12 (((zh_I s0 a0 9) + (1 : Int32)).toNatClampNeg)) = (129 : Int32)
              · rw [if_pos hc] at hf
                by_cases hc : ((zh_I s0 a0 9) + (2 : Int32)) < i2
                · rw [if_pos hc] at hf
                  have n_z := zm_M_head_153 n s0 a0 i2 i_2 hf
                  omega
                · rw [if_neg hc] at hf
                  obtain ⟨s_15, hq, hf⟩ := zx_p hf
                  have n_s_15 := zm_M_fails hq
                  have n_z := zm_M_head_193 n s_15 a0 i2 i_2 hf
                  omega
              · rw [if_neg hc] at hf
                have n_z := zm_M_head_153 n s0 a0 i2 i_2 hf
                omega
            · rw [if_neg hc] at hf
              have n_z := zm_M_head_108 n s0 a0 i2 i_2 hf
              omega
        · rw [if_neg hc] at hf
          obtain ⟨s_16, hq, hf⟩ := zx_p hf
          have n_s_16 := zm_M_fails hq
          have n_z := zm_M_head_193 n s_16 a0 i2 i_2 hf
          omega
      · rw [if_neg hc] at hf
        obtain ⟨s_17, hq, hf⟩ := zx_p hf
        have n_s_17 := zm_M_fails hq
        have n_z := zm_M_head_193 n s_17 a0 i2 i_2 hf
        omega
    · rw [if_neg hc] at hf
      obtain ⟨s_18, hq, hf⟩ := zx_p hf
      have n_s_18 := zm_M_fails hq
      obtain ⟨-, rfl⟩ := zx_r2 hf
      omega
  · rw [if_neg hc] at hf
    obtain ⟨-, rfl⟩ := zx_r2 hf
    omega
set_option maxHeartbeats 4000000 in
theorem zm_M_title_164 {z : zh_S} {r : Int64} (n : Nat) : ∀ (s0 : zh_S) (a0 : Nat) (i4 : Int32) (j6 : Int64), zb_M_title_164 n s0 a0 i4 j6 = some (r, z) → zh_N s0 ≤ zh_N z ∧ zh_M s0 ≤ zh_M z := by
  intro s0 a0 i4 j6 hf
  rw [zb_M_title_164] at hf
  obtain ⟨-, hf⟩ := zx_ck hf
  obtain ⟨s_1, e_s_1, hf⟩ := zx_l hf
  have n_s_1 := zx_muI e_s_1
  obtain ⟨-, rfl⟩ := zx_r2 hf
  omega
set_option maxHeartbeats 4000000 in
theorem zm_M_title_158 {z : zh_S} {r : Int64} (n : Nat) : ∀ (s0 : zh_S) (a0 : Nat) (i3 : Int32) (i4 : Int32) (j6 : Int64), zb_M_title_158 n s0 a0 i3 i4 j6 = some (r, z) → zh_N s0 ≤ zh_N z ∧ zh_M s0 ≤ zh_M z := by
  intro s0 a0 i3 i4 j6 hf
  rw [zb_M_title_158] at hf
  obtain ⟨-, hf⟩ := zx_ck hf
  obtain ⟨s_1, hq, hf⟩ := zx_p hf
  have n_s_1 := zm_M_fails hq
  have n_z := zm_M_title_164 n s_1 a0 i4 j6 hf
  omega
set_option maxHeartbeats 4000000 in
theorem zm_M_title_145 {z : zh_S} {r : Int64} (n : Nat) : ∀ (s0 : zh_S) (a0 : Nat) (i3 : Int32) (i4 : Int32) (i5 : Int32) (j6 : Int64), zb_M_title_145 n s0 a0 i3 i4 i5 j6 = some (r, z) → zh_N s0 ≤ zh_N z ∧ zh_M s0 ≤ zh_M z := by
  intro s0 a0 i3 i4 i5 j6 hf
  rw [zb_M_title_145] at hf
  by_cases hc : i5 = 0
  · rw [if_pos hc] at hf
    have n_z := zm_M_title_158 n s0 a0 i3 i4 j6 hf
    omega
  · rw [if_neg hc] at hf
    obtain ⟨i_1, hq, hf⟩ := zx_p hf
    by_cases hc : i_1 = 0
    · rw [if_pos hc] at hf
      have n_z := zm_M_title_158 n s0 a0 i3 i4 j6 hf
      omega
    · rw [if_neg hc] at hf
      have n_z := zm_M_title_164 n s0 a0 i4 j6 hf
      omega
set_option maxHeartbeats 4000000 in
theorem zm_M_title_119 {z : zh_S} {r : Int64} (n : Nat) (r48 : zh_S → Nat → Int32 → Int32 → Int32 → Int64 → Int32 → Option (Int64 × zh_S)) (hr48 : ∀ (s0 : zh_S) (a0 : Nat) (i3 : Int32) (i4 : Int32) (i5 : Int32) (j6 : Int64) (i8 : Int32), r48 s0 a0 i3 i4 i5 j6 i8 = some (r, z) → zh_N s0 ≤ zh_N z ∧ zh_M s0 ≤ zh_M z) : ∀ (s0 : zh_S) (a0 : Nat) (i3 : Int32) (i4 : Int32) (j6 : Int64) (i8 : Int32) (i9 : Int32) (it0 : Int32), zb_M_title_119 n r48 s0 a0 i3 i4 j6 i8 i9 it0 = some (r, z) → zh_N s0 ≤ zh_N z ∧ zh_M s0 ≤ zh_M z := by
  intro s0 a0 i3 i4 j6 i8 i9 it0 hf
  rw [zb_M_title_119] at hf
  obtain ⟨-, hf⟩ := zx_ck hf
  obtain ⟨j_2, e_j_2, hf⟩ := zx_l hf
  obtain ⟨i_3, e_i_3, hf⟩ := zx_l hf
  have n_z := hr48 s0 a0 i3 i4 it0 j_2 i_3 hf
  omega
set_option maxHeartbeats 4000000 in
theorem zm_M_title_118 {z : zh_S} {r : Int64} (n : Nat) (r48 : zh_S → Nat → Int32 → Int32 → Int32 → Int64 → Int32 → Option (Int64 × zh_S)) (hr48 : ∀ (s0 : zh_S) (a0 : Nat) (i3 : Int32) (i4 : Int32) (i5 : Int32) (j6 : Int64) (i8 : Int32), r48 s0 a0 i3 i4 i5 j6 i8 = some (r, z) → zh_N s0 ≤ zh_N z ∧ zh_M s0 ≤ zh_M z) : ∀ (s0 : zh_S) (a0 : Nat) (i3 : Int32) (i4 : Int32) (j6 : Int64) (i8 : Int32) (i9 : Int32), zb_M_title_118 n r48 s0 a0 i3 i4 j6 i8 i9 = some (r, z) → zh_N s0 ≤ zh_N z ∧ zh_M s0 ≤ zh_M z := by
  intro s0 a0 i3 i4 j6 i8 i9 hf
  rw [zb_M_title_118] at hf
  have n_z := zm_M_title_119 n _ hr48 s0 a0 i3 i4 j6 i8 i9 (0 : Int32) hf
  omega
set_option maxHeartbeats 4000000 in
theorem zm_M_title_87 {z : zh_S} {r : Int64} (n : Nat) (r48 : zh_S → Nat → Int32 → Int32 → Int32 → Int64 → Int32 → Option (Int64 × zh_S)) (hr48 : ∀ (s0 : zh_S) (a0 : Nat) (i3 : Int32) (i4 : Int32) (i5 : Int32) (j6 : Int64) (i8 : Int32), r48 s0 a0 i3 i4 i5 j6 i8 = some (r, z) → zh_N s0 ≤ zh_N z ∧ zh_M s0 ≤ zh_M z) : ∀ (s0 : zh_S) (a0 : Nat) (i3 : Int32) (i4 : Int32) (j6 : Int64) (i8 : Int32) (it0 : Int32), zb_M_title_87 n r48 s0 a0 i3 i4 j6 i8 it0 = some (r, z) → zh_N s0 ≤ zh_N z ∧ zh_M s0 ≤ zh_M z := by
  intro s0 a0 i3 i4 j6 i8 it0 hf
  rw [zb_M_title_87] at hf
  by_cases hc : it0 < (1 : Int32)
  · rw [if_pos hc] at hf
    have n_z := zm_M_title_118 n _ hr48 s0 a0 i3 i4 j6 i8 it0 hf
    omega
  · rw [if_neg hc] at hf
    by_cases hc : (27 : Int32) < it0
    · rw [if_pos hc] at hf
      have n_z := zm_M_title_118 n _ hr48 s0 a0 i3 i4 j6 i8 it0 hf
      omega
    · rw [if_neg hc] at hf
      obtain ⟨-, hf⟩ := zx_ck hf
      obtain ⟨a_2, -, hf⟩ := zx_p hf
      obtain ⟨-, hf⟩ := zx_ck hf
      by_cases hc : (zh_I s0 a_2 (i8.toNatClampNeg)) = (123 : Int32)
      · rw [if_pos hc] at hf
        have n_z := zm_M_title_118 n _ hr48 s0 a0 i3 i4 j6 i8 it0 hf
        omega
      · rw [if_neg hc] at hf
        have n_z := zm_M_title_119 n _ hr48 s0 a0 i3 i4 j6 i8 it0 (1 : Int32) hf
        omega
set_option maxHeartbeats 4000000 in
theorem zm_M_title_48 {z : zh_S} {r : Int64} (n : Nat) (k : Nat) : ∀ (s0 : zh_S) (a0 : Nat) (i3 : Int32) (i4 : Int32) (i5 : Int32) (j6 : Int64) (i8 : Int32), zl_M_title_48 n k s0 a0 i3 i4 i5 j6 i8 = some (r, z) → zh_N s0 ≤ zh_N z ∧ zh_M s0 ≤ zh_M z := by
  induction k with
  | zero => intro s0 a0 i3 i4 i5 j6 i8 hf; cases hf
  | succ k ih =>
    intro s0 a0 i3 i4 i5 j6 i8 hf
    rw [zl_M_title_48] at hf
    by_cases hc : i4 ≤ i8
    · rw [if_pos hc] at hf
      have n_z := zm_M_title_145 n s0 a0 i3 i4 i5 j6 hf
      omega
    · rw [if_neg hc] at hf
      by_cases hc : i5 = 0
      · rw [if_pos hc] at hf
        have n_z := zm_M_title_145 n s0 a0 i3 i4 i5 j6 hf
        omega
      · rw [if_neg hc] at hf
        obtain ⟨-, hf⟩ := zx_ck hf
        obtain ⟨a_2, -, hf⟩ := zx_p hf
        obtain ⟨-, hf⟩ := zx_ck hf
        by_cases hc : (zh_I s0 a_2 (i8.toNatClampNeg)) = (46 : Int32)
        · rw [if_pos hc] at hf
          have n_z := zm_M_title_87 n _ ih s0 a0 i3 i4 j6 i8 (27 : Int32) hf
          omega
        · rw [if_neg hc] at hf
          obtain ⟨a_5, -, hf⟩ := zx_p hf
          obtain ⟨-, hf⟩ := zx_ck hf
          have n_z := zm_M_title_87 n _ ih s0 a0 i3 i4 j6 i8 ((zh_I s0 a_5 (i8.toNatClampNeg)) - (96 : Int32)) hf
          omega
set_option maxHeartbeats 4000000 in
theorem zm_M_title {n : Nat} {s0 : zh_S} {a0 : Nat} {i1 : Int32} {i2 : Int32} {r : Int64} {z : zh_S} (hf : zf_M_title n s0 a0 i1 i2 = some (r, z)) : zh_N s0 ≤ zh_N z ∧ zh_M s0 ≤ zh_M z := by
  rw [zf_M_title] at hf
  obtain ⟨-, hf⟩ := zx_ck hf
  obtain ⟨i_2, e_i_2, hf⟩ := zx_l hf
  obtain ⟨i_4, s_3, hq, hf⟩ := zx_b hf
  have n_s_3 := zm_M_head hq
  obtain ⟨-, hf⟩ := zx_ck hf
  by_cases hc : (zh_I s_3 a0 10) = 0
  · rw [if_pos hc] at hf
    obtain ⟨i_6, hq, hf⟩ := zx_p hf
    obtain ⟨i_7, e_i_7, hf⟩ := zx_l hf
    have n_z := zm_M_title_48 n n s_3 a0 i_2 i_4 i_6 (0 : Int64) i_7 hf
    omega
  · rw [if_neg hc] at hf
    obtain ⟨-, rfl⟩ := zx_r2 hf
    omega
set_option maxHeartbeats 4000000 in
theorem zm_M_number_151 {z : zh_S} {r : Int64} (n : Nat) : ∀ (s0 : zh_S) (a0 : Nat) (i3 : Int32) (j6 : Int64), zb_M_number_151 n s0 a0 i3 j6 = some (r, z) → zh_N s0 ≤ zh_N z ∧ zh_M s0 ≤ zh_M z := by
  intro s0 a0 i3 j6 hf
  rw [zb_M_number_151] at hf
  obtain ⟨-, hf⟩ := zx_ck hf
  obtain ⟨s_1, e_s_1, hf⟩ := zx_l hf
  have n_s_1 := zx_muI e_s_1
  obtain ⟨-, rfl⟩ := zx_r2 hf
  omega
set_option maxHeartbeats 4000000 in
theorem zm_M_number_118 {z : zh_S} {r : Int64} (n : Nat) (k : Nat) : ∀ (s0 : zh_S) (a0 : Nat) (i3 : Int32) (i5 : Int32) (j6 : Int64) (i8 : Int32), zl_M_number_118 n k s0 a0 i3 i5 j6 i8 = some (r, z) → zh_N s0 ≤ zh_N z ∧ zh_M s0 ≤ zh_M z := by
  induction k with
  | zero => intro s0 a0 i3 i5 j6 i8 hf; cases hf
  | succ k ih =>
    intro s0 a0 i3 i5 j6 i8 hf
    rw [zl_M_number_118] at hf
    by_cases hc : i3 ≤ i8
    · rw [if_pos hc] at hf
      have n_z := zm_M_number_151 n s0 a0 i3 j6 hf
      omega
    · rw [if_neg hc] at hf
      by_cases hc : i5 = 0
      · rw [if_pos hc] at hf
        have n_z := zm_M_number_151 n s0 a0 i3 j6 hf
        omega
      · rw [if_neg hc] at hf
        obtain ⟨-, hf⟩ := zx_ck hf
        obtain ⟨a_2, -, hf⟩ := zx_p hf
        obtain ⟨-, hf⟩ := zx_ck hf
        obtain ⟨j_5, e_j_5, hf⟩ := zx_l hf
        obtain ⟨i_6, e_i_6, hf⟩ := zx_l hf
        have n_z := ih s0 a0 i3 i5 j_5 i_6 hf
        omega
set_option maxHeartbeats 4000000 in
theorem zm_M_number_109 {z : zh_S} {r : Int64} (n : Nat) : ∀ (s0 : zh_S) (a0 : Nat) (i3 : Int32) (i5 : Int32), zb_M_number_109 n s0 a0 i3 i5 = some (r, z) → zh_N s0 ≤ zh_N z ∧ zh_M s0 ≤ zh_M z := by
  intro s0 a0 i3 i5 hf
  rw [zb_M_number_109] at hf
  obtain ⟨-, hf⟩ := zx_ck hf
  obtain ⟨i_2, e_i_2, hf⟩ := zx_l hf
  have n_z := zm_M_number_118 n n s0 a0 i3 i5 (0 : Int64) i_2 hf
  omega
set_option maxHeartbeats 4000000 in
theorem zm_M_number_96 {z : zh_S} {r : Int64} (n : Nat) : ∀ (s0 : zh_S) (a0 : Nat) (i2 : Int32) (i3 : Int32) (it0 : Int32), zb_M_number_96 n s0 a0 i2 i3 it0 = some (r, z) → zh_N s0 ≤ zh_N z ∧ zh_M s0 ≤ zh_M z := by
  intro s0 a0 i2 i3 it0 hf
  rw [zb_M_number_96] at hf
  by_cases hc : it0 = 0
  · rw [if_pos hc] at hf
    obtain ⟨-, hf⟩ := zx_ck hf
    obtain ⟨s_1, hq, hf⟩ := zx_p hf
    have n_s_1 := zm_M_fails hq
    have n_z := zm_M_number_109 n s_1 a0 i3 it0 hf
    omega
  · rw [if_neg hc] at hf
    have n_z := zm_M_number_109 n s0 a0 i3 it0 hf
    omega
set_option maxHeartbeats 4000000 in
theorem zm_M_number_95 {z : zh_S} {r : Int64} (n : Nat) : ∀ (s0 : zh_S) (a0 : Nat) (i2 : Int32) (i3 : Int32), zb_M_number_95 n s0 a0 i2 i3 = some (r, z) → zh_N s0 ≤ zh_N z ∧ zh_M s0 ≤ zh_M z := by
  intro s0 a0 i2 i3 hf
  rw [zb_M_number_95] at hf
  have n_z := zm_M_number_96 n s0 a0 i2 i3 (0 : Int32) hf
  omega
set_option maxHeartbeats 4000000 in
theorem zm_M_number_91 {z : zh_S} {r : Int64} (n : Nat) : ∀ (s0 : zh_S) (a0 : Nat) (i2 : Int32) (i3 : Int32), zb_M_number_91 n s0 a0 i2 i3 = some (r, z) → zh_N s0 ≤ zh_N z ∧ zh_M s0 ≤ zh_M z := by
  intro s0 a0 i2 i3 hf
  rw [zb_M_number_91] at hf
  have n_z := zm_M_number_96 n s0 a0 i2 i3 (1 : Int32) hf
  omega
set_option maxHeartbeats 4000000 in
theorem zm_M_number {n : Nat} {s0 : zh_S} {a0 : Nat} {i1 : Int32} {r : Int64} {z : zh_S} (hf : zf_M_number n s0 a0 i1 = some (r, z)) : zh_N s0 ≤ zh_N z ∧ zh_M s0 ≤ zh_M z := by
  rw [zf_M_number] at hf
  obtain ⟨-, hf⟩ := zx_ck hf
  obtain ⟨i_2, e_i_2, hf⟩ := zx_l hf
  obtain ⟨i_4, s_3, hq, hf⟩ := zx_b hf
  have n_s_3 := zm_M_head hq
  obtain ⟨-, hf⟩ := zx_ck hf
  by_cases hc : (zh_I s_3 a0 10) = 0
  · rw [if_pos hc] at hf
    obtain ⟨i_6, e_i_6, hf⟩ := zx_l hf
    obtain ⟨i_7, hq, hf⟩ := zx_p hf
    by_cases hc : i_7 = 0
    · rw [if_pos hc] at hf
      have n_z := zm_M_number_95 n s_3 a0 i_2 i_4 hf
      omega
    · rw [if_neg hc] at hf
      obtain ⟨a_8, -, hf⟩ := zx_p hf
      obtain ⟨-, hf⟩ := zx_ck hf
      by_cases hc : (128 : Int32) ≤ (zh_I s_3 a_8 ((zh_I s_3 a0 9).toNatClampNeg))
      · rw [if_pos hc] at hf
        have n_z := zm_M_number_95 n s_3 a0 i_2 i_4 hf
        omega
      · rw [if_neg hc] at hf
        obtain ⟨a_11, -, hf⟩ := zx_p hf
        obtain ⟨-, hf⟩ := zx_ck hf
        by_cases hc : (zh_I s_3 a_11 ((zh_I s_3 a0 9).toNatClampNeg)) = 0
        · rw [if_pos hc] at hf
          by_cases hc : i_6 = (1 : Int32)
          · rw [if_pos hc] at hf
            have n_z := zm_M_number_91 n s_3 a0 i_2 i_4 hf
            omega
          · rw [if_neg hc] at hf
            obtain ⟨a_14, -, hf⟩ := zx_p hf
            obtain ⟨-, hf⟩ := zx_ck hf
            by_cases hc : (zh_I s_3 a_14 (((zh_I s_3 a0 9) + (1 : Int32)).toNatClampNeg)) ≤ (127 : Int32)
            · rw [if_pos hc] at hf
              have n_z := zm_M_number_95 n s_3 a0 i_2 i_4 hf
              omega
            · rw [if_neg hc] at hf
              have n_z := zm_M_number_91 n s_3 a0 i_2 i_4 hf
              omega
        · rw [if_neg hc] at hf
          have n_z := zm_M_number_91 n s_3 a0 i_2 i_4 hf
          omega
  · rw [if_neg hc] at hf
    obtain ⟨-, rfl⟩ := zx_r2 hf
    omega
set_option maxHeartbeats 4000000 in
theorem zm_M_done {n : Nat} {s0 : zh_S} {a0 : Nat} {i1 : Int32} {z : zh_S} (hf : zf_M_done n s0 a0 i1 = some z) : zh_N s0 ≤ zh_N z ∧ zh_M s0 ≤ zh_M z := by
  rw [zf_M_done] at hf
  obtain ⟨-, hf⟩ := zx_ck hf
  by_cases hc : (zh_I s0 a0 10) = 0
  · rw [if_pos hc] at hf
    by_cases hc : i1 ≤ (zh_I s0 a0 9)
    · rw [if_pos hc] at hf
      obtain rfl := zx_r1 hf
      omega
    · rw [if_neg hc] at hf
      obtain ⟨s_2, hq, hf⟩ := zx_p hf
      have n_s_2 := zm_M_fails hq
      obtain rfl := zx_r1 hf
      omega
  · rw [if_neg hc] at hf
    obtain rfl := zx_r1 hf
    omega
set_option maxHeartbeats 4000000 in
theorem zm_M_readList_183 {z : zh_S} (n : Nat) : ∀ (s0 : zh_S) (a0 : Nat) (i1 : Int32), zb_M_readList_183 n s0 a0 i1 = some z → zh_N s0 ≤ zh_N z ∧ zh_M s0 ≤ zh_M z := by
  intro s0 a0 i1 hf
  rw [zb_M_readList_183] at hf
  obtain ⟨-, hf⟩ := zx_ck hf
  obtain ⟨a_2, -, hf⟩ := zx_p hf
  obtain ⟨j_5, s_4, hq, hf⟩ := zx_b hf
  have n_s_4 := zm_M_number hq
  obtain ⟨-, hf⟩ := zx_ck hf
  obtain ⟨s_6, e_s_6, hf⟩ := zx_l hf
  have n_s_6 := zx_muJ e_s_6
  obtain ⟨-, hf⟩ := zx_ck hf
  obtain ⟨s_8, hq, hf⟩ := zx_p hf
  have n_s_8 := zm_M_done hq
  obtain ⟨-, hf⟩ := zx_ck hf
  obtain ⟨s_11, hq, hf⟩ := zx_p hf
  have n_s_11 := zm_M_done hq
  obtain rfl := zx_r1 hf
  omega
set_option maxHeartbeats 4000000 in
theorem zm_M_readList_151 {z : zh_S} (n : Nat) : ∀ (s0 : zh_S) (a0 : Nat) (i1 : Int32) (i2 : Int32) (i3 : Int32) (i4 : Int32), zb_M_readList_151 n s0 a0 i1 i2 i3 i4 = some z → zh_N s0 ≤ zh_N z ∧ zh_M s0 ≤ zh_M z := by
  intro s0 a0 i1 i2 i3 i4 hf
  rw [zb_M_readList_151] at hf
  obtain ⟨-, hf⟩ := zx_ck hf
  obtain ⟨s_1, hq, hf⟩ := zx_p hf
  have n_s_1 := zm_M_done hq
  obtain ⟨-, hf⟩ := zx_ck hf
  obtain ⟨s_3, hq, hf⟩ := zx_p hf
  have n_s_3 := zm_M_done hq
  obtain ⟨-, hf⟩ := zx_ck hf
  by_cases hc : (zh_I s_3 a0 10) = 0
  · rw [if_pos hc] at hf
    obtain ⟨a_6, -, hf⟩ := zx_p hf
    obtain ⟨i_8, hq, hf⟩ := zx_p hf
    obtain ⟨-, hf⟩ := zx_ck hf
    obtain ⟨s_9, e_s_9, hf⟩ := zx_l hf
    have n_s_9 := zx_muJ e_s_9
    have n_z := zm_M_readList_183 n s_9 a0 i1 hf
    omega
  · rw [if_neg hc] at hf
    have n_z := zm_M_readList_183 n s_3 a0 i1 hf
    omega
set_option maxHeartbeats 4000000 in
theorem zm_M_readList_73 {z : zh_S} (n : Nat) (k : Nat) : ∀ (s0 : zh_S) (a0 : Nat) (i1 : Int32) (i2 : Int32) (i3 : Int32) (i4 : Int32), zl_M_readList_73 n k s0 a0 i1 i2 i3 i4 = some z → zh_N s0 ≤ zh_N z ∧ zh_M s0 ≤ zh_M z := by
  induction k with
  | zero => intro s0 a0 i1 i2 i3 i4 hf; cases hf
  | succ k ih =>
    intro s0 a0 i1 i2 i3 i4 hf
    rw [zl_M_readList_73] at hf
    obtain ⟨-, hf⟩ := zx_ck hf
    by_cases hc : (4 : Int32) ≤ (zh_I s0 a0 12)
    · rw [if_pos hc] at hf
      have n_z := zm_M_readList_151 n s0 a0 i1 i2 i3 i4 hf
      omega
    · rw [if_neg hc] at hf
      obtain ⟨i_2, hq, hf⟩ := zx_p hf
      by_cases hc : i_2 = 0
      · rw [if_pos hc] at hf
        have n_z := zm_M_readList_151 n s0 a0 i1 i2 i3 i4 hf
        omega
      · rw [if_neg hc] at hf
        obtain ⟨i_4, s_3, hq, hf⟩ := zx_b hf
        have n_s_3 := zm_M_head hq
        obtain ⟨-, hf⟩ := zx_ck hf
        obtain ⟨a_6, -, hf⟩ := zx_p hf
        obtain ⟨j_9, s_8, hq, hf⟩ := zx_b hf
        have n_s_8 := zm_M_number hq
        obtain ⟨-, hf⟩ := zx_ck hf
        obtain ⟨s_10, e_s_10, hf⟩ := zx_l hf
        have n_s_10 := zx_muJ e_s_10
        obtain ⟨-, hf⟩ := zx_ck hf
        obtain ⟨a_13, -, hf⟩ := zx_p hf
        obtain ⟨j_16, s_15, hq, hf⟩ := zx_b hf
        have n_s_15 := zm_M_number hq
        obtain ⟨-, hf⟩ := zx_ck hf
        obtain ⟨s_17, e_s_17, hf⟩ := zx_l hf
        have n_s_17 := zx_muJ e_s_17
        obtain ⟨-, hf⟩ := zx_ck hf
        obtain ⟨s_19, hq, hf⟩ := zx_p hf
        have n_s_19 := zm_M_done hq
        obtain ⟨-, hf⟩ := zx_ck hf
        obtain ⟨s_22, e_s_22, hf⟩ := zx_l hf
        have n_s_22 := zx_muI e_s_22
        have n_z := ih s_22 a0 i1 i2 i3 i4 hf
        omega
set_option maxHeartbeats 4000000 in
theorem zm_M_readList {n : Nat} {s0 : zh_S} {a0 : Nat} {z : zh_S} (hf : zf_M_readList n s0 a0 = some z) : zh_N s0 ≤ zh_N z ∧ zh_M s0 ≤ zh_M z := by
  rw [zf_M_readList] at hf
  obtain ⟨-, hf⟩ := zx_ck hf
  obtain ⟨s_1, e_s_1, hf⟩ := zx_l hf
  have n_s_1 := zx_muI e_s_1
  obtain ⟨i_4, s_3, hq, hf⟩ := zx_b hf
  have n_s_3 := zm_M_head hq
  obtain ⟨-, hf⟩ := zx_ck hf
  obtain ⟨i_6, e_i_6, hf⟩ := zx_l hf
  obtain ⟨i_8, s_7, hq, hf⟩ := zx_b hf
  have n_s_7 := zm_M_head hq
  obtain ⟨-, hf⟩ := zx_ck hf
  obtain ⟨a_10, -, hf⟩ := zx_p hf
  obtain ⟨j_13, s_12, hq, hf⟩ := zx_b hf
  have n_s_12 := zm_M_title hq
  obtain ⟨-, hf⟩ := zx_ck hf
  obtain ⟨s_14, e_s_14, hf⟩ := zx_l hf
  have n_s_14 := zx_muJ e_s_14
  obtain ⟨-, hf⟩ := zx_ck hf
  obtain ⟨a_17, -, hf⟩ := zx_p hf
  obtain ⟨j_20, s_19, hq, hf⟩ := zx_b hf
  have n_s_19 := zm_M_number hq
  obtain ⟨-, hf⟩ := zx_ck hf
  obtain ⟨s_21, e_s_21, hf⟩ := zx_l hf
  have n_s_21 := zx_muJ e_s_21
  obtain ⟨-, hf⟩ := zx_ck hf
  obtain ⟨a_24, -, hf⟩ := zx_p hf
  obtain ⟨j_27, s_26, hq, hf⟩ := zx_b hf
  have n_s_26 := zm_M_number hq
  obtain ⟨-, hf⟩ := zx_ck hf
  obtain ⟨s_28, e_s_28, hf⟩ := zx_l hf
  have n_s_28 := zx_muJ e_s_28
  obtain ⟨-, hf⟩ := zx_ck hf
  obtain ⟨i_32, s_30, hq, hf⟩ := zx_b hf
  have n_s_30 := zm_M_head hq
  have n_z := zm_M_readList_73 n n s_30 a0 i_4 i_6 i_8 i_32 hf
  omega
set_option maxHeartbeats 4000000 in
theorem zm_M_realm_86 {z : zh_S} (n : Nat) : ∀ (s0 : zh_S) (a0 : Nat) (i3 : Int32), zb_M_realm_86 n s0 a0 i3 = some z → zh_N s0 ≤ zh_N z ∧ zh_M s0 ≤ zh_M z := by
  intro s0 a0 i3 hf
  rw [zb_M_realm_86] at hf
  obtain ⟨-, hf⟩ := zx_ck hf
  obtain ⟨s_1, hq, hf⟩ := zx_p hf
  have n_s_1 := zm_M_done hq
  obtain rfl := zx_r1 hf
  omega
set_option maxHeartbeats 4000000 in
theorem zm_M_realm_60 {z : zh_S} (n : Nat) : ∀ (s0 : zh_S) (a0 : Nat) (i3 : Int32), zb_M_realm_60 n s0 a0 i3 = some z → zh_N s0 ≤ zh_N z ∧ zh_M s0 ≤ zh_M z := by
  intro s0 a0 i3 hf
  rw [zb_M_realm_60] at hf
  obtain ⟨-, hf⟩ := zx_ck hf
  obtain ⟨i_2, hq, hf⟩ := zx_p hf
  by_cases hc : i_2 = 0
  · rw [if_pos hc] at hf
    have n_z := zm_M_realm_86 n s0 a0 i3 hf
    omega
  · rw [if_neg hc] at hf
    obtain ⟨a_3, -, hf⟩ := zx_p hf
    obtain ⟨j_6, s_5, hq, hf⟩ := zx_b hf
    have n_s_5 := zm_M_title hq
    obtain ⟨-, hf⟩ := zx_ck hf
    obtain ⟨s_7, e_s_7, hf⟩ := zx_l hf
    have n_s_7 := zx_muJ e_s_7
    have n_z := zm_M_realm_86 n s_7 a0 i3 hf
    omega
set_option maxHeartbeats 4000000 in
theorem zm_M_realm_34 {z : zh_S} (n : Nat) : ∀ (s0 : zh_S) (a0 : Nat) (i3 : Int32), zb_M_realm_34 n s0 a0 i3 = some z → zh_N s0 ≤ zh_N z ∧ zh_M s0 ≤ zh_M z := by
  intro s0 a0 i3 hf
  rw [zb_M_realm_34] at hf
  obtain ⟨-, hf⟩ := zx_ck hf
  obtain ⟨i_2, hq, hf⟩ := zx_p hf
  by_cases hc : i_2 = 0
  · rw [if_pos hc] at hf
    have n_z := zm_M_realm_60 n s0 a0 i3 hf
    omega
  · rw [if_neg hc] at hf
    obtain ⟨a_3, -, hf⟩ := zx_p hf
    obtain ⟨j_6, s_5, hq, hf⟩ := zx_b hf
    have n_s_5 := zm_M_title hq
    obtain ⟨-, hf⟩ := zx_ck hf
    obtain ⟨s_7, e_s_7, hf⟩ := zx_l hf
    have n_s_7 := zx_muJ e_s_7
    have n_z := zm_M_realm_60 n s_7 a0 i3 hf
    omega
set_option maxHeartbeats 4000000 in
theorem zm_M_realm {n : Nat} {s0 : zh_S} {a0 : Nat} {i1 : Int32} {z : zh_S} (hf : zf_M_realm n s0 a0 i1 = some z) : zh_N s0 ≤ zh_N z ∧ zh_M s0 ≤ zh_M z := by
  rw [zf_M_realm] at hf
  obtain ⟨-, hf⟩ := zx_ck hf
  obtain ⟨i_2, e_i_2, hf⟩ := zx_l hf
  obtain ⟨i_4, s_3, hq, hf⟩ := zx_b hf
  have n_s_3 := zm_M_head hq
  obtain ⟨-, hf⟩ := zx_ck hf
  by_cases hc : (zh_I s_3 a0 10) = 0
  · rw [if_pos hc] at hf
    by_cases hc : i_4 = (zh_I s_3 a0 9)
    · rw [if_pos hc] at hf
      obtain ⟨s_6, hq, hf⟩ := zx_p hf
      have n_s_6 := zm_M_fails hq
      have n_z := zm_M_realm_34 n s_6 a0 i_4 hf
      omega
    · rw [if_neg hc] at hf
      have n_z := zm_M_realm_34 n s_3 a0 i_4 hf
      omega
  · rw [if_neg hc] at hf
    have n_z := zm_M_realm_34 n s_3 a0 i_4 hf
    omega
set_option maxHeartbeats 4000000 in
theorem zm_M_truth_66 {z : zh_S} (n : Nat) : ∀ (s0 : zh_S) (at0 : Nat) (it1 : Int32), zb_M_truth_66 n s0 at0 it1 = some z → zh_N s0 ≤ zh_N z ∧ zh_M s0 ≤ zh_M z := by
  intro s0 at0 it1 hf
  rw [zb_M_truth_66] at hf
  obtain ⟨-, hf⟩ := zx_ck hf
  obtain ⟨s_1, e_s_1, hf⟩ := zx_l hf
  have n_s_1 := zx_muI e_s_1
  obtain rfl := zx_r1 hf
  omega
set_option maxHeartbeats 4000000 in
theorem zm_M_truth_50 {z : zh_S} (n : Nat) : ∀ (s0 : zh_S) (a0 : Nat) (i3 : Int32), zb_M_truth_50 n s0 a0 i3 = some z → zh_N s0 ≤ zh_N z ∧ zh_M s0 ≤ zh_M z := by
  intro s0 a0 i3 hf
  rw [zb_M_truth_50] at hf
  obtain ⟨-, hf⟩ := zx_ck hf
  by_cases hc : (zh_I s0 a0 10) = 0
  · rw [if_pos hc] at hf
    have n_z := zm_M_truth_66 n s0 a0 i3 hf
    omega
  · rw [if_neg hc] at hf
    have n_z := zm_M_truth_66 n s0 a0 (zh_I s0 a0 9) hf
    omega
set_option maxHeartbeats 4000000 in
theorem zm_M_truth_44 {z : zh_S} (n : Nat) : ∀ (s0 : zh_S) (a0 : Nat) (i2 : Int32) (i3 : Int32), zb_M_truth_44 n s0 a0 i2 i3 = some z → zh_N s0 ≤ zh_N z ∧ zh_M s0 ≤ zh_M z := by
  intro s0 a0 i2 i3 hf
  rw [zb_M_truth_44] at hf
  obtain ⟨-, hf⟩ := zx_ck hf
  obtain ⟨s_1, hq, hf⟩ := zx_p hf
  have n_s_1 := zm_M_fails hq
  have n_z := zm_M_truth_50 n s_1 a0 i3 hf
  omega
set_option maxHeartbeats 4000000 in
theorem zm_M_truth {n : Nat} {s0 : zh_S} {a0 : Nat} {i1 : Int32} {z : zh_S} (hf : zf_M_truth n s0 a0 i1 = some z) : zh_N s0 ≤ zh_N z ∧ zh_M s0 ≤ zh_M z := by
  rw [zf_M_truth] at hf
  obtain ⟨-, hf⟩ := zx_ck hf
  obtain ⟨i_2, e_i_2, hf⟩ := zx_l hf
  obtain ⟨i_4, s_3, hq, hf⟩ := zx_b hf
  have n_s_3 := zm_M_head hq
  obtain ⟨-, hf⟩ := zx_ck hf
  by_cases hc : (zh_I s_3 a0 10) = 0
  · rw [if_pos hc] at hf
    by_cases hc : (i_4 - (zh_I s_3 a0 9)) = (1 : Int32)
    · rw [if_pos hc] at hf
      obtain ⟨a_6, -, hf⟩ := zx_p hf
      obtain ⟨-, hf⟩ := zx_ck hf
      by_cases hc : (zh_I s_3 a_6 ((zh_I s_3 a0 9).toNatClampNeg)) = (255 : Int32)
      · rw [if_pos hc] at hf
        have n_z := zm_M_truth_50 n s_3 a0 i_4 hf
        omega
      · rw [if_neg hc] at hf
        have n_z := zm_M_truth_44 n s_3 a0 i_2 i_4 hf
        omega
    · rw [if_neg hc] at hf
      have n_z := zm_M_truth_44 n s_3 a0 i_2 i_4 hf
      omega
  · rw [if_neg hc] at hf
    have n_z := zm_M_truth_50 n s_3 a0 i_4 hf
    omega
set_option maxHeartbeats 4000000 in
theorem zm_M_basic_87 {z : zh_S} (n : Nat) : ∀ (s0 : zh_S) (a0 : Nat) (i2 : Int32), zb_M_basic_87 n s0 a0 i2 = some z → zh_N s0 ≤ zh_N z ∧ zh_M s0 ≤ zh_M z := by
  intro s0 a0 i2 hf
  rw [zb_M_basic_87] at hf
  obtain ⟨-, hf⟩ := zx_ck hf
  obtain ⟨s_1, hq, hf⟩ := zx_p hf
  have n_s_1 := zm_M_done hq
  obtain rfl := zx_r1 hf
  omega
set_option maxHeartbeats 4000000 in
theorem zm_M_basic {n : Nat} {s0 : zh_S} {a0 : Nat} {i1 : Int32} {z : zh_S} (hf : zf_M_basic n s0 a0 i1 = some z) : zh_N s0 ≤ zh_N z ∧ zh_M s0 ≤ zh_M z := by
  rw [zf_M_basic] at hf
  obtain ⟨-, hf⟩ := zx_ck hf
  obtain ⟨i_3, s_1, hq, hf⟩ := zx_b hf
  have n_s_1 := zm_M_head hq
  obtain ⟨-, hf⟩ := zx_ck hf
  by_cases hc : (zh_I s_1 a0 10) = 0
  · rw [if_pos hc] at hf
    obtain ⟨a_5, -, hf⟩ := zx_p hf
    obtain ⟨a_7, -, hf⟩ := zx_p hf
    obtain ⟨-, hf⟩ := zx_ck hf
    obtain ⟨-, hf⟩ := zx_ck hf
    obtain ⟨s_10, e_s_10, hf⟩ := zx_l hf
    have n_s_10 := zx_muJ e_s_10
    obtain ⟨-, hf⟩ := zx_ck hf
    obtain ⟨i_13, hq, hf⟩ := zx_p hf
    by_cases hc : i_13 = 0
    · rw [if_pos hc] at hf
      have n_z := zm_M_basic_87 n s_10 a0 i_3 hf
      omega
    · rw [if_neg hc] at hf
      obtain ⟨s_14, hq, hf⟩ := zx_p hf
      have n_s_14 := zm_M_truth hq
      obtain ⟨-, hf⟩ := zx_ck hf
      obtain ⟨a_16, -, hf⟩ := zx_p hf
      obtain ⟨a_18, -, hf⟩ := zx_p hf
      obtain ⟨-, hf⟩ := zx_ck hf
      obtain ⟨-, hf⟩ := zx_ck hf
      obtain ⟨s_21, e_s_21, hf⟩ := zx_l hf
      have n_s_21 := zx_muJ e_s_21
      obtain ⟨-, hf⟩ := zx_ck hf
      obtain ⟨i_24, hq, hf⟩ := zx_p hf
      by_cases hc : i_24 = 0
      · rw [if_pos hc] at hf
        have n_z := zm_M_basic_87 n s_21 a0 i_3 hf
        omega
      · rw [if_neg hc] at hf
        obtain ⟨a_25, -, hf⟩ := zx_p hf
        obtain ⟨j_28, s_27, hq, hf⟩ := zx_b hf
        have n_s_27 := zm_M_number hq
        obtain ⟨-, hf⟩ := zx_ck hf
        obtain ⟨s_29, e_s_29, hf⟩ := zx_l hf
        have n_s_29 := zx_muJ e_s_29
        have n_z := zm_M_basic_87 n s_29 a0 i_3 hf
        omega
  · rw [if_neg hc] at hf
    obtain rfl := zx_r1 hf
    omega
set_option maxHeartbeats 4000000 in
theorem zm_M_extension_232 {z : zh_S} {r : Int64} (n : Nat) : ∀ (s0 : zh_S) (a0 : Nat) (i4 : Int32) (j6 : Int64), zb_M_extension_232 n s0 a0 i4 j6 = some (r, z) → zh_N s0 ≤ zh_N z ∧ zh_M s0 ≤ zh_M z := by
  intro s0 a0 i4 j6 hf
  rw [zb_M_extension_232] at hf
  obtain ⟨-, hf⟩ := zx_ck hf
  obtain ⟨s_1, hq, hf⟩ := zx_p hf
  have n_s_1 := zm_M_done hq
  obtain ⟨-, hf⟩ := zx_ck hf
  obtain ⟨a_4, -, hf⟩ := zx_p hf
  obtain ⟨-, hf⟩ := zx_ck hf
  obtain ⟨-, hf⟩ := zx_ck hf
  obtain ⟨s_7, e_s_7, hf⟩ := zx_l hf
  have n_s_7 := zx_muJ e_s_7
  obtain ⟨-, rfl⟩ := zx_r2 hf
  omega
set_option maxHeartbeats 4000000 in
theorem zm_M_extension_231 {z : zh_S} {r : Int64} (n : Nat) : ∀ (s0 : zh_S) (a0 : Nat) (i4 : Int32) (j6 : Int64) (at0 : Nat) (it1 : Int32) (jt2 : Int64), zb_M_extension_231 n s0 a0 i4 j6 at0 it1 jt2 = some (r, z) → zh_N s0 ≤ zh_N z ∧ zh_M s0 ≤ zh_M z := by
  intro s0 a0 i4 j6 at0 it1 jt2 hf
  rw [zb_M_extension_231] at hf
  obtain ⟨-, hf⟩ := zx_ck hf
  obtain ⟨s_1, e_s_1, hf⟩ := zx_l hf
  have n_s_1 := zx_muJ e_s_1
  have n_z := zm_M_extension_232 n s_1 a0 i4 j6 hf
  omega
set_option maxHeartbeats 4000000 in
theorem zm_M_extension_196 {z : zh_S} {r : Int64} (n : Nat) : ∀ (s0 : zh_S) (a0 : Nat) (i4 : Int32) (j6 : Int64) (i8 : Int32) (at0 : Nat) (it1 : Int32), zb_M_extension_196 n s0 a0 i4 j6 i8 at0 it1 = some (r, z) → zh_N s0 ≤ zh_N z ∧ zh_M s0 ≤ zh_M z := by
  intro s0 a0 i4 j6 i8 at0 it1 hf
  rw [zb_M_extension_196] at hf
  obtain ⟨-, hf⟩ := zx_ck hf
  obtain ⟨s_1, e_s_1, hf⟩ := zx_l hf
  have n_s_1 := zx_muI e_s_1
  obtain ⟨-, hf⟩ := zx_ck hf
  obtain ⟨a_4, -, hf⟩ := zx_p hf
  by_cases hc : i8 = 0
  · rw [if_pos hc] at hf
    obtain ⟨a_6, -, hf⟩ := zx_p hf
    obtain ⟨-, hf⟩ := zx_ck hf
    have n_z := zm_M_extension_231 n s_1 a0 i4 j6 a_4 (14 : Int32) (zh_J s_1 a_6 ((14 : Int32).toNatClampNeg)) hf
    omega
  · rw [if_neg hc] at hf
    obtain ⟨a_9, -, hf⟩ := zx_p hf
    obtain ⟨-, hf⟩ := zx_ck hf
    have n_z := zm_M_extension_231 n s_1 a0 i4 j6 a_4 (14 : Int32) ((zh_J s_1 a_9 ((14 : Int32).toNatClampNeg)) ||| (8 : Int64)) hf
    omega
set_option maxHeartbeats 4000000 in
theorem zm_M_extension_64 {z : zh_S} {r : Int64} (n : Nat) : ∀ (s0 : zh_S) (a0 : Nat) (i4 : Int32) (j6 : Int64) (i8 : Int32), zb_M_extension_64 n s0 a0 i4 j6 i8 = some (r, z) → zh_N s0 ≤ zh_N z ∧ zh_M s0 ≤ zh_M z := by
  intro s0 a0 i4 j6 i8 hf
  rw [zb_M_extension_64] at hf
  obtain ⟨-, hf⟩ := zx_ck hf
  by_cases hc : (zh_I s0 a0 10) = 0
  · rw [if_pos hc] at hf
    obtain ⟨i_2, e_i_2, hf⟩ := zx_l hf
    by_cases hc : (lg_cmp j6 (1 : Int64)) = 0
    · rw [if_pos hc] at hf
      obtain ⟨s_19, hq, hf⟩ := zx_p hf
      have n_s_19 := zm_M_basic hq
      have n_z := zm_M_extension_232 n s_19 a0 i4 j6 hf
      omega
    · rw [if_neg hc] at hf
      by_cases hc : (lg_cmp j6 (2 : Int64)) = 0
      · rw [if_pos hc] at hf
        obtain ⟨a_7, -, hf⟩ := zx_p hf
        obtain ⟨j_10, s_9, hq, hf⟩ := zx_b hf
        have n_s_9 := zm_M_number hq
        obtain ⟨-, hf⟩ := zx_ck hf
        obtain ⟨s_11, e_s_11, hf⟩ := zx_l hf
        have n_s_11 := zx_muJ e_s_11
        obtain ⟨-, hf⟩ := zx_ck hf
        by_cases hc : (zh_I s_11 a0 10) = 0
        · rw [if_pos hc] at hf
          obtain ⟨a_14, -, hf⟩ := zx_p hf
          obtain ⟨-, hf⟩ := zx_ck hf
          obtain ⟨i_17, hq, hf⟩ := zx_p hf
          by_cases hc : i_17 = 0
          · rw [if_pos hc] at hf
            obtain ⟨s_18, hq, hf⟩ := zx_p hf
            have n_s_18 := zm_M_fails hq
            have n_z := zm_M_extension_232 n s_18 a0 i4 j6 hf
            omega
          · rw [if_neg hc] at hf
            have n_z := zm_M_extension_232 n s_11 a0 i4 j6 hf
            omega
        · rw [if_neg hc] at hf
          have n_z := zm_M_extension_232 n s_11 a0 i4 j6 hf
          omega
      · rw [if_neg hc] at hf
        by_cases hc : (lg_cmp j6 (3 : Int64)) = 0
        · rw [if_pos hc] at hf
          obtain ⟨s_6, hq, hf⟩ := zx_p hf
          have n_s_6 := zm_M_realm hq
          have n_z := zm_M_extension_232 n s_6 a0 i4 j6 hf
          omega
        · rw [if_neg hc] at hf
          obtain ⟨i_4, s_3, hq, hf⟩ := zx_b hf
          have n_s_3 := zm_M_head hq
          obtain ⟨-, hf⟩ := zx_ck hf
          by_cases hc : (zh_I s_3 a0 10) = 0
          · rw [if_pos hc] at hf
            have n_z := zm_M_extension_196 n s_3 a0 i4 j6 i8 a0 i_4 hf
            omega
          · rw [if_neg hc] at hf
            have n_z := zm_M_extension_196 n s_3 a0 i4 j6 i8 a0 (zh_I s_3 a0 9) hf
            omega
  · rw [if_neg hc] at hf
    obtain ⟨-, rfl⟩ := zx_r2 hf
    omega
set_option maxHeartbeats 4000000 in
theorem zm_M_extension_44 {z : zh_S} {r : Int64} (n : Nat) : ∀ (s0 : zh_S) (a0 : Nat) (i4 : Int32) (j6 : Int64), zb_M_extension_44 n s0 a0 i4 j6 = some (r, z) → zh_N s0 ≤ zh_N z ∧ zh_M s0 ≤ zh_M z := by
  intro s0 a0 i4 j6 hf
  rw [zb_M_extension_44] at hf
  obtain ⟨-, hf⟩ := zx_ck hf
  obtain ⟨i_2, hq, hf⟩ := zx_p hf
  by_cases hc : i_2 = 0
  · rw [if_pos hc] at hf
    have n_z := zm_M_extension_64 n s0 a0 i4 j6 i_2 hf
    omega
  · rw [if_neg hc] at hf
    obtain ⟨s_3, hq, hf⟩ := zx_p hf
    have n_s_3 := zm_M_truth hq
    have n_z := zm_M_extension_64 n s_3 a0 i4 j6 i_2 hf
    omega
set_option maxHeartbeats 4000000 in
theorem zm_M_extension {n : Nat} {s0 : zh_S} {a0 : Nat} {j1 : Int64} {i3 : Int32} {r : Int64} {z : zh_S} (hf : zf_M_extension n s0 a0 j1 i3 = some (r, z)) : zh_N s0 ≤ zh_N z ∧ zh_M s0 ≤ zh_M z := by
  rw [zf_M_extension] at hf
  obtain ⟨-, hf⟩ := zx_ck hf
  obtain ⟨i_3, s_1, hq, hf⟩ := zx_b hf
  have n_s_1 := zm_M_head hq
  obtain ⟨-, hf⟩ := zx_ck hf
  obtain ⟨i_5, e_i_5, hf⟩ := zx_l hf
  obtain ⟨j_7, s_6, hq, hf⟩ := zx_b hf
  have n_s_6 := zm_M_number hq
  obtain ⟨-, hf⟩ := zx_ck hf
  by_cases hc : (zh_I s_6 a0 10) = 0
  · rw [if_pos hc] at hf
    by_cases hc : 0 < (lg_cmp j_7 j1)
    · rw [if_pos hc] at hf
      have n_z := zm_M_extension_44 n s_6 a0 i_3 j_7 hf
      omega
    · rw [if_neg hc] at hf
      obtain ⟨s_9, hq, hf⟩ := zx_p hf
      have n_s_9 := zm_M_fails hq
      have n_z := zm_M_extension_44 n s_9 a0 i_3 j_7 hf
      omega
  · rw [if_neg hc] at hf
    have n_z := zm_M_extension_44 n s_6 a0 i_3 j_7 hf
    omega
set_option maxHeartbeats 4000000 in
theorem zm_M_readCertificate_227 {z : zh_S} (n : Nat) : ∀ (s0 : zh_S) (a0 : Nat) (i1 : Int32), zb_M_readCertificate_227 n s0 a0 i1 = some z → zh_N s0 ≤ zh_N z ∧ zh_M s0 ≤ zh_M z := by
  intro s0 a0 i1 hf
  rw [zb_M_readCertificate_227] at hf
  obtain ⟨-, hf⟩ := zx_ck hf
  obtain ⟨a_2, -, hf⟩ := zx_p hf
  obtain ⟨j_5, s_4, hq, hf⟩ := zx_b hf
  have n_s_4 := zm_M_number hq
  obtain ⟨-, hf⟩ := zx_ck hf
  obtain ⟨s_6, e_s_6, hf⟩ := zx_l hf
  have n_s_6 := zx_muJ e_s_6
  obtain ⟨-, hf⟩ := zx_ck hf
  obtain ⟨s_8, hq, hf⟩ := zx_p hf
  have n_s_8 := zm_M_done hq
  obtain ⟨-, hf⟩ := zx_ck hf
  obtain ⟨s_11, hq, hf⟩ := zx_p hf
  have n_s_11 := zm_M_done hq
  obtain rfl := zx_r1 hf
  omega
set_option maxHeartbeats 4000000 in
theorem zm_M_readCertificate_200 {z : zh_S} (n : Nat) : ∀ (s0 : zh_S) (a0 : Nat) (i1 : Int32) (i2 : Int32) (i3 : Int32) (i4 : Int32), zb_M_readCertificate_200 n s0 a0 i1 i2 i3 i4 = some z → zh_N s0 ≤ zh_N z ∧ zh_M s0 ≤ zh_M z := by
  intro s0 a0 i1 i2 i3 i4 hf
  rw [zb_M_readCertificate_200] at hf
  obtain ⟨-, hf⟩ := zx_ck hf
  obtain ⟨s_1, hq, hf⟩ := zx_p hf
  have n_s_1 := zm_M_done hq
  obtain ⟨-, hf⟩ := zx_ck hf
  by_cases hc : (zh_I s_1 a0 10) = 0
  · rw [if_pos hc] at hf
    obtain ⟨a_4, -, hf⟩ := zx_p hf
    obtain ⟨i_6, hq, hf⟩ := zx_p hf
    obtain ⟨-, hf⟩ := zx_ck hf
    obtain ⟨s_7, e_s_7, hf⟩ := zx_l hf
    have n_s_7 := zx_muJ e_s_7
    have n_z := zm_M_readCertificate_227 n s_7 a0 i1 hf
    omega
  · rw [if_neg hc] at hf
    have n_z := zm_M_readCertificate_227 n s_1 a0 i1 hf
    omega
set_option maxHeartbeats 4000000 in
theorem zm_M_readCertificate_170 {z : zh_S} (n : Nat) (k : Nat) : ∀ (s0 : zh_S) (a0 : Nat) (i1 : Int32) (i2 : Int32) (i3 : Int32) (i4 : Int32) (i5 : Int32) (j6 : Int64), zl_M_readCertificate_170 n k s0 a0 i1 i2 i3 i4 i5 j6 = some z → zh_N s0 ≤ zh_N z ∧ zh_M s0 ≤ zh_M z := by
  induction k with
  | zero => intro s0 a0 i1 i2 i3 i4 i5 j6 hf; cases hf
  | succ k ih =>
    intro s0 a0 i1 i2 i3 i4 i5 j6 hf
    rw [zl_M_readCertificate_170] at hf
    obtain ⟨-, hf⟩ := zx_ck hf
    obtain ⟨i_2, hq, hf⟩ := zx_p hf
    by_cases hc : i_2 = 0
    · rw [if_pos hc] at hf
      obtain ⟨s_3, hq, hf⟩ := zx_p hf
      have n_s_3 := zm_M_done hq
      have n_z := zm_M_readCertificate_200 n s_3 a0 i1 i2 i3 i4 hf
      omega
    · rw [if_neg hc] at hf
      obtain ⟨j_5, s_4, hq, hf⟩ := zx_b hf
      have n_s_4 := zm_M_extension hq
      have n_z := ih s_4 a0 i1 i2 i3 i4 i5 j_5 hf
      omega
set_option maxHeartbeats 4000000 in
theorem zm_M_readCertificate_2 {z : zh_S} (n : Nat) (k : Nat) : ∀ (s0 : zh_S) (a0 : Nat) (i1 : Int32), zl_M_readCertificate_2 n k s0 a0 i1 = some z → zh_N s0 ≤ zh_N z ∧ zh_M s0 ≤ zh_M z := by
  induction k with
  | zero => intro s0 a0 i1 hf; cases hf
  | succ k ih =>
    intro s0 a0 i1 hf
    rw [zl_M_readCertificate_2] at hf
    by_cases hc : (15 : Int32) ≤ i1
    · rw [if_pos hc] at hf
      obtain ⟨-, hf⟩ := zx_ck hf
      obtain ⟨a_2, -, hf⟩ := zx_p hf
      obtain ⟨-, hf⟩ := zx_ck hf
      obtain ⟨s_4, e_s_4, hf⟩ := zx_l hf
      have n_s_4 := zx_muJ e_s_4
      obtain ⟨-, hf⟩ := zx_ck hf
      obtain ⟨i_8, s_7, hq, hf⟩ := zx_b hf
      have n_s_7 := zm_M_head hq
      obtain ⟨-, hf⟩ := zx_ck hf
      obtain ⟨i_10, e_i_10, hf⟩ := zx_l hf
      obtain ⟨i_12, s_11, hq, hf⟩ := zx_b hf
      have n_s_11 := zm_M_head hq
      obtain ⟨-, hf⟩ := zx_ck hf
      obtain ⟨a_14, -, hf⟩ := zx_p hf
      obtain ⟨j_17, s_16, hq, hf⟩ := zx_b hf
      have n_s_16 := zm_M_number hq
      obtain ⟨-, hf⟩ := zx_ck hf
      obtain ⟨s_18, e_s_18, hf⟩ := zx_l hf
      have n_s_18 := zx_muJ e_s_18
      obtain ⟨-, hf⟩ := zx_ck hf
      obtain ⟨a_21, -, hf⟩ := zx_p hf
      obtain ⟨j_24, s_23, hq, hf⟩ := zx_b hf
      have n_s_23 := zm_M_title hq
      obtain ⟨-, hf⟩ := zx_ck hf
      obtain ⟨s_25, e_s_25, hf⟩ := zx_l hf
      have n_s_25 := zx_muJ e_s_25
      obtain ⟨-, hf⟩ := zx_ck hf
      obtain ⟨a_28, -, hf⟩ := zx_p hf
      obtain ⟨j_31, s_30, hq, hf⟩ := zx_b hf
      have n_s_30 := zm_M_number hq
      obtain ⟨-, hf⟩ := zx_ck hf
      obtain ⟨s_32, e_s_32, hf⟩ := zx_l hf
      have n_s_32 := zx_muJ e_s_32
      obtain ⟨-, hf⟩ := zx_ck hf
      obtain ⟨a_35, -, hf⟩ := zx_p hf
      obtain ⟨j_38, s_37, hq, hf⟩ := zx_b hf
      have n_s_37 := zm_M_number hq
      obtain ⟨-, hf⟩ := zx_ck hf
      obtain ⟨s_39, e_s_39, hf⟩ := zx_l hf
      have n_s_39 := zx_muJ e_s_39
      obtain ⟨-, hf⟩ := zx_ck hf
      obtain ⟨a_42, -, hf⟩ := zx_p hf
      obtain ⟨j_45, s_44, hq, hf⟩ := zx_b hf
      have n_s_44 := zm_M_title hq
      obtain ⟨-, hf⟩ := zx_ck hf
      obtain ⟨s_46, e_s_46, hf⟩ := zx_l hf
      have n_s_46 := zx_muJ e_s_46
      obtain ⟨-, hf⟩ := zx_ck hf
      obtain ⟨a_49, -, hf⟩ := zx_p hf
      obtain ⟨j_52, s_51, hq, hf⟩ := zx_b hf
      have n_s_51 := zm_M_number hq
      obtain ⟨-, hf⟩ := zx_ck hf
      obtain ⟨s_53, e_s_53, hf⟩ := zx_l hf
      have n_s_53 := zx_muJ e_s_53
      obtain ⟨-, hf⟩ := zx_ck hf
      obtain ⟨a_56, -, hf⟩ := zx_p hf
      obtain ⟨j_59, s_58, hq, hf⟩ := zx_b hf
      have n_s_58 := zm_M_number hq
      obtain ⟨-, hf⟩ := zx_ck hf
      obtain ⟨s_60, e_s_60, hf⟩ := zx_l hf
      have n_s_60 := zx_muJ e_s_60
      obtain ⟨-, hf⟩ := zx_ck hf
      obtain ⟨i_63, hq, hf⟩ := zx_p hf
      by_cases hc : i_63 = 0
      · rw [if_pos hc] at hf
        have n_z := zm_M_readCertificate_200 n s_60 a0 i_8 i_10 i_12 i_12 hf
        omega
      · rw [if_neg hc] at hf
        obtain ⟨i_65, s_64, hq, hf⟩ := zx_b hf
        have n_s_64 := zm_M_head hq
        obtain ⟨-, hf⟩ := zx_ck hf
        obtain ⟨j_68, s_66, hq, hf⟩ := zx_b hf
        have n_s_66 := zm_M_extension hq
        have n_z := zm_M_readCertificate_170 n n s_66 a0 i_8 i_10 i_12 i_12 i_65 j_68 hf
        omega
    · rw [if_neg hc] at hf
      obtain ⟨-, hf⟩ := zx_ck hf
      obtain ⟨a_70, -, hf⟩ := zx_p hf
      obtain ⟨-, hf⟩ := zx_ck hf
      obtain ⟨s_72, e_s_72, hf⟩ := zx_l hf
      have n_s_72 := zx_muJ e_s_72
      obtain ⟨i_74, e_i_74, hf⟩ := zx_l hf
      have n_z := ih s_72 a0 i_74 hf
      omega
set_option maxHeartbeats 4000000 in
theorem zm_M_readCertificate {n : Nat} {s0 : zh_S} {a0 : Nat} {z : zh_S} (hf : zf_M_readCertificate n s0 a0 = some z) : zh_N s0 ≤ zh_N z ∧ zh_M s0 ≤ zh_M z := by
  rw [zf_M_readCertificate] at hf
  have n_z := zm_M_readCertificate_2 n n s0 a0 (0 : Int32) hf
  omega
set_option maxHeartbeats 4000000 in
theorem zm_M_check {n : Nat} {s0 : zh_S} {a0 : Nat} {i1 : Int32} {r : Int32} {z : zh_S} (hf : zf_M_check n s0 a0 i1 = some (r, z)) : zh_N s0 ≤ zh_N z ∧ zh_M s0 ≤ zh_M z := by
  rw [zf_M_check] at hf
  obtain ⟨-, hf⟩ := zx_ck hf
  obtain ⟨s_1, e_s_1, hf⟩ := zx_l hf
  have n_s_1 := zx_muI e_s_1
  obtain ⟨s_3, e_s_3, hf⟩ := zx_l hf
  have n_s_3 := zx_muI e_s_3
  by_cases hc : i1 = 0
  · rw [if_pos hc] at hf
    obtain ⟨s_4, hq, hf⟩ := zx_p hf
    have n_s_4 := zm_M_readList hq
    obtain ⟨-, hf⟩ := zx_ck hf
    obtain ⟨-, rfl⟩ := zx_r2 hf
    omega
  · rw [if_neg hc] at hf
    obtain ⟨s_6, hq, hf⟩ := zx_p hf
    have n_s_6 := zm_M_readCertificate hq
    obtain ⟨-, hf⟩ := zx_ck hf
    obtain ⟨-, rfl⟩ := zx_r2 hf
    omega
set_option maxHeartbeats 4000000 in
theorem zm_M_storeList_108 {z : zh_S} {r : Int32} (n : Nat) (k : Nat) : ∀ (s0 : zh_S) (a0 : Nat) (i1 : Int32) (i2 : Int32), zl_M_storeList_108 n k s0 a0 i1 i2 = some (r, z) → zh_N s0 ≤ zh_N z ∧ zh_M s0 ≤ zh_M z := by
  induction k with
  | zero => intro s0 a0 i1 i2 hf; cases hf
  | succ k ih =>
    intro s0 a0 i1 i2 hf
    rw [zl_M_storeList_108] at hf
    obtain ⟨-, hf⟩ := zx_ck hf
    by_cases hc : (zh_I s0 a0 12) ≤ i2
    · rw [if_pos hc] at hf
      obtain ⟨s_2, e_s_2, hf⟩ := zx_l hf
      have n_s_2 := zx_muI e_s_2
      obtain ⟨-, rfl⟩ := zx_r2 hf
      omega
    · rw [if_neg hc] at hf
      obtain ⟨a_3, -, hf⟩ := zx_p hf
      obtain ⟨a_5, -, hf⟩ := zx_p hf
      obtain ⟨-, hf⟩ := zx_ck hf
      obtain ⟨-, hf⟩ := zx_ck hf
      obtain ⟨s_8, e_s_8, hf⟩ := zx_l hf
      have n_s_8 := zx_muJ e_s_8
      obtain ⟨-, hf⟩ := zx_ck hf
      obtain ⟨a_11, -, hf⟩ := zx_p hf
      obtain ⟨a_13, -, hf⟩ := zx_p hf
      obtain ⟨-, hf⟩ := zx_ck hf
      obtain ⟨-, hf⟩ := zx_ck hf
      obtain ⟨s_16, e_s_16, hf⟩ := zx_l hf
      have n_s_16 := zx_muJ e_s_16
      obtain ⟨i_18, e_i_18, hf⟩ := zx_l hf
      have n_z := ih s_16 a0 i1 i_18 hf
      omega
set_option maxHeartbeats 4000000 in
theorem zm_M_storeList {n : Nat} {s0 : zh_S} {a0 : Nat} {r : Int32} {z : zh_S} (hf : zf_M_storeList n s0 a0 = some (r, z)) : zh_N s0 ≤ zh_N z ∧ zh_M s0 ≤ zh_M z := by
  rw [zf_M_storeList] at hf
  obtain ⟨-, hf⟩ := zx_ck hf
  obtain ⟨i_2, e_i_2, hf⟩ := zx_l hf
  obtain ⟨a_3, -, hf⟩ := zx_p hf
  obtain ⟨a_5, -, hf⟩ := zx_p hf
  obtain ⟨-, hf⟩ := zx_ck hf
  obtain ⟨-, hf⟩ := zx_ck hf
  obtain ⟨s_8, e_s_8, hf⟩ := zx_l hf
  have n_s_8 := zx_muJ e_s_8
  obtain ⟨-, hf⟩ := zx_ck hf
  obtain ⟨a_11, -, hf⟩ := zx_p hf
  obtain ⟨a_13, -, hf⟩ := zx_p hf
  obtain ⟨-, hf⟩ := zx_ck hf
  obtain ⟨-, hf⟩ := zx_ck hf
  obtain ⟨s_16, e_s_16, hf⟩ := zx_l hf
  have n_s_16 := zx_muJ e_s_16
  obtain ⟨-, hf⟩ := zx_ck hf
  obtain ⟨a_19, -, hf⟩ := zx_p hf
  obtain ⟨a_21, -, hf⟩ := zx_p hf
  obtain ⟨-, hf⟩ := zx_ck hf
  obtain ⟨-, hf⟩ := zx_ck hf
  obtain ⟨s_24, e_s_24, hf⟩ := zx_l hf
  have n_s_24 := zx_muJ e_s_24
  obtain ⟨-, hf⟩ := zx_ck hf
  obtain ⟨a_27, -, hf⟩ := zx_p hf
  obtain ⟨-, hf⟩ := zx_ck hf
  obtain ⟨s_29, e_s_29, hf⟩ := zx_l hf
  have n_s_29 := zx_muJ e_s_29
  obtain ⟨-, hf⟩ := zx_ck hf
  obtain ⟨a_32, -, hf⟩ := zx_p hf
  obtain ⟨a_34, -, hf⟩ := zx_p hf
  obtain ⟨-, hf⟩ := zx_ck hf
  obtain ⟨-, hf⟩ := zx_ck hf
  obtain ⟨s_37, e_s_37, hf⟩ := zx_l hf
  have n_s_37 := zx_muJ e_s_37
  obtain ⟨-, hf⟩ := zx_ck hf
  obtain ⟨a_40, -, hf⟩ := zx_p hf
  obtain ⟨a_42, -, hf⟩ := zx_p hf
  obtain ⟨-, hf⟩ := zx_ck hf
  obtain ⟨-, hf⟩ := zx_ck hf
  obtain ⟨s_45, e_s_45, hf⟩ := zx_l hf
  have n_s_45 := zx_muJ e_s_45
  have n_z := zm_M_storeList_108 n n s_45 a0 i_2 (0 : Int32) hf
  omega
set_option maxHeartbeats 4000000 in
theorem zm_M_store_131 {z : zh_S} {r : Int32} (n : Nat) : ∀ (s0 : zh_S) (a0 : Nat) (at0 : Nat) (it1 : Int32) (jt2 : Int64) (jt3 : Int64), zb_M_store_131 n s0 a0 at0 it1 jt2 jt3 = some (r, z) → zh_N s0 ≤ zh_N z ∧ zh_M s0 ≤ zh_M z := by
  intro s0 a0 at0 it1 jt2 jt3 hf
  rw [zb_M_store_131] at hf
  obtain ⟨-, hf⟩ := zx_ck hf
  obtain ⟨s_1, e_s_1, hf⟩ := zx_l hf
  have n_s_1 := zx_muJ e_s_1
  obtain ⟨-, hf⟩ := zx_ck hf
  obtain ⟨s_4, e_s_4, hf⟩ := zx_l hf
  have n_s_4 := zx_muI e_s_4
  obtain ⟨-, rfl⟩ := zx_r2 hf
  omega
set_option maxHeartbeats 4000000 in
theorem zm_M_store_69 {z : zh_S} {r : Int32} (n : Nat) (k : Nat) : ∀ (s0 : zh_S) (a0 : Nat) (i1 : Int32) (i2 : Int32), zl_M_store_69 n k s0 a0 i1 i2 = some (r, z) → zh_N s0 ≤ zh_N z ∧ zh_M s0 ≤ zh_M z := by
  induction k with
  | zero => intro s0 a0 i1 i2 hf; cases hf
  | succ k ih =>
    intro s0 a0 i1 i2 hf
    rw [zl_M_store_69] at hf
    by_cases hc : (15 : Int32) ≤ i2
    · rw [if_pos hc] at hf
      obtain ⟨-, hf⟩ := zx_ck hf
      obtain ⟨a_2, -, hf⟩ := zx_p hf
      obtain ⟨a_4, -, hf⟩ := zx_p hf
      obtain ⟨-, hf⟩ := zx_ck hf
      by_cases hc : i1 = 0
      · rw [if_pos hc] at hf
        have n_z := zm_M_store_131 n s0 a0 a_2 (((15 : Int32) * (zh_I s0 a0 15)) + (14 : Int32)) (zh_J s0 a_4 ((14 : Int32).toNatClampNeg)) (1 : Int64) hf
        omega
      · rw [if_neg hc] at hf
        have n_z := zm_M_store_131 n s0 a0 a_2 (((15 : Int32) * (zh_I s0 a0 15)) + (14 : Int32)) (zh_J s0 a_4 ((14 : Int32).toNatClampNeg)) (0 : Int64) hf
        omega
    · rw [if_neg hc] at hf
      obtain ⟨-, hf⟩ := zx_ck hf
      obtain ⟨a_8, -, hf⟩ := zx_p hf
      obtain ⟨a_10, -, hf⟩ := zx_p hf
      obtain ⟨-, hf⟩ := zx_ck hf
      obtain ⟨-, hf⟩ := zx_ck hf
      obtain ⟨s_13, e_s_13, hf⟩ := zx_l hf
      have n_s_13 := zx_muJ e_s_13
      obtain ⟨i_15, e_i_15, hf⟩ := zx_l hf
      have n_z := ih s_13 a0 i1 i_15 hf
      omega
set_option maxHeartbeats 4000000 in
theorem zm_M_store_48 {z : zh_S} {r : Int32} (n : Nat) : ∀ (s0 : zh_S) (a0 : Nat) (i1 : Int32) (at0 : Nat) (it1 : Int32), zb_M_store_48 n s0 a0 i1 at0 it1 = some (r, z) → zh_N s0 ≤ zh_N z ∧ zh_M s0 ≤ zh_M z := by
  intro s0 a0 i1 at0 it1 hf
  rw [zb_M_store_48] at hf
  obtain ⟨-, hf⟩ := zx_ck hf
  obtain ⟨i_3, s_1, hq, hf⟩ := zx_b hf
  have n_s_1 := zm_M_check hq
  by_cases hc : i_3 = 0
  · rw [if_pos hc] at hf
    by_cases hc : i1 = (2 : Int32)
    · rw [if_pos hc] at hf
      obtain ⟨-, hf⟩ := zx_ck hf
      obtain ⟨i_6, s_4, hq, hf⟩ := zx_b hf
      have n_s_4 := zm_M_storeList hq
      obtain ⟨-, rfl⟩ := zx_r2 hf
      omega
    · rw [if_neg hc] at hf
      have n_z := zm_M_store_69 n n s_1 a0 i1 (0 : Int32) hf
      omega
  · rw [if_neg hc] at hf
    obtain ⟨-, rfl⟩ := zx_r2 hf
    omega
set_option maxHeartbeats 4000000 in
theorem zm_M_store_37 {z : zh_S} {r : Int32} (n : Nat) : ∀ (s0 : zh_S) (a0 : Nat) (i1 : Int32), zb_M_store_37 n s0 a0 i1 = some (r, z) → zh_N s0 ≤ zh_N z ∧ zh_M s0 ≤ zh_M z := by
  intro s0 a0 i1 hf
  rw [zb_M_store_37] at hf
  by_cases hc : (2 : Int32) ≤ i1
  · rw [if_pos hc] at hf
    have n_z := zm_M_store_48 n s0 a0 i1 a0 (0 : Int32) hf
    omega
  · rw [if_neg hc] at hf
    have n_z := zm_M_store_48 n s0 a0 i1 a0 (1 : Int32) hf
    omega
set_option maxHeartbeats 4000000 in
theorem zm_M_store {n : Nat} {s0 : zh_S} {a0 : Nat} {i1 : Int32} {r : Int32} {z : zh_S} (hf : zf_M_store n s0 a0 i1 = some (r, z)) : zh_N s0 ≤ zh_N z ∧ zh_M s0 ≤ zh_M z := by
  rw [zf_M_store] at hf
  by_cases hc : i1 < 0
  · rw [if_pos hc] at hf
    obtain ⟨-, rfl⟩ := zx_r2 hf
    omega
  · rw [if_neg hc] at hf
    by_cases hc : (2 : Int32) < i1
    · rw [if_pos hc] at hf
      obtain ⟨-, rfl⟩ := zx_r2 hf
      omega
    · rw [if_neg hc] at hf
      by_cases hc : i1 = (2 : Int32)
      · rw [if_pos hc] at hf
        obtain ⟨-, hf⟩ := zx_ck hf
        by_cases hc : (zh_I s0 a0 17) = (6 : Int32)
        · rw [if_pos hc] at hf
          obtain ⟨-, rfl⟩ := zx_r2 hf
          omega
        · rw [if_neg hc] at hf
          have n_z := zm_M_store_37 n s0 a0 i1 hf
          omega
      · rw [if_neg hc] at hf
        obtain ⟨-, hf⟩ := zx_ck hf
        by_cases hc : (zh_I s0 a0 15) = (12 : Int32)
        · rw [if_pos hc] at hf
          obtain ⟨-, rfl⟩ := zx_r2 hf
          omega
        · rw [if_neg hc] at hf
          have n_z := zm_M_store_37 n s0 a0 i1 hf
          omega
set_option maxHeartbeats 4000000 in
theorem zm_V_check {n : Nat} {s0 : zh_S} {a0 : Nat} {i1 : Int32} {r : Int32} {z : zh_S} (hf : zf_V_check n s0 a0 i1 = some (r, z)) : zh_N s0 ≤ zh_N z ∧ zh_M s0 ≤ zh_M z := by
  rw [zf_V_check] at hf
  obtain ⟨a_2, e_a_2, hf⟩ := zx_l hf
  obtain ⟨s_1, e_s_1, hf⟩ := zx_l hf
  have n_s_1 := zx_mnew e_s_1
  obtain ⟨-, hf⟩ := zx_ck hf
  obtain ⟨a_4, -, hf⟩ := zx_p hf
  obtain ⟨s_6, hq, hf⟩ := zx_p hf
  have n_s_6 := zm_Reader_init hq
  by_cases hc : i1 = 0
  · rw [if_pos hc] at hf
    obtain ⟨-, hf⟩ := zx_ck hf
    obtain ⟨a_8, -, hf⟩ := zx_p hf
    obtain ⟨-, hf⟩ := zx_ck hf
    obtain ⟨a_11, hq, hf⟩ := zx_p hf
    obtain ⟨-, hf⟩ := zx_ck hf
    obtain ⟨i_14, s_12, hq, hf⟩ := zx_b hf
    have n_s_12 := zm_Reader_readList hq
    obtain ⟨-, rfl⟩ := zx_r2 hf
    omega
  · rw [if_neg hc] at hf
    obtain ⟨-, hf⟩ := zx_ck hf
    obtain ⟨a_16, -, hf⟩ := zx_p hf
    obtain ⟨-, hf⟩ := zx_ck hf
    obtain ⟨a_19, hq, hf⟩ := zx_p hf
    obtain ⟨-, hf⟩ := zx_ck hf
    obtain ⟨i_22, s_20, hq, hf⟩ := zx_b hf
    have n_s_20 := zm_Reader_readCertificate hq
    obtain ⟨-, rfl⟩ := zx_r2 hf
    omega
set_option maxHeartbeats 4000000 in
theorem zm_Draft_empty {n : Nat} {s0 : zh_S} {a0 : Nat} {z : zh_S} (hf : zf_Draft_empty n s0 a0 = some z) : zh_N s0 ≤ zh_N z ∧ zh_M s0 ≤ zh_M z := by
  rw [zf_Draft_empty] at hf
  obtain ⟨-, hf⟩ := zx_ck hf
  obtain ⟨s_1, e_s_1, hf⟩ := zx_l hf
  have n_s_1 := zx_muI e_s_1
  obtain rfl := zx_r1 hf
  omega
set_option maxHeartbeats 4000000 in
theorem zm_Draft_append {n : Nat} {s0 : zh_S} {a0 : Nat} {i1 : Int32} {r : Int32} {z : zh_S} (hf : zf_Draft_append n s0 a0 i1 = some (r, z)) : zh_N s0 ≤ zh_N z ∧ zh_M s0 ≤ zh_M z := by
  rw [zf_Draft_append] at hf
  obtain ⟨i_1, hq, hf⟩ := zx_p hf
  by_cases hc : i_1 = 0
  · rw [if_pos hc] at hf
    obtain ⟨-, rfl⟩ := zx_r2 hf
    omega
  · rw [if_neg hc] at hf
    obtain ⟨-, hf⟩ := zx_ck hf
    by_cases hc : (zh_I s0 a0 1) < (200 : Int32)
    · rw [if_pos hc] at hf
      obtain ⟨a_3, -, hf⟩ := zx_p hf
      obtain ⟨-, hf⟩ := zx_ck hf
      obtain ⟨s_5, e_s_5, hf⟩ := zx_l hf
      have n_s_5 := zx_muI e_s_5
      obtain ⟨-, hf⟩ := zx_ck hf
      obtain ⟨s_8, e_s_8, hf⟩ := zx_l hf
      have n_s_8 := zx_muI e_s_8
      obtain ⟨-, rfl⟩ := zx_r2 hf
      omega
    · rw [if_neg hc] at hf
      obtain ⟨-, rfl⟩ := zx_r2 hf
      omega
set_option maxHeartbeats 4000000 in
theorem zm_Draft_appendName_18 {z : zh_S} (n : Nat) (k : Nat) : ∀ (s0 : zh_S) (a0 : Nat) (j4 : Int64), zl_Draft_appendName_18 n k s0 a0 j4 = some z → zh_N s0 ≤ zh_N z ∧ zh_M s0 ≤ zh_M z := by
  induction k with
  | zero => intro s0 a0 j4 hf; cases hf
  | succ k ih =>
    intro s0 a0 j4 hf
    rw [zl_Draft_appendName_18] at hf
    by_cases hc : (lg_cmp j4 (0 : Int64)) = 0
    · rw [if_pos hc] at hf
      obtain rfl := zx_r1 hf
      omega
    · rw [if_neg hc] at hf
      obtain ⟨i_1, hq, hf⟩ := zx_p hf
      obtain ⟨-, hf⟩ := zx_ck hf
      obtain ⟨i_4, s_2, hq, hf⟩ := zx_b hf
      have n_s_2 := zm_Draft_append hq
      obtain ⟨j_5, e_j_5, hf⟩ := zx_l hf
      have n_z := ih s_2 a0 j_5 hf
      omega
set_option maxHeartbeats 4000000 in
theorem zm_Draft_appendName {n : Nat} {s0 : zh_S} {a0 : Nat} {i1 : Int32} {j2 : Int64} {z : zh_S} (hf : zf_Draft_appendName n s0 a0 i1 j2 = some z) : zh_N s0 ≤ zh_N z ∧ zh_M s0 ≤ zh_M z := by
  rw [zf_Draft_appendName] at hf
  obtain ⟨-, hf⟩ := zx_ck hf
  obtain ⟨i_3, s_1, hq, hf⟩ := zx_b hf
  have n_s_1 := zm_Draft_append hq
  obtain ⟨i_4, hq, hf⟩ := zx_p hf
  obtain ⟨-, hf⟩ := zx_ck hf
  obtain ⟨i_7, s_5, hq, hf⟩ := zx_b hf
  have n_s_5 := zm_Draft_append hq
  have n_z := zm_Draft_appendName_18 n n s_5 a0 j2 hf
  omega
set_option maxHeartbeats 4000000 in
theorem zm_Draft_appendInteger_44 {z : zh_S} (n : Nat) (k : Nat) : ∀ (s0 : zh_S) (a0 : Nat) (j1 : Int64) (i4 : Int32), zl_Draft_appendInteger_44 n k s0 a0 j1 i4 = some z → zh_N s0 ≤ zh_N z ∧ zh_M s0 ≤ zh_M z := by
  induction k with
  | zero => intro s0 a0 j1 i4 hf; cases hf
  | succ k ih =>
    intro s0 a0 j1 i4 hf
    rw [zl_Draft_appendInteger_44] at hf
    by_cases hc : i4 < 0
    · rw [if_pos hc] at hf
      obtain rfl := zx_r1 hf
      omega
    · rw [if_neg hc] at hf
      obtain ⟨-, hf⟩ := zx_ck hf
      obtain ⟨i_3, s_1, hq, hf⟩ := zx_b hf
      have n_s_1 := zm_Draft_append hq
      obtain ⟨i_4, e_i_4, hf⟩ := zx_l hf
      have n_z := ih s_1 a0 j1 i_4 hf
      omega
set_option maxHeartbeats 4000000 in
theorem zm_Draft_appendInteger_27 {z : zh_S} (n : Nat) : ∀ (s0 : zh_S) (a0 : Nat) (j1 : Int64) (i3 : Int32), zb_Draft_appendInteger_27 n s0 a0 j1 i3 = some z → zh_N s0 ≤ zh_N z ∧ zh_M s0 ≤ zh_M z := by
  intro s0 a0 j1 i3 hf
  rw [zb_Draft_appendInteger_27] at hf
  obtain ⟨-, hf⟩ := zx_ck hf
  obtain ⟨i_3, s_1, hq, hf⟩ := zx_b hf
  have n_s_1 := zm_Draft_append hq
  obtain ⟨-, hf⟩ := zx_ck hf
  obtain ⟨i_6, s_4, hq, hf⟩ := zx_b hf
  have n_s_4 := zm_Draft_append hq
  obtain ⟨i_7, e_i_7, hf⟩ := zx_l hf
  have n_z := zm_Draft_appendInteger_44 n n s_4 a0 j1 i_7 hf
  omega
set_option maxHeartbeats 4000000 in
theorem zm_Draft_appendInteger_2 {z : zh_S} (n : Nat) (k : Nat) : ∀ (s0 : zh_S) (a0 : Nat) (j1 : Int64) (i3 : Int32), zl_Draft_appendInteger_2 n k s0 a0 j1 i3 = some z → zh_N s0 ≤ zh_N z ∧ zh_M s0 ≤ zh_M z := by
  induction k with
  | zero => intro s0 a0 j1 i3 hf; cases hf
  | succ k ih =>
    intro s0 a0 j1 i3 hf
    rw [zl_Draft_appendInteger_2] at hf
    by_cases hc : (8 : Int32) ≤ i3
    · rw [if_pos hc] at hf
      have n_z := zm_Draft_appendInteger_27 n s0 a0 j1 i3 hf
      omega
    · rw [if_neg hc] at hf
      by_cases hc : (lg_cmp (zu_l j1 (((8 : Int32) * i3) - (1 : Int32))) (0 : Int64)) = 0
      · rw [if_pos hc] at hf
        have n_z := zm_Draft_appendInteger_27 n s0 a0 j1 i3 hf
        omega
      · rw [if_neg hc] at hf
        obtain ⟨i_1, e_i_1, hf⟩ := zx_l hf
        have n_z := ih s0 a0 j1 i_1 hf
        omega
set_option maxHeartbeats 4000000 in
theorem zm_Draft_appendInteger {n : Nat} {s0 : zh_S} {a0 : Nat} {j1 : Int64} {z : zh_S} (hf : zf_Draft_appendInteger n s0 a0 j1 = some z) : zh_N s0 ≤ zh_N z ∧ zh_M s0 ≤ zh_M z := by
  rw [zf_Draft_appendInteger] at hf
  have n_z := zm_Draft_appendInteger_2 n n s0 a0 j1 (1 : Int32) hf
  omega
set_option maxHeartbeats 4000000 in
theorem zm_Draft_wrap_94 {z : zh_S} (n : Nat) : ∀ (s0 : zh_S) (a0 : Nat) (i1 : Int32) (i3 : Int32) (i4 : Int32), zb_Draft_wrap_94 n s0 a0 i1 i3 i4 = some z → zh_N s0 ≤ zh_N z ∧ zh_M s0 ≤ zh_M z := by
  intro s0 a0 i1 i3 i4 hf
  rw [zb_Draft_wrap_94] at hf
  obtain ⟨-, hf⟩ := zx_ck hf
  obtain ⟨a_2, -, hf⟩ := zx_p hf
  obtain ⟨-, hf⟩ := zx_ck hf
  obtain ⟨s_4, e_s_4, hf⟩ := zx_l hf
  have n_s_4 := zx_muI e_s_4
  obtain rfl := zx_r1 hf
  omega
set_option maxHeartbeats 4000000 in
theorem zm_Draft_wrap_18 {z : zh_S} (n : Nat) : ∀ (s0 : zh_S) (a0 : Nat) (i1 : Int32) (i2 : Int32) (i3 : Int32) (it0 : Int32), zb_Draft_wrap_18 n s0 a0 i1 i2 i3 it0 = some z → zh_N s0 ≤ zh_N z ∧ zh_M s0 ≤ zh_M z := by
  intro s0 a0 i1 i2 i3 it0 hf
  rw [zb_Draft_wrap_18] at hf
  by_cases hc : i1 < 0
  · rw [if_pos hc] at hf
    obtain rfl := zx_r1 hf
    omega
  · rw [if_neg hc] at hf
    by_cases hc : i3 < 0
    · rw [if_pos hc] at hf
      obtain rfl := zx_r1 hf
      omega
    · rw [if_neg hc] at hf
      obtain ⟨-, hf⟩ := zx_ck hf
      by_cases hc : ((zh_I s0 a0 1) + it0) ≤ (200 : Int32)
      · rw [if_pos hc] at hf
        obtain ⟨a_2, -, hf⟩ := zx_p hf
        obtain ⟨a_4, -, hf⟩ := zx_p hf
        obtain ⟨-, hf⟩ := zx_ck hf
        obtain ⟨s_6, e_s_6, hf⟩ := zx_l hf
        have n_s_6 := zx_mcpy e_s_6
        obtain ⟨-, hf⟩ := zx_ck hf
        obtain ⟨s_9, e_s_9, hf⟩ := zx_l hf
        have n_s_9 := zx_muI e_s_9
        obtain ⟨a_10, -, hf⟩ := zx_p hf
        obtain ⟨-, hf⟩ := zx_ck hf
        obtain ⟨s_12, e_s_12, hf⟩ := zx_l hf
        have n_s_12 := zx_muI e_s_12
        by_cases hc : it0 = (3 : Int32)
        · rw [if_pos hc] at hf
          obtain ⟨-, hf⟩ := zx_ck hf
          obtain ⟨a_15, -, hf⟩ := zx_p hf
          obtain ⟨-, hf⟩ := zx_ck hf
          obtain ⟨s_17, e_s_17, hf⟩ := zx_l hf
          have n_s_17 := zx_muI e_s_17
          have n_z := zm_Draft_wrap_94 n s_17 a0 i1 i3 it0 hf
          omega
        · rw [if_neg hc] at hf
          have n_z := zm_Draft_wrap_94 n s_12 a0 i1 i3 it0 hf
          omega
      · rw [if_neg hc] at hf
        obtain rfl := zx_r1 hf
        omega
set_option maxHeartbeats 4000000 in
theorem zm_Draft_wrap {n : Nat} {s0 : zh_S} {a0 : Nat} {i1 : Int32} {i2 : Int32} {z : zh_S} (hf : zf_Draft_wrap n s0 a0 i1 i2 = some z) : zh_N s0 ≤ zh_N z ∧ zh_M s0 ≤ zh_M z := by
  rw [zf_Draft_wrap] at hf
  obtain ⟨-, hf⟩ := zx_ck hf
  obtain ⟨i_2, e_i_2, hf⟩ := zx_l hf
  by_cases hc : i_2 ≤ (127 : Int32)
  · rw [if_pos hc] at hf
    have n_z := zm_Draft_wrap_18 n s0 a0 i1 i2 i_2 (2 : Int32) hf
    omega
  · rw [if_neg hc] at hf
    have n_z := zm_Draft_wrap_18 n s0 a0 i1 i2 i_2 (3 : Int32) hf
    omega
set_option maxHeartbeats 4000000 in
theorem zm_Tool_finish {n : Nat} {s0 : zh_S} {a0 : Nat} {a1 : Nat} {r : Int32} {z : zh_S} (hf : zf_Tool_finish n s0 a0 a1 = some (r, z)) : zh_N s0 ≤ zh_N z ∧ zh_M s0 ≤ zh_M z := by
  rw [zf_Tool_finish] at hf
  obtain ⟨-, hf⟩ := zx_ck hf
  obtain ⟨s_1, hq, hf⟩ := zx_p hf
  have n_s_1 := zm_Draft_wrap hq
  obtain ⟨-, hf⟩ := zx_ck hf
  obtain ⟨i_4, hq, hf⟩ := zx_p hf
  obtain ⟨-, hf⟩ := zx_ck hf
  obtain ⟨a_6, -, hf⟩ := zx_p hf
  obtain ⟨-, hf⟩ := zx_ck hf
  obtain ⟨j_9, hq, hf⟩ := zx_p hf
  obtain ⟨s_10, hq, hf⟩ := zx_p hf
  have n_s_10 := zm_Draft_appendInteger hq
  obtain ⟨-, hf⟩ := zx_ck hf
  obtain ⟨s_11, hq, hf⟩ := zx_p hf
  have n_s_11 := zm_Draft_wrap hq
  obtain ⟨-, hf⟩ := zx_ck hf
  obtain ⟨-, rfl⟩ := zx_r2 hf
  omega
set_option maxHeartbeats 4000000 in
theorem zm_Tool_writeList_43 {z : zh_S} {r : Int32} (n : Nat) (k : Nat) : ∀ (s0 : zh_S) (a0 : Nat) (a1 : Nat) (i2 : Int32) (i3 : Int32), zl_Tool_writeList_43 n k s0 a0 a1 i2 i3 = some (r, z) → zh_N s0 ≤ zh_N z ∧ zh_M s0 ≤ zh_M z := by
  induction k with
  | zero => intro s0 a0 a1 i2 i3 hf; cases hf
  | succ k ih =>
    intro s0 a0 a1 i2 i3 hf
    rw [zl_Tool_writeList_43] at hf
    obtain ⟨-, hf⟩ := zx_ck hf
    by_cases hc : (zh_I s0 a0 3) ≤ i3
    · rw [if_pos hc] at hf
      obtain ⟨-, hf⟩ := zx_ck hf
      obtain ⟨s_2, hq, hf⟩ := zx_p hf
      have n_s_2 := zm_Draft_wrap hq
      obtain ⟨-, hf⟩ := zx_ck hf
      obtain ⟨i_6, s_4, hq, hf⟩ := zx_b hf
      have n_s_4 := zm_Tool_finish hq
      obtain ⟨-, rfl⟩ := zx_r2 hf
      omega
    · rw [if_neg hc] at hf
      obtain ⟨-, hf⟩ := zx_ck hf
      obtain ⟨i_8, e_i_8, hf⟩ := zx_l hf
      obtain ⟨a_9, -, hf⟩ := zx_p hf
      obtain ⟨-, hf⟩ := zx_ck hf
      obtain ⟨s_12, hq, hf⟩ := zx_p hf
      have n_s_12 := zm_Draft_appendInteger hq
      obtain ⟨-, hf⟩ := zx_ck hf
      obtain ⟨a_14, -, hf⟩ := zx_p hf
      obtain ⟨-, hf⟩ := zx_ck hf
      obtain ⟨-, hf⟩ := zx_ck hf
      obtain ⟨s_17, hq, hf⟩ := zx_p hf
      have n_s_17 := zm_Draft_appendInteger hq
      obtain ⟨-, hf⟩ := zx_ck hf
      obtain ⟨s_19, hq, hf⟩ := zx_p hf
      have n_s_19 := zm_Draft_wrap hq
      obtain ⟨i_21, e_i_21, hf⟩ := zx_l hf
      have n_z := ih s_19 a0 a1 i2 i_21 hf
      omega
set_option maxHeartbeats 4000000 in
theorem zm_Tool_writeList {n : Nat} {s0 : zh_S} {a0 : Nat} {a1 : Nat} {r : Int32} {z : zh_S} (hf : zf_Tool_writeList n s0 a0 a1 = some (r, z)) : zh_N s0 ≤ zh_N z ∧ zh_M s0 ≤ zh_M z := by
  rw [zf_Tool_writeList] at hf
  obtain ⟨-, hf⟩ := zx_ck hf
  obtain ⟨s_1, hq, hf⟩ := zx_p hf
  have n_s_1 := zm_Draft_empty hq
  obtain ⟨-, hf⟩ := zx_ck hf
  obtain ⟨a_4, -, hf⟩ := zx_p hf
  obtain ⟨-, hf⟩ := zx_ck hf
  obtain ⟨-, hf⟩ := zx_ck hf
  obtain ⟨s_7, hq, hf⟩ := zx_p hf
  have n_s_7 := zm_Draft_appendName hq
  obtain ⟨-, hf⟩ := zx_ck hf
  obtain ⟨a_10, -, hf⟩ := zx_p hf
  obtain ⟨-, hf⟩ := zx_ck hf
  obtain ⟨-, hf⟩ := zx_ck hf
  obtain ⟨s_13, hq, hf⟩ := zx_p hf
  have n_s_13 := zm_Draft_appendInteger hq
  obtain ⟨-, hf⟩ := zx_ck hf
  obtain ⟨a_16, -, hf⟩ := zx_p hf
  obtain ⟨-, hf⟩ := zx_ck hf
  obtain ⟨-, hf⟩ := zx_ck hf
  obtain ⟨s_19, hq, hf⟩ := zx_p hf
  have n_s_19 := zm_Draft_appendInteger hq
  obtain ⟨-, hf⟩ := zx_ck hf
  obtain ⟨i_22, e_i_22, hf⟩ := zx_l hf
  have n_z := zm_Tool_writeList_43 n n s_19 a0 a1 i_22 (0 : Int32) hf
  omega
set_option maxHeartbeats 4000000 in
theorem zm_V_composeList {n : Nat} {s0 : zh_S} {a0 : Nat} {r : Int32} {z : zh_S} (hf : zf_V_composeList n s0 a0 = some (r, z)) : zh_N s0 ≤ zh_N z ∧ zh_M s0 ≤ zh_M z := by
  rw [zf_V_composeList] at hf
  obtain ⟨-, hf⟩ := zx_ck hf
  obtain ⟨a_2, -, hf⟩ := zx_p hf
  obtain ⟨a_4, -, hf⟩ := zx_p hf
  obtain ⟨-, hf⟩ := zx_ck hf
  obtain ⟨i_8, s_6, hq, hf⟩ := zx_b hf
  have n_s_6 := zm_Tool_writeList hq
  obtain ⟨-, rfl⟩ := zx_r2 hf
  omega
set_option maxHeartbeats 4000000 in
theorem zm_M_add {n : Nat} {s0 : zh_S} {a0 : Nat} {i1 : Int32} {z : zh_S} (hf : zf_M_add n s0 a0 i1 = some z) : zh_N s0 ≤ zh_N z ∧ zh_M s0 ≤ zh_M z := by
  rw [zf_M_add] at hf
  obtain ⟨-, hf⟩ := zx_ck hf
  obtain ⟨a_2, -, hf⟩ := zx_p hf
  obtain ⟨-, hf⟩ := zx_ck hf
  obtain ⟨s_4, e_s_4, hf⟩ := zx_l hf
  have n_s_4 := zx_muI e_s_4
  obtain ⟨-, hf⟩ := zx_ck hf
  obtain ⟨s_7, e_s_7, hf⟩ := zx_l hf
  have n_s_7 := zx_muI e_s_7
  obtain rfl := zx_r1 hf
  omega
set_option maxHeartbeats 4000000 in
theorem zm_M_name_58 {z : zh_S} (n : Nat) (r20 : zh_S → Nat → Int64 → Int32 → Int32 → Option zh_S) (hr20 : ∀ (s0 : zh_S) (a0 : Nat) (j2 : Int64) (i4 : Int32) (i5 : Int32), r20 s0 a0 j2 i4 i5 = some z → zh_N s0 ≤ zh_N z ∧ zh_M s0 ≤ zh_M z) : ∀ (s0 : zh_S) (a0 : Nat) (j2 : Int64) (i4 : Int32) (i5 : Int32) (at0 : Nat) (it1 : Int32), zb_M_name_58 n r20 s0 a0 j2 i4 i5 at0 it1 = some z → zh_N s0 ≤ zh_N z ∧ zh_M s0 ≤ zh_M z := by
  intro s0 a0 j2 i4 i5 at0 it1 hf
  rw [zb_M_name_58] at hf
  obtain ⟨-, hf⟩ := zx_ck hf
  obtain ⟨s_1, hq, hf⟩ := zx_p hf
  have n_s_1 := zm_M_add hq
  obtain ⟨i_3, e_i_3, hf⟩ := zx_l hf
  have n_z := hr20 s_1 a0 j2 i4 i_3 hf
  omega
set_option maxHeartbeats 4000000 in
theorem zm_M_name_20 {z : zh_S} (n : Nat) (k : Nat) : ∀ (s0 : zh_S) (a0 : Nat) (j2 : Int64) (i4 : Int32) (i5 : Int32), zl_M_name_20 n k s0 a0 j2 i4 i5 = some z → zh_N s0 ≤ zh_N z ∧ zh_M s0 ≤ zh_M z := by
  induction k with
  | zero => intro s0 a0 j2 i4 i5 hf; cases hf
  | succ k ih =>
    intro s0 a0 j2 i4 i5 hf
    rw [zl_M_name_20] at hf
    by_cases hc : i4 ≤ i5
    · rw [if_pos hc] at hf
      obtain rfl := zx_r1 hf
      omega
    · rw [if_neg hc] at hf
      obtain ⟨i_1, e_i_1, hf⟩ := zx_l hf
      by_cases hc : i_1 = (27 : Int32)
      · rw [if_pos hc] at hf
        have n_z := zm_M_name_58 n _ ih s0 a0 j2 i4 i5 a0 (46 : Int32) hf
        omega
      · rw [if_neg hc] at hf
        have n_z := zm_M_name_58 n _ ih s0 a0 j2 i4 i5 a0 ((96 : Int32) + i_1) hf
        omega
set_option maxHeartbeats 4000000 in
theorem zm_M_name {n : Nat} {s0 : zh_S} {a0 : Nat} {i1 : Int32} {j2 : Int64} {z : zh_S} (hf : zf_M_name n s0 a0 i1 j2 = some z) : zh_N s0 ≤ zh_N z ∧ zh_M s0 ≤ zh_M z := by
  rw [zf_M_name] at hf
  obtain ⟨i_1, hq, hf⟩ := zx_p hf
  obtain ⟨-, hf⟩ := zx_ck hf
  obtain ⟨s_2, hq, hf⟩ := zx_p hf
  have n_s_2 := zm_M_add hq
  obtain ⟨-, hf⟩ := zx_ck hf
  obtain ⟨s_4, hq, hf⟩ := zx_p hf
  have n_s_4 := zm_M_add hq
  have n_z := zm_M_name_20 n n s_4 a0 j2 i_1 (0 : Int32) hf
  omega
set_option maxHeartbeats 4000000 in
theorem zm_M_integer_42 {z : zh_S} (n : Nat) (k : Nat) : ∀ (s0 : zh_S) (a0 : Nat) (j1 : Int64) (i4 : Int32), zl_M_integer_42 n k s0 a0 j1 i4 = some z → zh_N s0 ≤ zh_N z ∧ zh_M s0 ≤ zh_M z := by
  induction k with
  | zero => intro s0 a0 j1 i4 hf; cases hf
  | succ k ih =>
    intro s0 a0 j1 i4 hf
    rw [zl_M_integer_42] at hf
    by_cases hc : i4 < 0
    · rw [if_pos hc] at hf
      obtain rfl := zx_r1 hf
      omega
    · rw [if_neg hc] at hf
      obtain ⟨-, hf⟩ := zx_ck hf
      obtain ⟨s_1, hq, hf⟩ := zx_p hf
      have n_s_1 := zm_M_add hq
      obtain ⟨i_3, e_i_3, hf⟩ := zx_l hf
      have n_z := ih s_1 a0 j1 i_3 hf
      omega
set_option maxHeartbeats 4000000 in
theorem zm_M_integer_27 {z : zh_S} (n : Nat) : ∀ (s0 : zh_S) (a0 : Nat) (j1 : Int64) (i3 : Int32), zb_M_integer_27 n s0 a0 j1 i3 = some z → zh_N s0 ≤ zh_N z ∧ zh_M s0 ≤ zh_M z := by
  intro s0 a0 j1 i3 hf
  rw [zb_M_integer_27] at hf
  obtain ⟨-, hf⟩ := zx_ck hf
  obtain ⟨s_1, hq, hf⟩ := zx_p hf
  have n_s_1 := zm_M_add hq
  obtain ⟨-, hf⟩ := zx_ck hf
  obtain ⟨s_3, hq, hf⟩ := zx_p hf
  have n_s_3 := zm_M_add hq
  obtain ⟨i_5, e_i_5, hf⟩ := zx_l hf
  have n_z := zm_M_integer_42 n n s_3 a0 j1 i_5 hf
  omega
set_option maxHeartbeats 4000000 in
theorem zm_M_integer_2 {z : zh_S} (n : Nat) (k : Nat) : ∀ (s0 : zh_S) (a0 : Nat) (j1 : Int64) (i3 : Int32), zl_M_integer_2 n k s0 a0 j1 i3 = some z → zh_N s0 ≤ zh_N z ∧ zh_M s0 ≤ zh_M z := by
  induction k with
  | zero => intro s0 a0 j1 i3 hf; cases hf
  | succ k ih =>
    intro s0 a0 j1 i3 hf
    rw [zl_M_integer_2] at hf
    by_cases hc : (8 : Int32) ≤ i3
    · rw [if_pos hc] at hf
      have n_z := zm_M_integer_27 n s0 a0 j1 i3 hf
      omega
    · rw [if_neg hc] at hf
      by_cases hc : (lg_cmp (j1 >>> ((((8 : Int32) * i3) - (1 : Int32)).toInt64 &&& 63)) (0 : Int64)) = 0
      · rw [if_pos hc] at hf
        have n_z := zm_M_integer_27 n s0 a0 j1 i3 hf
        omega
      · rw [if_neg hc] at hf
        obtain ⟨i_1, e_i_1, hf⟩ := zx_l hf
        have n_z := ih s0 a0 j1 i_1 hf
        omega
set_option maxHeartbeats 4000000 in
theorem zm_M_integer {n : Nat} {s0 : zh_S} {a0 : Nat} {j1 : Int64} {z : zh_S} (hf : zf_M_integer n s0 a0 j1 = some z) : zh_N s0 ≤ zh_N z ∧ zh_M s0 ≤ zh_M z := by
  rw [zf_M_integer] at hf
  have n_z := zm_M_integer_2 n n s0 a0 j1 (1 : Int32) hf
  omega
set_option maxHeartbeats 4000000 in
theorem zm_M_wrap_103 {z : zh_S} (n : Nat) : ∀ (s0 : zh_S) (a0 : Nat) (i4 : Int32), zb_M_wrap_103 n s0 a0 i4 = some z → zh_N s0 ≤ zh_N z ∧ zh_M s0 ≤ zh_M z := by
  intro s0 a0 i4 hf
  rw [zb_M_wrap_103] at hf
  obtain ⟨-, hf⟩ := zx_ck hf
  obtain ⟨s_2, e_s_2, hf⟩ := zx_l hf
  have n_s_2 := zx_muI e_s_2
  obtain rfl := zx_r1 hf
  omega
set_option maxHeartbeats 4000000 in
theorem zm_M_wrap_86 {z : zh_S} (n : Nat) : ∀ (s0 : zh_S) (a0 : Nat) (i1 : Int32) (i3 : Int32) (i4 : Int32) (at0 : Nat) (it1 : Int32) (it2 : Int32), zb_M_wrap_86 n s0 a0 i1 i3 i4 at0 it1 it2 = some z → zh_N s0 ≤ zh_N z ∧ zh_M s0 ≤ zh_M z := by
  intro s0 a0 i1 i3 i4 at0 it1 it2 hf
  rw [zb_M_wrap_86] at hf
  obtain ⟨-, hf⟩ := zx_ck hf
  obtain ⟨s_1, e_s_1, hf⟩ := zx_l hf
  have n_s_1 := zx_muI e_s_1
  by_cases hc : i3 < (128 : Int32)
  · rw [if_pos hc] at hf
    have n_z := zm_M_wrap_103 n s_1 a0 i4 hf
    omega
  · rw [if_neg hc] at hf
    obtain ⟨-, hf⟩ := zx_ck hf
    obtain ⟨a_4, -, hf⟩ := zx_p hf
    obtain ⟨-, hf⟩ := zx_ck hf
    obtain ⟨s_6, e_s_6, hf⟩ := zx_l hf
    have n_s_6 := zx_muI e_s_6
    have n_z := zm_M_wrap_103 n s_6 a0 i4 hf
    omega
set_option maxHeartbeats 4000000 in
theorem zm_M_wrap_29 {z : zh_S} (n : Nat) (k : Nat) : ∀ (s0 : zh_S) (a0 : Nat) (i1 : Int32) (i2 : Int32) (i3 : Int32) (i4 : Int32) (i5 : Int32), zl_M_wrap_29 n k s0 a0 i1 i2 i3 i4 i5 = some z → zh_N s0 ≤ zh_N z ∧ zh_M s0 ≤ zh_M z := by
  induction k with
  | zero => intro s0 a0 i1 i2 i3 i4 i5 hf; cases hf
  | succ k ih =>
    intro s0 a0 i1 i2 i3 i4 i5 hf
    rw [zl_M_wrap_29] at hf
    by_cases hc : i5 < i1
    · rw [if_pos hc] at hf
      obtain ⟨-, hf⟩ := zx_ck hf
      obtain ⟨a_2, -, hf⟩ := zx_p hf
      obtain ⟨-, hf⟩ := zx_ck hf
      obtain ⟨s_4, e_s_4, hf⟩ := zx_l hf
      have n_s_4 := zx_muI e_s_4
      obtain ⟨-, hf⟩ := zx_ck hf
      obtain ⟨a_7, -, hf⟩ := zx_p hf
      by_cases hc : (128 : Int32) ≤ i3
      · rw [if_pos hc] at hf
        have n_z := zm_M_wrap_86 n s_4 a0 i1 i3 i4 a_7 (i1 + (1 : Int32)) (129 : Int32) hf
        omega
      · rw [if_neg hc] at hf
        have n_z := zm_M_wrap_86 n s_4 a0 i1 i3 i4 a_7 (i1 + (1 : Int32)) i3 hf
        omega
    · rw [if_neg hc] at hf
      obtain ⟨-, hf⟩ := zx_ck hf
      obtain ⟨a_10, -, hf⟩ := zx_p hf
      obtain ⟨a_12, -, hf⟩ := zx_p hf
      obtain ⟨-, hf⟩ := zx_ck hf
      obtain ⟨-, hf⟩ := zx_ck hf
      obtain ⟨s_15, e_s_15, hf⟩ := zx_l hf
      have n_s_15 := zx_muI e_s_15
      obtain ⟨i_17, e_i_17, hf⟩ := zx_l hf
      have n_z := ih s_15 a0 i1 i2 i3 i4 i_17 hf
      omega
set_option maxHeartbeats 4000000 in
theorem zm_M_wrap_19 {z : zh_S} (n : Nat) : ∀ (s0 : zh_S) (a0 : Nat) (i1 : Int32) (i2 : Int32) (i3 : Int32) (it0 : Int32), zb_M_wrap_19 n s0 a0 i1 i2 i3 it0 = some z → zh_N s0 ≤ zh_N z ∧ zh_M s0 ≤ zh_M z := by
  intro s0 a0 i1 i2 i3 it0 hf
  rw [zb_M_wrap_19] at hf
  obtain ⟨-, hf⟩ := zx_ck hf
  obtain ⟨i_2, e_i_2, hf⟩ := zx_l hf
  have n_z := zm_M_wrap_29 n n s0 a0 i1 i2 i3 it0 i_2 hf
  omega
set_option maxHeartbeats 4000000 in
theorem zm_M_wrap {n : Nat} {s0 : zh_S} {a0 : Nat} {i1 : Int32} {i2 : Int32} {z : zh_S} (hf : zf_M_wrap n s0 a0 i1 i2 = some z) : zh_N s0 ≤ zh_N z ∧ zh_M s0 ≤ zh_M z := by
  rw [zf_M_wrap] at hf
  obtain ⟨-, hf⟩ := zx_ck hf
  obtain ⟨i_2, e_i_2, hf⟩ := zx_l hf
  by_cases hc : (128 : Int32) ≤ i_2
  · rw [if_pos hc] at hf
    have n_z := zm_M_wrap_19 n s0 a0 i1 i2 i_2 (3 : Int32) hf
    omega
  · rw [if_neg hc] at hf
    have n_z := zm_M_wrap_19 n s0 a0 i1 i2 i_2 (2 : Int32) hf
    omega
set_option maxHeartbeats 4000000 in
theorem zm_M_signed {n : Nat} {s0 : zh_S} {a0 : Nat} {r : Int32} {z : zh_S} (hf : zf_M_signed n s0 a0 = some (r, z)) : zh_N s0 ≤ zh_N z ∧ zh_M s0 ≤ zh_M z := by
  rw [zf_M_signed] at hf
  obtain ⟨-, hf⟩ := zx_ck hf
  obtain ⟨s_1, hq, hf⟩ := zx_p hf
  have n_s_1 := zm_M_wrap hq
  obtain ⟨-, hf⟩ := zx_ck hf
  obtain ⟨i_4, hq, hf⟩ := zx_p hf
  obtain ⟨a_5, -, hf⟩ := zx_p hf
  obtain ⟨-, hf⟩ := zx_ck hf
  obtain ⟨i_8, e_i_8, hf⟩ := zx_l hf
  obtain ⟨j_9, hq, hf⟩ := zx_p hf
  obtain ⟨s_10, hq, hf⟩ := zx_p hf
  have n_s_10 := zm_M_integer hq
  obtain ⟨-, hf⟩ := zx_ck hf
  obtain ⟨s_11, hq, hf⟩ := zx_p hf
  have n_s_11 := zm_M_wrap hq
  obtain ⟨-, hf⟩ := zx_ck hf
  obtain ⟨-, rfl⟩ := zx_r2 hf
  omega
set_option maxHeartbeats 4000000 in
theorem zm_M_composeList_44 {z : zh_S} {r : Int32} (n : Nat) (k : Nat) : ∀ (s0 : zh_S) (a0 : Nat) (i1 : Int32) (i2 : Int32), zl_M_composeList_44 n k s0 a0 i1 i2 = some (r, z) → zh_N s0 ≤ zh_N z ∧ zh_M s0 ≤ zh_M z := by
  induction k with
  | zero => intro s0 a0 i1 i2 hf; cases hf
  | succ k ih =>
    intro s0 a0 i1 i2 hf
    rw [zl_M_composeList_44] at hf
    obtain ⟨-, hf⟩ := zx_ck hf
    by_cases hc : (zh_I s0 a0 3) ≤ i2
    · rw [if_pos hc] at hf
      obtain ⟨s_2, hq, hf⟩ := zx_p hf
      have n_s_2 := zm_M_wrap hq
      obtain ⟨-, hf⟩ := zx_ck hf
      obtain ⟨i_5, s_3, hq, hf⟩ := zx_b hf
      have n_s_3 := zm_M_signed hq
      obtain ⟨-, rfl⟩ := zx_r2 hf
      omega
    · rw [if_neg hc] at hf
      obtain ⟨i_6, e_i_6, hf⟩ := zx_l hf
      obtain ⟨a_7, -, hf⟩ := zx_p hf
      obtain ⟨-, hf⟩ := zx_ck hf
      obtain ⟨s_10, hq, hf⟩ := zx_p hf
      have n_s_10 := zm_M_integer hq
      obtain ⟨-, hf⟩ := zx_ck hf
      obtain ⟨a_12, -, hf⟩ := zx_p hf
      obtain ⟨-, hf⟩ := zx_ck hf
      obtain ⟨s_15, hq, hf⟩ := zx_p hf
      have n_s_15 := zm_M_integer hq
      obtain ⟨-, hf⟩ := zx_ck hf
      obtain ⟨s_16, hq, hf⟩ := zx_p hf
      have n_s_16 := zm_M_wrap hq
      obtain ⟨i_18, e_i_18, hf⟩ := zx_l hf
      have n_z := ih s_16 a0 i1 i_18 hf
      omega
set_option maxHeartbeats 4000000 in
theorem zm_M_composeList {n : Nat} {s0 : zh_S} {a0 : Nat} {r : Int32} {z : zh_S} (hf : zf_M_composeList n s0 a0 = some (r, z)) : zh_N s0 ≤ zh_N z ∧ zh_M s0 ≤ zh_M z := by
  rw [zf_M_composeList] at hf
  obtain ⟨-, hf⟩ := zx_ck hf
  obtain ⟨s_1, e_s_1, hf⟩ := zx_l hf
  have n_s_1 := zx_muI e_s_1
  obtain ⟨a_3, -, hf⟩ := zx_p hf
  obtain ⟨-, hf⟩ := zx_ck hf
  obtain ⟨s_6, hq, hf⟩ := zx_p hf
  have n_s_6 := zm_M_name hq
  obtain ⟨-, hf⟩ := zx_ck hf
  obtain ⟨a_8, -, hf⟩ := zx_p hf
  obtain ⟨-, hf⟩ := zx_ck hf
  obtain ⟨s_11, hq, hf⟩ := zx_p hf
  have n_s_11 := zm_M_integer hq
  obtain ⟨-, hf⟩ := zx_ck hf
  obtain ⟨a_13, -, hf⟩ := zx_p hf
  obtain ⟨-, hf⟩ := zx_ck hf
  obtain ⟨s_16, hq, hf⟩ := zx_p hf
  have n_s_16 := zm_M_integer hq
  obtain ⟨-, hf⟩ := zx_ck hf
  obtain ⟨i_18, e_i_18, hf⟩ := zx_l hf
  have n_z := zm_M_composeList_44 n n s_16 a0 i_18 (0 : Int32) hf
  omega
set_option maxHeartbeats 4000000 in
theorem zm_Draft_appendTrue {n : Nat} {s0 : zh_S} {a0 : Nat} {z : zh_S} (hf : zf_Draft_appendTrue n s0 a0 = some z) : zh_N s0 ≤ zh_N z ∧ zh_M s0 ≤ zh_M z := by
  rw [zf_Draft_appendTrue] at hf
  obtain ⟨-, hf⟩ := zx_ck hf
  obtain ⟨i_3, s_1, hq, hf⟩ := zx_b hf
  have n_s_1 := zm_Draft_append hq
  obtain ⟨-, hf⟩ := zx_ck hf
  obtain ⟨i_6, s_4, hq, hf⟩ := zx_b hf
  have n_s_4 := zm_Draft_append hq
  obtain ⟨-, hf⟩ := zx_ck hf
  obtain ⟨i_9, s_7, hq, hf⟩ := zx_b hf
  have n_s_7 := zm_Draft_append hq
  obtain rfl := zx_r1 hf
  omega
set_option maxHeartbeats 4000000 in
theorem zm_Tool_writeRealm_73 {z : zh_S} (n : Nat) : ∀ (s0 : zh_S) (a1 : Nat) (i2 : Int32) (i3 : Int32), zb_Tool_writeRealm_73 n s0 a1 i2 i3 = some z → zh_N s0 ≤ zh_N z ∧ zh_M s0 ≤ zh_M z := by
  intro s0 a1 i2 i3 hf
  rw [zb_Tool_writeRealm_73] at hf
  obtain ⟨-, hf⟩ := zx_ck hf
  obtain ⟨s_1, hq, hf⟩ := zx_p hf
  have n_s_1 := zm_Draft_wrap hq
  obtain ⟨-, hf⟩ := zx_ck hf
  obtain ⟨s_3, hq, hf⟩ := zx_p hf
  have n_s_3 := zm_Draft_wrap hq
  obtain rfl := zx_r1 hf
  omega
set_option maxHeartbeats 4000000 in
theorem zm_Tool_writeRealm_47 {z : zh_S} (n : Nat) : ∀ (s0 : zh_S) (a0 : Nat) (a1 : Nat) (i2 : Int32) (i3 : Int32), zb_Tool_writeRealm_47 n s0 a0 a1 i2 i3 = some z → zh_N s0 ≤ zh_N z ∧ zh_M s0 ≤ zh_M z := by
  intro s0 a0 a1 i2 i3 hf
  rw [zb_Tool_writeRealm_47] at hf
  obtain ⟨-, hf⟩ := zx_ck hf
  obtain ⟨a_2, -, hf⟩ := zx_p hf
  obtain ⟨-, hf⟩ := zx_ck hf
  by_cases hc : (lg_cmp (zh_J s0 a_2 ((10 : Int32).toNatClampNeg)) (0 : Int64)) = 0
  · rw [if_pos hc] at hf
    have n_z := zm_Tool_writeRealm_73 n s0 a1 i2 i3 hf
    omega
  · rw [if_neg hc] at hf
    obtain ⟨a_5, -, hf⟩ := zx_p hf
    obtain ⟨-, hf⟩ := zx_ck hf
    obtain ⟨-, hf⟩ := zx_ck hf
    obtain ⟨s_8, hq, hf⟩ := zx_p hf
    have n_s_8 := zm_Draft_appendName hq
    have n_z := zm_Tool_writeRealm_73 n s_8 a1 i2 i3 hf
    omega
set_option maxHeartbeats 4000000 in
theorem zm_Tool_writeRealm {n : Nat} {s0 : zh_S} {a0 : Nat} {a1 : Nat} {z : zh_S} (hf : zf_Tool_writeRealm n s0 a0 a1 = some z) : zh_N s0 ≤ zh_N z ∧ zh_M s0 ≤ zh_M z := by
  rw [zf_Tool_writeRealm] at hf
  obtain ⟨-, hf⟩ := zx_ck hf
  obtain ⟨i_2, e_i_2, hf⟩ := zx_l hf
  obtain ⟨s_3, hq, hf⟩ := zx_p hf
  have n_s_3 := zm_Draft_appendInteger hq
  obtain ⟨-, hf⟩ := zx_ck hf
  obtain ⟨s_4, hq, hf⟩ := zx_p hf
  have n_s_4 := zm_Draft_appendTrue hq
  obtain ⟨-, hf⟩ := zx_ck hf
  obtain ⟨i_7, e_i_7, hf⟩ := zx_l hf
  obtain ⟨-, hf⟩ := zx_ck hf
  obtain ⟨a_9, -, hf⟩ := zx_p hf
  obtain ⟨-, hf⟩ := zx_ck hf
  by_cases hc : (lg_cmp (zh_J s_4 a_9 ((9 : Int32).toNatClampNeg)) (0 : Int64)) = 0
  · rw [if_pos hc] at hf
    have n_z := zm_Tool_writeRealm_47 n s_4 a0 a1 i_2 i_7 hf
    omega
  · rw [if_neg hc] at hf
    obtain ⟨a_12, -, hf⟩ := zx_p hf
    obtain ⟨-, hf⟩ := zx_ck hf
    obtain ⟨s_15, hq, hf⟩ := zx_p hf
    have n_s_15 := zm_Draft_appendName hq
    have n_z := zm_Tool_writeRealm_47 n s_15 a0 a1 i_2 i_7 hf
    omega
set_option maxHeartbeats 4000000 in
theorem zm_Tool_writeOwnExtension_30 {z : zh_S} (n : Nat) : ∀ (s0 : zh_S) (a1 : Nat) (i2 : Int32), zb_Tool_writeOwnExtension_30 n s0 a1 i2 = some z → zh_N s0 ≤ zh_N z ∧ zh_M s0 ≤ zh_M z := by
  intro s0 a1 i2 hf
  rw [zb_Tool_writeOwnExtension_30] at hf
  obtain ⟨-, hf⟩ := zx_ck hf
  obtain ⟨s_2, hq, hf⟩ := zx_p hf
  have n_s_2 := zm_Draft_wrap hq
  obtain ⟨-, hf⟩ := zx_ck hf
  obtain ⟨s_3, hq, hf⟩ := zx_p hf
  have n_s_3 := zm_Draft_wrap hq
  obtain rfl := zx_r1 hf
  omega
set_option maxHeartbeats 4000000 in
theorem zm_Tool_writeOwnExtension {n : Nat} {s0 : zh_S} {a0 : Nat} {a1 : Nat} {z : zh_S} (hf : zf_Tool_writeOwnExtension n s0 a0 a1 = some z) : zh_N s0 ≤ zh_N z ∧ zh_M s0 ≤ zh_M z := by
  rw [zf_Tool_writeOwnExtension] at hf
  obtain ⟨-, hf⟩ := zx_ck hf
  obtain ⟨i_2, e_i_2, hf⟩ := zx_l hf
  obtain ⟨s_3, hq, hf⟩ := zx_p hf
  have n_s_3 := zm_Draft_appendInteger hq
  obtain ⟨-, hf⟩ := zx_ck hf
  obtain ⟨a_5, -, hf⟩ := zx_p hf
  obtain ⟨-, hf⟩ := zx_ck hf
  by_cases hc : (lg_cmp (zh_J s_3 a_5 ((11 : Int32).toNatClampNeg)) (2 : Int64)) = 0
  · rw [if_pos hc] at hf
    obtain ⟨-, hf⟩ := zx_ck hf
    obtain ⟨s_8, hq, hf⟩ := zx_p hf
    have n_s_8 := zm_Draft_appendTrue hq
    have n_z := zm_Tool_writeOwnExtension_30 n s_8 a1 i_2 hf
    omega
  · rw [if_neg hc] at hf
    have n_z := zm_Tool_writeOwnExtension_30 n s_3 a1 i_2 hf
    omega
set_option maxHeartbeats 4000000 in
theorem zm_Tool_writeUsage {n : Nat} {s0 : zh_S} {a0 : Nat} {a1 : Nat} {z : zh_S} (hf : zf_Tool_writeUsage n s0 a0 a1 = some z) : zh_N s0 ≤ zh_N z ∧ zh_M s0 ≤ zh_M z := by
  rw [zf_Tool_writeUsage] at hf
  obtain ⟨-, hf⟩ := zx_ck hf
  obtain ⟨i_2, e_i_2, hf⟩ := zx_l hf
  obtain ⟨s_3, hq, hf⟩ := zx_p hf
  have n_s_3 := zm_Draft_appendInteger hq
  obtain ⟨-, hf⟩ := zx_ck hf
  obtain ⟨s_4, hq, hf⟩ := zx_p hf
  have n_s_4 := zm_Draft_appendTrue hq
  obtain ⟨-, hf⟩ := zx_ck hf
  obtain ⟨a_7, -, hf⟩ := zx_p hf
  obtain ⟨-, hf⟩ := zx_ck hf
  obtain ⟨-, hf⟩ := zx_ck hf
  obtain ⟨s_10, hq, hf⟩ := zx_p hf
  have n_s_10 := zm_Draft_appendInteger hq
  obtain ⟨-, hf⟩ := zx_ck hf
  obtain ⟨s_12, hq, hf⟩ := zx_p hf
  have n_s_12 := zm_Draft_wrap hq
  obtain rfl := zx_r1 hf
  omega
set_option maxHeartbeats 4000000 in
theorem zm_Tool_writeBasic_58 {z : zh_S} (n : Nat) : ∀ (s0 : zh_S) (a1 : Nat) (i2 : Int32) (i3 : Int32), zb_Tool_writeBasic_58 n s0 a1 i2 i3 = some z → zh_N s0 ≤ zh_N z ∧ zh_M s0 ≤ zh_M z := by
  intro s0 a1 i2 i3 hf
  rw [zb_Tool_writeBasic_58] at hf
  obtain ⟨-, hf⟩ := zx_ck hf
  obtain ⟨s_1, hq, hf⟩ := zx_p hf
  have n_s_1 := zm_Draft_wrap hq
  obtain ⟨-, hf⟩ := zx_ck hf
  obtain ⟨s_3, hq, hf⟩ := zx_p hf
  have n_s_3 := zm_Draft_wrap hq
  obtain rfl := zx_r1 hf
  omega
set_option maxHeartbeats 4000000 in
theorem zm_Tool_writeBasic {n : Nat} {s0 : zh_S} {a0 : Nat} {a1 : Nat} {z : zh_S} (hf : zf_Tool_writeBasic n s0 a0 a1 = some z) : zh_N s0 ≤ zh_N z ∧ zh_M s0 ≤ zh_M z := by
  rw [zf_Tool_writeBasic] at hf
  obtain ⟨-, hf⟩ := zx_ck hf
  obtain ⟨i_2, e_i_2, hf⟩ := zx_l hf
  obtain ⟨s_3, hq, hf⟩ := zx_p hf
  have n_s_3 := zm_Draft_appendInteger hq
  obtain ⟨-, hf⟩ := zx_ck hf
  obtain ⟨s_4, hq, hf⟩ := zx_p hf
  have n_s_4 := zm_Draft_appendTrue hq
  obtain ⟨-, hf⟩ := zx_ck hf
  obtain ⟨i_7, e_i_7, hf⟩ := zx_l hf
  obtain ⟨-, hf⟩ := zx_ck hf
  obtain ⟨a_9, -, hf⟩ := zx_p hf
  obtain ⟨-, hf⟩ := zx_ck hf
  by_cases hc : (lg_cmp (zh_J s_4 a_9 ((6 : Int32).toNatClampNeg)) (1 : Int64)) = 0
  · rw [if_pos hc] at hf
    obtain ⟨s_12, hq, hf⟩ := zx_p hf
    have n_s_12 := zm_Draft_appendTrue hq
    obtain ⟨-, hf⟩ := zx_ck hf
    obtain ⟨a_14, -, hf⟩ := zx_p hf
    obtain ⟨-, hf⟩ := zx_ck hf
    by_cases hc : (lg_cmp (zh_J s_12 a_14 ((7 : Int32).toNatClampNeg)) (0 : Int64)) < 0
    · rw [if_pos hc] at hf
      have n_z := zm_Tool_writeBasic_58 n s_12 a1 i_2 i_7 hf
      omega
    · rw [if_neg hc] at hf
      obtain ⟨a_17, -, hf⟩ := zx_p hf
      obtain ⟨-, hf⟩ := zx_ck hf
      obtain ⟨-, hf⟩ := zx_ck hf
      obtain ⟨s_20, hq, hf⟩ := zx_p hf
      have n_s_20 := zm_Draft_appendInteger hq
      have n_z := zm_Tool_writeBasic_58 n s_20 a1 i_2 i_7 hf
      omega
  · rw [if_neg hc] at hf
    have n_z := zm_Tool_writeBasic_58 n s_4 a1 i_2 i_7 hf
    omega
set_option maxHeartbeats 4000000 in
theorem zm_Tool_writeExtensions_85 {z : zh_S} (n : Nat) : ∀ (s0 : zh_S) (a1 : Nat) (i2 : Int32), zb_Tool_writeExtensions_85 n s0 a1 i2 = some z → zh_N s0 ≤ zh_N z ∧ zh_M s0 ≤ zh_M z := by
  intro s0 a1 i2 hf
  rw [zb_Tool_writeExtensions_85] at hf
  obtain ⟨-, hf⟩ := zx_ck hf
  by_cases hc : (zh_I s0 a1 1) ≤ i2
  · rw [if_pos hc] at hf
    obtain rfl := zx_r1 hf
    omega
  · rw [if_neg hc] at hf
    obtain ⟨s_2, hq, hf⟩ := zx_p hf
    have n_s_2 := zm_Draft_wrap hq
    obtain rfl := zx_r1 hf
    omega
set_option maxHeartbeats 4000000 in
theorem zm_Tool_writeExtensions_68 {z : zh_S} (n : Nat) : ∀ (s0 : zh_S) (a0 : Nat) (a1 : Nat) (i2 : Int32), zb_Tool_writeExtensions_68 n s0 a0 a1 i2 = some z → zh_N s0 ≤ zh_N z ∧ zh_M s0 ≤ zh_M z := by
  intro s0 a0 a1 i2 hf
  rw [zb_Tool_writeExtensions_68] at hf
  obtain ⟨-, hf⟩ := zx_ck hf
  obtain ⟨a_2, -, hf⟩ := zx_p hf
  obtain ⟨-, hf⟩ := zx_ck hf
  by_cases hc : (lg_cmp (zh_J s0 a_2 ((11 : Int32).toNatClampNeg)) (0 : Int64)) ≤ 0
  · rw [if_pos hc] at hf
    have n_z := zm_Tool_writeExtensions_85 n s0 a1 i2 hf
    omega
  · rw [if_neg hc] at hf
    obtain ⟨s_5, hq, hf⟩ := zx_p hf
    have n_s_5 := zm_Tool_writeOwnExtension hq
    have n_z := zm_Tool_writeExtensions_85 n s_5 a1 i2 hf
    omega
set_option maxHeartbeats 4000000 in
theorem zm_Tool_writeExtensions_63 {z : zh_S} (n : Nat) : ∀ (s0 : zh_S) (a0 : Nat) (a1 : Nat) (i2 : Int32), zb_Tool_writeExtensions_63 n s0 a0 a1 i2 = some z → zh_N s0 ≤ zh_N z ∧ zh_M s0 ≤ zh_M z := by
  intro s0 a0 a1 i2 hf
  rw [zb_Tool_writeExtensions_63] at hf
  obtain ⟨-, hf⟩ := zx_ck hf
  obtain ⟨s_1, hq, hf⟩ := zx_p hf
  have n_s_1 := zm_Tool_writeRealm hq
  have n_z := zm_Tool_writeExtensions_68 n s_1 a0 a1 i2 hf
  omega
set_option maxHeartbeats 4000000 in
theorem zm_Tool_writeExtensions_39 {z : zh_S} (n : Nat) : ∀ (s0 : zh_S) (a0 : Nat) (a1 : Nat) (i2 : Int32), zb_Tool_writeExtensions_39 n s0 a0 a1 i2 = some z → zh_N s0 ≤ zh_N z ∧ zh_M s0 ≤ zh_M z := by
  intro s0 a0 a1 i2 hf
  rw [zb_Tool_writeExtensions_39] at hf
  obtain ⟨-, hf⟩ := zx_ck hf
  obtain ⟨a_2, -, hf⟩ := zx_p hf
  obtain ⟨-, hf⟩ := zx_ck hf
  by_cases hc : (lg_cmp (zh_J s0 a_2 ((9 : Int32).toNatClampNeg)) (0 : Int64)) = 0
  · rw [if_pos hc] at hf
    obtain ⟨a_5, -, hf⟩ := zx_p hf
    obtain ⟨-, hf⟩ := zx_ck hf
    by_cases hc : (lg_cmp (zh_J s0 a_5 ((10 : Int32).toNatClampNeg)) (0 : Int64)) = 0
    · rw [if_pos hc] at hf
      have n_z := zm_Tool_writeExtensions_68 n s0 a0 a1 i2 hf
      omega
    · rw [if_neg hc] at hf
      have n_z := zm_Tool_writeExtensions_63 n s0 a0 a1 i2 hf
      omega
  · rw [if_neg hc] at hf
    have n_z := zm_Tool_writeExtensions_63 n s0 a0 a1 i2 hf
    omega
set_option maxHeartbeats 4000000 in
theorem zm_Tool_writeExtensions_22 {z : zh_S} (n : Nat) : ∀ (s0 : zh_S) (a0 : Nat) (a1 : Nat) (i2 : Int32), zb_Tool_writeExtensions_22 n s0 a0 a1 i2 = some z → zh_N s0 ≤ zh_N z ∧ zh_M s0 ≤ zh_M z := by
  intro s0 a0 a1 i2 hf
  rw [zb_Tool_writeExtensions_22] at hf
  obtain ⟨-, hf⟩ := zx_ck hf
  obtain ⟨a_2, -, hf⟩ := zx_p hf
  obtain ⟨-, hf⟩ := zx_ck hf
  by_cases hc : (lg_cmp (zh_J s0 a_2 ((8 : Int32).toNatClampNeg)) (0 : Int64)) < 0
  · rw [if_pos hc] at hf
    have n_z := zm_Tool_writeExtensions_39 n s0 a0 a1 i2 hf
    omega
  · rw [if_neg hc] at hf
    obtain ⟨s_5, hq, hf⟩ := zx_p hf
    have n_s_5 := zm_Tool_writeUsage hq
    have n_z := zm_Tool_writeExtensions_39 n s_5 a0 a1 i2 hf
    omega
set_option maxHeartbeats 4000000 in
theorem zm_Tool_writeExtensions {n : Nat} {s0 : zh_S} {a0 : Nat} {a1 : Nat} {z : zh_S} (hf : zf_Tool_writeExtensions n s0 a0 a1 = some z) : zh_N s0 ≤ zh_N z ∧ zh_M s0 ≤ zh_M z := by
  rw [zf_Tool_writeExtensions] at hf
  obtain ⟨-, hf⟩ := zx_ck hf
  obtain ⟨i_2, e_i_2, hf⟩ := zx_l hf
  obtain ⟨-, hf⟩ := zx_ck hf
  obtain ⟨a_4, -, hf⟩ := zx_p hf
  obtain ⟨-, hf⟩ := zx_ck hf
  by_cases hc : (lg_cmp (zh_J s0 a_4 ((6 : Int32).toNatClampNeg)) (0 : Int64)) < 0
  · rw [if_pos hc] at hf
    have n_z := zm_Tool_writeExtensions_22 n s0 a0 a1 i_2 hf
    omega
  · rw [if_neg hc] at hf
    obtain ⟨s_7, hq, hf⟩ := zx_p hf
    have n_s_7 := zm_Tool_writeBasic hq
    have n_z := zm_Tool_writeExtensions_22 n s_7 a0 a1 i_2 hf
    omega
set_option maxHeartbeats 4000000 in
theorem zm_Tool_writeCertificate {n : Nat} {s0 : zh_S} {a0 : Nat} {a1 : Nat} {r : Int32} {z : zh_S} (hf : zf_Tool_writeCertificate n s0 a0 a1 = some (r, z)) : zh_N s0 ≤ zh_N z ∧ zh_M s0 ≤ zh_M z := by
  rw [zf_Tool_writeCertificate] at hf
  obtain ⟨-, hf⟩ := zx_ck hf
  obtain ⟨a_2, -, hf⟩ := zx_p hf
  obtain ⟨-, hf⟩ := zx_ck hf
  obtain ⟨i_5, e_i_5, hf⟩ := zx_l hf
  obtain ⟨-, hf⟩ := zx_ck hf
  obtain ⟨s_6, hq, hf⟩ := zx_p hf
  have n_s_6 := zm_Draft_empty hq
  obtain ⟨-, hf⟩ := zx_ck hf
  obtain ⟨a_9, -, hf⟩ := zx_p hf
  obtain ⟨-, hf⟩ := zx_ck hf
  obtain ⟨-, hf⟩ := zx_ck hf
  obtain ⟨s_12, hq, hf⟩ := zx_p hf
  have n_s_12 := zm_Draft_appendInteger hq
  obtain ⟨-, hf⟩ := zx_ck hf
  obtain ⟨a_15, -, hf⟩ := zx_p hf
  obtain ⟨-, hf⟩ := zx_ck hf
  obtain ⟨-, hf⟩ := zx_ck hf
  obtain ⟨s_18, hq, hf⟩ := zx_p hf
  have n_s_18 := zm_Draft_appendName hq
  obtain ⟨-, hf⟩ := zx_ck hf
  obtain ⟨a_21, -, hf⟩ := zx_p hf
  obtain ⟨-, hf⟩ := zx_ck hf
  obtain ⟨-, hf⟩ := zx_ck hf
  obtain ⟨s_24, hq, hf⟩ := zx_p hf
  have n_s_24 := zm_Draft_appendInteger hq
  obtain ⟨-, hf⟩ := zx_ck hf
  obtain ⟨a_27, -, hf⟩ := zx_p hf
  obtain ⟨-, hf⟩ := zx_ck hf
  obtain ⟨-, hf⟩ := zx_ck hf
  obtain ⟨s_30, hq, hf⟩ := zx_p hf
  have n_s_30 := zm_Draft_appendInteger hq
  obtain ⟨-, hf⟩ := zx_ck hf
  obtain ⟨a_33, -, hf⟩ := zx_p hf
  obtain ⟨-, hf⟩ := zx_ck hf
  obtain ⟨-, hf⟩ := zx_ck hf
  obtain ⟨s_36, hq, hf⟩ := zx_p hf
  have n_s_36 := zm_Draft_appendName hq
  obtain ⟨-, hf⟩ := zx_ck hf
  obtain ⟨-, hf⟩ := zx_ck hf
  obtain ⟨s_39, hq, hf⟩ := zx_p hf
  have n_s_39 := zm_Draft_appendInteger hq
  obtain ⟨-, hf⟩ := zx_ck hf
  obtain ⟨-, hf⟩ := zx_ck hf
  obtain ⟨s_42, hq, hf⟩ := zx_p hf
  have n_s_42 := zm_Draft_appendInteger hq
  obtain ⟨-, hf⟩ := zx_ck hf
  obtain ⟨s_44, hq, hf⟩ := zx_p hf
  have n_s_44 := zm_Tool_writeExtensions hq
  obtain ⟨-, hf⟩ := zx_ck hf
  obtain ⟨i_48, s_46, hq, hf⟩ := zx_b hf
  have n_s_46 := zm_Tool_finish hq
  obtain ⟨-, rfl⟩ := zx_r2 hf
  omega
set_option maxHeartbeats 4000000 in
theorem zm_V_compose {n : Nat} {s0 : zh_S} {a0 : Nat} {r : Int32} {z : zh_S} (hf : zf_V_compose n s0 a0 = some (r, z)) : zh_N s0 ≤ zh_N z ∧ zh_M s0 ≤ zh_M z := by
  rw [zf_V_compose] at hf
  obtain ⟨-, hf⟩ := zx_ck hf
  obtain ⟨a_2, -, hf⟩ := zx_p hf
  obtain ⟨a_4, -, hf⟩ := zx_p hf
  obtain ⟨-, hf⟩ := zx_ck hf
  obtain ⟨i_8, s_6, hq, hf⟩ := zx_b hf
  have n_s_6 := zm_Tool_writeCertificate hq
  obtain ⟨-, rfl⟩ := zx_r2 hf
  omega
set_option maxHeartbeats 4000000 in
theorem zm_M_yes {n : Nat} {s0 : zh_S} {a0 : Nat} {z : zh_S} (hf : zf_M_yes n s0 a0 = some z) : zh_N s0 ≤ zh_N z ∧ zh_M s0 ≤ zh_M z := by
  rw [zf_M_yes] at hf
  obtain ⟨-, hf⟩ := zx_ck hf
  obtain ⟨s_1, hq, hf⟩ := zx_p hf
  have n_s_1 := zm_M_add hq
  obtain ⟨-, hf⟩ := zx_ck hf
  obtain ⟨s_3, hq, hf⟩ := zx_p hf
  have n_s_3 := zm_M_add hq
  obtain ⟨-, hf⟩ := zx_ck hf
  obtain ⟨s_5, hq, hf⟩ := zx_p hf
  have n_s_5 := zm_M_add hq
  obtain rfl := zx_r1 hf
  omega
set_option maxHeartbeats 4000000 in
theorem zm_M_open {n : Nat} {s0 : zh_S} {a0 : Nat} {i1 : Int32} {i2 : Int32} {r : Int32} {z : zh_S} (hf : zf_M_open n s0 a0 i1 i2 = some (r, z)) : zh_N s0 ≤ zh_N z ∧ zh_M s0 ≤ zh_M z := by
  rw [zf_M_open] at hf
  obtain ⟨-, hf⟩ := zx_ck hf
  obtain ⟨i_2, e_i_2, hf⟩ := zx_l hf
  obtain ⟨s_3, hq, hf⟩ := zx_p hf
  have n_s_3 := zm_M_integer hq
  by_cases hc : i2 = 0
  · rw [if_pos hc] at hf
    obtain ⟨-, rfl⟩ := zx_r2 hf
    omega
  · rw [if_neg hc] at hf
    obtain ⟨-, hf⟩ := zx_ck hf
    obtain ⟨s_4, hq, hf⟩ := zx_p hf
    have n_s_4 := zm_M_yes hq
    obtain ⟨-, rfl⟩ := zx_r2 hf
    omega
set_option maxHeartbeats 4000000 in
theorem zm_M_extensions_288 {z : zh_S} (n : Nat) : ∀ (s0 : zh_S) (a0 : Nat) (i1 : Int32), zb_M_extensions_288 n s0 a0 i1 = some z → zh_N s0 ≤ zh_N z ∧ zh_M s0 ≤ zh_M z := by
  intro s0 a0 i1 hf
  rw [zb_M_extensions_288] at hf
  obtain ⟨-, hf⟩ := zx_ck hf
  by_cases hc : (zh_I s0 a0 1) ≤ i1
  · rw [if_pos hc] at hf
    obtain rfl := zx_r1 hf
    omega
  · rw [if_neg hc] at hf
    obtain ⟨s_2, hq, hf⟩ := zx_p hf
    have n_s_2 := zm_M_wrap hq
    obtain rfl := zx_r1 hf
    omega
set_option maxHeartbeats 4000000 in
theorem zm_M_extensions_267 {z : zh_S} (n : Nat) : ∀ (s0 : zh_S) (a0 : Nat) (i1 : Int32) (at0 : Nat) (it1 : Int32) (it2 : Int32), zb_M_extensions_267 n s0 a0 i1 at0 it1 it2 = some z → zh_N s0 ≤ zh_N z ∧ zh_M s0 ≤ zh_M z := by
  intro s0 a0 i1 at0 it1 it2 hf
  rw [zb_M_extensions_267] at hf
  obtain ⟨-, hf⟩ := zx_ck hf
  obtain ⟨i_3, s_1, hq, hf⟩ := zx_b hf
  have n_s_1 := zm_M_open hq
  obtain ⟨-, hf⟩ := zx_ck hf
  obtain ⟨s_4, hq, hf⟩ := zx_p hf
  have n_s_4 := zm_M_add hq
  obtain ⟨-, hf⟩ := zx_ck hf
  obtain ⟨s_6, hq, hf⟩ := zx_p hf
  have n_s_6 := zm_M_add hq
  obtain ⟨-, hf⟩ := zx_ck hf
  obtain ⟨s_8, hq, hf⟩ := zx_p hf
  have n_s_8 := zm_M_wrap hq
  have n_z := zm_M_extensions_288 n s_8 a0 i1 hf
  omega
set_option maxHeartbeats 4000000 in
theorem zm_M_extensions_233 {z : zh_S} (n : Nat) : ∀ (s0 : zh_S) (a0 : Nat) (i1 : Int32), zb_M_extensions_233 n s0 a0 i1 = some z → zh_N s0 ≤ zh_N z ∧ zh_M s0 ≤ zh_M z := by
  intro s0 a0 i1 hf
  rw [zb_M_extensions_233] at hf
  obtain ⟨-, hf⟩ := zx_ck hf
  obtain ⟨a_2, -, hf⟩ := zx_p hf
  obtain ⟨-, hf⟩ := zx_ck hf
  by_cases hc : (lg_cmp (zh_J s0 a_2 ((11 : Int32).toNatClampNeg)) (0 : Int64)) ≤ 0
  · rw [if_pos hc] at hf
    have n_z := zm_M_extensions_288 n s0 a0 i1 hf
    omega
  · rw [if_neg hc] at hf
    obtain ⟨a_5, -, hf⟩ := zx_p hf
    obtain ⟨-, hf⟩ := zx_ck hf
    by_cases hc : (lg_cmp (zh_J s0 a_5 ((11 : Int32).toNatClampNeg)) (2 : Int64)) = 0
    · rw [if_pos hc] at hf
      have n_z := zm_M_extensions_267 n s0 a0 i1 a0 (9 : Int32) (1 : Int32) hf
      omega
    · rw [if_neg hc] at hf
      have n_z := zm_M_extensions_267 n s0 a0 i1 a0 (9 : Int32) (0 : Int32) hf
      omega
set_option maxHeartbeats 4000000 in
theorem zm_M_extensions_219 {z : zh_S} (n : Nat) : ∀ (s0 : zh_S) (a0 : Nat) (i1 : Int32) (i2 : Int32) (i3 : Int32), zb_M_extensions_219 n s0 a0 i1 i2 i3 = some z → zh_N s0 ≤ zh_N z ∧ zh_M s0 ≤ zh_M z := by
  intro s0 a0 i1 i2 i3 hf
  rw [zb_M_extensions_219] at hf
  obtain ⟨-, hf⟩ := zx_ck hf
  obtain ⟨s_1, hq, hf⟩ := zx_p hf
  have n_s_1 := zm_M_wrap hq
  obtain ⟨-, hf⟩ := zx_ck hf
  obtain ⟨s_3, hq, hf⟩ := zx_p hf
  have n_s_3 := zm_M_wrap hq
  have n_z := zm_M_extensions_233 n s_3 a0 i1 hf
  omega
set_option maxHeartbeats 4000000 in
theorem zm_M_extensions_193 {z : zh_S} (n : Nat) : ∀ (s0 : zh_S) (a0 : Nat) (i1 : Int32) (i2 : Int32) (i3 : Int32), zb_M_extensions_193 n s0 a0 i1 i2 i3 = some z → zh_N s0 ≤ zh_N z ∧ zh_M s0 ≤ zh_M z := by
  intro s0 a0 i1 i2 i3 hf
  rw [zb_M_extensions_193] at hf
  obtain ⟨-, hf⟩ := zx_ck hf
  obtain ⟨a_2, -, hf⟩ := zx_p hf
  obtain ⟨-, hf⟩ := zx_ck hf
  by_cases hc : (lg_cmp (zh_J s0 a_2 ((10 : Int32).toNatClampNeg)) (0 : Int64)) = 0
  · rw [if_pos hc] at hf
    have n_z := zm_M_extensions_219 n s0 a0 i1 i2 i3 hf
    omega
  · rw [if_neg hc] at hf
    obtain ⟨a_5, -, hf⟩ := zx_p hf
    obtain ⟨-, hf⟩ := zx_ck hf
    obtain ⟨s_8, hq, hf⟩ := zx_p hf
    have n_s_8 := zm_M_name hq
    have n_z := zm_M_extensions_219 n s_8 a0 i1 i2 i3 hf
    omega
set_option maxHeartbeats 4000000 in
theorem zm_M_extensions_155 {z : zh_S} (n : Nat) : ∀ (s0 : zh_S) (a0 : Nat) (i1 : Int32), zb_M_extensions_155 n s0 a0 i1 = some z → zh_N s0 ≤ zh_N z ∧ zh_M s0 ≤ zh_M z := by
  intro s0 a0 i1 hf
  rw [zb_M_extensions_155] at hf
  obtain ⟨-, hf⟩ := zx_ck hf
  obtain ⟨i_3, s_1, hq, hf⟩ := zx_b hf
  have n_s_1 := zm_M_open hq
  obtain ⟨-, hf⟩ := zx_ck hf
  obtain ⟨i_5, e_i_5, hf⟩ := zx_l hf
  obtain ⟨a_6, -, hf⟩ := zx_p hf
  obtain ⟨-, hf⟩ := zx_ck hf
  by_cases hc : (lg_cmp (zh_J s_1 a_6 ((9 : Int32).toNatClampNeg)) (0 : Int64)) = 0
  · rw [if_pos hc] at hf
    have n_z := zm_M_extensions_193 n s_1 a0 i1 i_3 i_5 hf
    omega
  · rw [if_neg hc] at hf
    obtain ⟨a_9, -, hf⟩ := zx_p hf
    obtain ⟨-, hf⟩ := zx_ck hf
    obtain ⟨s_12, hq, hf⟩ := zx_p hf
    have n_s_12 := zm_M_name hq
    have n_z := zm_M_extensions_193 n s_12 a0 i1 i_3 i_5 hf
    omega
set_option maxHeartbeats 4000000 in
theorem zm_M_extensions_131 {z : zh_S} (n : Nat) : ∀ (s0 : zh_S) (a0 : Nat) (i1 : Int32), zb_M_extensions_131 n s0 a0 i1 = some z → zh_N s0 ≤ zh_N z ∧ zh_M s0 ≤ zh_M z := by
  intro s0 a0 i1 hf
  rw [zb_M_extensions_131] at hf
  obtain ⟨-, hf⟩ := zx_ck hf
  obtain ⟨a_2, -, hf⟩ := zx_p hf
  obtain ⟨-, hf⟩ := zx_ck hf
  by_cases hc : (lg_cmp (zh_J s0 a_2 ((9 : Int32).toNatClampNeg)) (0 : Int64)) = 0
  · rw [if_pos hc] at hf
    obtain ⟨a_5, -, hf⟩ := zx_p hf
    obtain ⟨-, hf⟩ := zx_ck hf
    by_cases hc : (lg_cmp (zh_J s0 a_5 ((10 : Int32).toNatClampNeg)) (0 : Int64)) = 0
    · rw [if_pos hc] at hf
      have n_z := zm_M_extensions_233 n s0 a0 i1 hf
      omega
    · rw [if_neg hc] at hf
      have n_z := zm_M_extensions_155 n s0 a0 i1 hf
      omega
  · rw [if_neg hc] at hf
    have n_z := zm_M_extensions_155 n s0 a0 i1 hf
    omega
set_option maxHeartbeats 4000000 in
theorem zm_M_extensions_94 {z : zh_S} (n : Nat) : ∀ (s0 : zh_S) (a0 : Nat) (i1 : Int32), zb_M_extensions_94 n s0 a0 i1 = some z → zh_N s0 ≤ zh_N z ∧ zh_M s0 ≤ zh_M z := by
  intro s0 a0 i1 hf
  rw [zb_M_extensions_94] at hf
  obtain ⟨-, hf⟩ := zx_ck hf
  obtain ⟨a_2, -, hf⟩ := zx_p hf
  obtain ⟨-, hf⟩ := zx_ck hf
  by_cases hc : (lg_cmp (zh_J s0 a_2 ((8 : Int32).toNatClampNeg)) (0 : Int64)) ≤ 0
  · rw [if_pos hc] at hf
    have n_z := zm_M_extensions_131 n s0 a0 i1 hf
    omega
  · rw [if_neg hc] at hf
    obtain ⟨i_6, s_5, hq, hf⟩ := zx_b hf
    have n_s_5 := zm_M_open hq
    obtain ⟨-, hf⟩ := zx_ck hf
    obtain ⟨a_8, -, hf⟩ := zx_p hf
    obtain ⟨-, hf⟩ := zx_ck hf
    obtain ⟨s_11, hq, hf⟩ := zx_p hf
    have n_s_11 := zm_M_integer hq
    obtain ⟨-, hf⟩ := zx_ck hf
    obtain ⟨s_12, hq, hf⟩ := zx_p hf
    have n_s_12 := zm_M_wrap hq
    have n_z := zm_M_extensions_131 n s_12 a0 i1 hf
    omega
set_option maxHeartbeats 4000000 in
theorem zm_M_extensions_80 {z : zh_S} (n : Nat) : ∀ (s0 : zh_S) (a0 : Nat) (i1 : Int32) (i2 : Int32) (i3 : Int32), zb_M_extensions_80 n s0 a0 i1 i2 i3 = some z → zh_N s0 ≤ zh_N z ∧ zh_M s0 ≤ zh_M z := by
  intro s0 a0 i1 i2 i3 hf
  rw [zb_M_extensions_80] at hf
  obtain ⟨-, hf⟩ := zx_ck hf
  obtain ⟨s_1, hq, hf⟩ := zx_p hf
  have n_s_1 := zm_M_wrap hq
  obtain ⟨-, hf⟩ := zx_ck hf
  obtain ⟨s_3, hq, hf⟩ := zx_p hf
  have n_s_3 := zm_M_wrap hq
  have n_z := zm_M_extensions_94 n s_3 a0 i1 hf
  omega
set_option maxHeartbeats 4000000 in
theorem zm_M_extensions_45 {z : zh_S} (n : Nat) : ∀ (s0 : zh_S) (a0 : Nat) (i1 : Int32) (i2 : Int32) (i3 : Int32), zb_M_extensions_45 n s0 a0 i1 i2 i3 = some z → zh_N s0 ≤ zh_N z ∧ zh_M s0 ≤ zh_M z := by
  intro s0 a0 i1 i2 i3 hf
  rw [zb_M_extensions_45] at hf
  obtain ⟨-, hf⟩ := zx_ck hf
  obtain ⟨a_2, -, hf⟩ := zx_p hf
  obtain ⟨-, hf⟩ := zx_ck hf
  by_cases hc : (lg_cmp (zh_J s0 a_2 ((6 : Int32).toNatClampNeg)) (1 : Int64)) = 0
  · rw [if_pos hc] at hf
    obtain ⟨a_5, -, hf⟩ := zx_p hf
    obtain ⟨-, hf⟩ := zx_ck hf
    by_cases hc : (lg_cmp (zh_J s0 a_5 ((7 : Int32).toNatClampNeg)) (0 : Int64)) < 0
    · rw [if_pos hc] at hf
      have n_z := zm_M_extensions_80 n s0 a0 i1 i2 i3 hf
      omega
    · rw [if_neg hc] at hf
      obtain ⟨a_8, -, hf⟩ := zx_p hf
      obtain ⟨-, hf⟩ := zx_ck hf
      obtain ⟨s_11, hq, hf⟩ := zx_p hf
      have n_s_11 := zm_M_integer hq
      have n_z := zm_M_extensions_80 n s_11 a0 i1 i2 i3 hf
      omega
  · rw [if_neg hc] at hf
    have n_z := zm_M_extensions_80 n s0 a0 i1 i2 i3 hf
    omega
set_option maxHeartbeats 4000000 in
theorem zm_M_extensions {n : Nat} {s0 : zh_S} {a0 : Nat} {z : zh_S} (hf : zf_M_extensions n s0 a0 = some z) : zh_N s0 ≤ zh_N z ∧ zh_M s0 ≤ zh_M z := by
  rw [zf_M_extensions] at hf
  obtain ⟨-, hf⟩ := zx_ck hf
  obtain ⟨i_2, e_i_2, hf⟩ := zx_l hf
  obtain ⟨a_3, -, hf⟩ := zx_p hf
  obtain ⟨-, hf⟩ := zx_ck hf
  by_cases hc : (lg_cmp (zh_J s0 a_3 ((6 : Int32).toNatClampNeg)) (0 : Int64)) < 0
  · rw [if_pos hc] at hf
    have n_z := zm_M_extensions_94 n s0 a0 i_2 hf
    omega
  · rw [if_neg hc] at hf
    obtain ⟨i_7, s_6, hq, hf⟩ := zx_b hf
    have n_s_6 := zm_M_open hq
    obtain ⟨-, hf⟩ := zx_ck hf
    obtain ⟨i_9, e_i_9, hf⟩ := zx_l hf
    obtain ⟨a_10, -, hf⟩ := zx_p hf
    obtain ⟨-, hf⟩ := zx_ck hf
    by_cases hc : (lg_cmp (zh_J s_6 a_10 ((6 : Int32).toNatClampNeg)) (1 : Int64)) = 0
    · rw [if_pos hc] at hf
      obtain ⟨s_13, hq, hf⟩ := zx_p hf
      have n_s_13 := zm_M_yes hq
      have n_z := zm_M_extensions_45 n s_13 a0 i_2 i_7 i_9 hf
      omega
    · rw [if_neg hc] at hf
      have n_z := zm_M_extensions_45 n s_6 a0 i_2 i_7 i_9 hf
      omega
set_option maxHeartbeats 4000000 in
theorem zm_M_compose {n : Nat} {s0 : zh_S} {a0 : Nat} {r : Int32} {z : zh_S} (hf : zf_M_compose n s0 a0 = some (r, z)) : zh_N s0 ≤ zh_N z ∧ zh_M s0 ≤ zh_M z := by
  rw [zf_M_compose] at hf
  obtain ⟨-, hf⟩ := zx_ck hf
  obtain ⟨s_1, e_s_1, hf⟩ := zx_l hf
  have n_s_1 := zx_muI e_s_1
  obtain ⟨a_3, -, hf⟩ := zx_p hf
  obtain ⟨-, hf⟩ := zx_ck hf
  obtain ⟨s_6, hq, hf⟩ := zx_p hf
  have n_s_6 := zm_M_integer hq
  obtain ⟨-, hf⟩ := zx_ck hf
  obtain ⟨a_8, -, hf⟩ := zx_p hf
  obtain ⟨-, hf⟩ := zx_ck hf
  obtain ⟨s_11, hq, hf⟩ := zx_p hf
  have n_s_11 := zm_M_name hq
  obtain ⟨-, hf⟩ := zx_ck hf
  obtain ⟨a_13, -, hf⟩ := zx_p hf
  obtain ⟨-, hf⟩ := zx_ck hf
  obtain ⟨s_16, hq, hf⟩ := zx_p hf
  have n_s_16 := zm_M_integer hq
  obtain ⟨-, hf⟩ := zx_ck hf
  obtain ⟨a_18, -, hf⟩ := zx_p hf
  obtain ⟨-, hf⟩ := zx_ck hf
  obtain ⟨s_21, hq, hf⟩ := zx_p hf
  have n_s_21 := zm_M_integer hq
  obtain ⟨-, hf⟩ := zx_ck hf
  obtain ⟨a_23, -, hf⟩ := zx_p hf
  obtain ⟨-, hf⟩ := zx_ck hf
  obtain ⟨s_26, hq, hf⟩ := zx_p hf
  have n_s_26 := zm_M_name hq
  obtain ⟨-, hf⟩ := zx_ck hf
  obtain ⟨a_28, -, hf⟩ := zx_p hf
  obtain ⟨a_30, -, hf⟩ := zx_p hf
  obtain ⟨-, hf⟩ := zx_ck hf
  obtain ⟨-, hf⟩ := zx_ck hf
  obtain ⟨s_34, hq, hf⟩ := zx_p hf
  have n_s_34 := zm_M_integer hq
  obtain ⟨-, hf⟩ := zx_ck hf
  obtain ⟨a_36, -, hf⟩ := zx_p hf
  obtain ⟨a_38, -, hf⟩ := zx_p hf
  obtain ⟨-, hf⟩ := zx_ck hf
  obtain ⟨-, hf⟩ := zx_ck hf
  obtain ⟨s_42, hq, hf⟩ := zx_p hf
  have n_s_42 := zm_M_integer hq
  obtain ⟨-, hf⟩ := zx_ck hf
  obtain ⟨s_43, hq, hf⟩ := zx_p hf
  have n_s_43 := zm_M_extensions hq
  obtain ⟨-, hf⟩ := zx_ck hf
  obtain ⟨i_47, s_45, hq, hf⟩ := zx_b hf
  have n_s_45 := zm_M_signed hq
  obtain ⟨-, rfl⟩ := zx_r2 hf
  omega
set_option maxHeartbeats 4000000 in
theorem zm_Tool_dropRevoked {n : Nat} {s0 : zh_S} {a0 : Nat} {z : zh_S} (hf : zf_Tool_dropRevoked n s0 a0 = some z) : zh_N s0 ≤ zh_N z ∧ zh_M s0 ≤ zh_M z := by
  rw [zf_Tool_dropRevoked] at hf
  obtain ⟨-, hf⟩ := zx_ck hf
  obtain ⟨s_1, e_s_1, hf⟩ := zx_l hf
  have n_s_1 := zx_muI e_s_1
  obtain rfl := zx_r1 hf
  omega
set_option maxHeartbeats 4000000 in
theorem zm_V_forgive {n : Nat} {s0 : zh_S} {a0 : Nat} {z : zh_S} (hf : zf_V_forgive n s0 a0 = some z) : zh_N s0 ≤ zh_N z ∧ zh_M s0 ≤ zh_M z := by
  rw [zf_V_forgive] at hf
  obtain ⟨-, hf⟩ := zx_ck hf
  obtain ⟨a_2, -, hf⟩ := zx_p hf
  obtain ⟨-, hf⟩ := zx_ck hf
  obtain ⟨s_4, hq, hf⟩ := zx_p hf
  have n_s_4 := zm_Tool_dropRevoked hq
  obtain rfl := zx_r1 hf
  omega
set_option maxHeartbeats 4000000 in
theorem zm_M_forgive {n : Nat} {s0 : zh_S} {a0 : Nat} {z : zh_S} (hf : zf_M_forgive n s0 a0 = some z) : zh_N s0 ≤ zh_N z ∧ zh_M s0 ≤ zh_M z := by
  rw [zf_M_forgive] at hf
  obtain ⟨-, hf⟩ := zx_ck hf
  obtain ⟨s_1, e_s_1, hf⟩ := zx_l hf
  have n_s_1 := zx_muI e_s_1
  obtain rfl := zx_r1 hf
  omega
set_option maxHeartbeats 4000000 in
theorem zm_Tool_addRevoked {n : Nat} {s0 : zh_S} {a0 : Nat} {j1 : Int64} {j3 : Int64} {r : Int32} {z : zh_S} (hf : zf_Tool_addRevoked n s0 a0 j1 j3 = some (r, z)) : zh_N s0 ≤ zh_N z ∧ zh_M s0 ≤ zh_M z := by
  rw [zf_Tool_addRevoked] at hf
  by_cases hc : (lg_cmp j1 (0 : Int64)) < 0
  · rw [if_pos hc] at hf
    obtain ⟨-, rfl⟩ := zx_r2 hf
    omega
  · rw [if_neg hc] at hf
    by_cases hc : (lg_cmp j3 (0 : Int64)) < 0
    · rw [if_pos hc] at hf
      obtain ⟨-, rfl⟩ := zx_r2 hf
      omega
    · rw [if_neg hc] at hf
      obtain ⟨-, hf⟩ := zx_ck hf
      by_cases hc : (zh_I s0 a0 3) < (4 : Int32)
      · rw [if_pos hc] at hf
        obtain ⟨a_2, -, hf⟩ := zx_p hf
        obtain ⟨-, hf⟩ := zx_ck hf
        obtain ⟨s_4, e_s_4, hf⟩ := zx_l hf
        have n_s_4 := zx_muJ e_s_4
        obtain ⟨-, hf⟩ := zx_ck hf
        obtain ⟨a_7, -, hf⟩ := zx_p hf
        obtain ⟨-, hf⟩ := zx_ck hf
        obtain ⟨s_9, e_s_9, hf⟩ := zx_l hf
        have n_s_9 := zx_muJ e_s_9
        obtain ⟨-, hf⟩ := zx_ck hf
        obtain ⟨s_12, e_s_12, hf⟩ := zx_l hf
        have n_s_12 := zx_muI e_s_12
        obtain ⟨-, rfl⟩ := zx_r2 hf
        omega
      · rw [if_neg hc] at hf
        obtain ⟨-, rfl⟩ := zx_r2 hf
        omega
set_option maxHeartbeats 4000000 in
theorem zm_V_revoke {n : Nat} {s0 : zh_S} {a0 : Nat} {j1 : Int64} {j3 : Int64} {r : Int32} {z : zh_S} (hf : zf_V_revoke n s0 a0 j1 j3 = some (r, z)) : zh_N s0 ≤ zh_N z ∧ zh_M s0 ≤ zh_M z := by
  rw [zf_V_revoke] at hf
  obtain ⟨-, hf⟩ := zx_ck hf
  obtain ⟨a_2, -, hf⟩ := zx_p hf
  obtain ⟨-, hf⟩ := zx_ck hf
  obtain ⟨i_6, s_4, hq, hf⟩ := zx_b hf
  have n_s_4 := zm_Tool_addRevoked hq
  obtain ⟨-, hf⟩ := zx_ck hf
  obtain ⟨-, rfl⟩ := zx_r2 hf
  omega
set_option maxHeartbeats 4000000 in
theorem zm_M_revoke {n : Nat} {s0 : zh_S} {a0 : Nat} {j1 : Int64} {j3 : Int64} {r : Int32} {z : zh_S} (hf : zf_M_revoke n s0 a0 j1 j3 = some (r, z)) : zh_N s0 ≤ zh_N z ∧ zh_M s0 ≤ zh_M z := by
  rw [zf_M_revoke] at hf
  by_cases hc : (lg_cmp j1 (0 : Int64)) < 0
  · rw [if_pos hc] at hf
    obtain ⟨-, rfl⟩ := zx_r2 hf
    omega
  · rw [if_neg hc] at hf
    by_cases hc : (lg_cmp j3 (0 : Int64)) < 0
    · rw [if_pos hc] at hf
      obtain ⟨-, rfl⟩ := zx_r2 hf
      omega
    · rw [if_neg hc] at hf
      obtain ⟨-, hf⟩ := zx_ck hf
      by_cases hc : (zh_I s0 a0 3) = (4 : Int32)
      · rw [if_pos hc] at hf
        obtain ⟨-, rfl⟩ := zx_r2 hf
        omega
      · rw [if_neg hc] at hf
        obtain ⟨a_2, -, hf⟩ := zx_p hf
        obtain ⟨-, hf⟩ := zx_ck hf
        obtain ⟨s_4, e_s_4, hf⟩ := zx_l hf
        have n_s_4 := zx_muJ e_s_4
        obtain ⟨-, hf⟩ := zx_ck hf
        obtain ⟨a_7, -, hf⟩ := zx_p hf
        obtain ⟨-, hf⟩ := zx_ck hf
        obtain ⟨s_9, e_s_9, hf⟩ := zx_l hf
        have n_s_9 := zx_muJ e_s_9
        obtain ⟨-, hf⟩ := zx_ck hf
        obtain ⟨s_12, e_s_12, hf⟩ := zx_l hf
        have n_s_12 := zx_muI e_s_12
        obtain ⟨-, rfl⟩ := zx_r2 hf
        omega
set_option maxHeartbeats 4000000 in
theorem zm_Tool_accept {n : Nat} {s0 : zh_S} {a0 : Nat} {i1 : Int32} {j2 : Int64} {r : Int32} {z : zh_S} (hf : zf_Tool_accept n s0 a0 i1 j2 = some (r, z)) : zh_N s0 ≤ zh_N z ∧ zh_M s0 ≤ zh_M z := by
  rw [zf_Tool_accept] at hf
  obtain ⟨i_1, hq, hf⟩ := zx_p hf
  by_cases hc : i_1 = 0
  · rw [if_pos hc] at hf
    obtain ⟨-, rfl⟩ := zx_r2 hf
    omega
  · rw [if_neg hc] at hf
    obtain ⟨-, hf⟩ := zx_ck hf
    obtain ⟨a_3, -, hf⟩ := zx_p hf
    obtain ⟨-, hf⟩ := zx_ck hf
    obtain ⟨s_5, e_s_5, hf⟩ := zx_l hf
    have n_s_5 := zx_muJ e_s_5
    obtain ⟨-, rfl⟩ := zx_r2 hf
    omega
set_option maxHeartbeats 4000000 in
theorem zm_V_set {n : Nat} {s0 : zh_S} {a0 : Nat} {i1 : Int32} {j2 : Int64} {r : Int32} {z : zh_S} (hf : zf_V_set n s0 a0 i1 j2 = some (r, z)) : zh_N s0 ≤ zh_N z ∧ zh_M s0 ≤ zh_M z := by
  rw [zf_V_set] at hf
  obtain ⟨-, hf⟩ := zx_ck hf
  obtain ⟨a_2, -, hf⟩ := zx_p hf
  obtain ⟨-, hf⟩ := zx_ck hf
  obtain ⟨i_6, s_4, hq, hf⟩ := zx_b hf
  have n_s_4 := zm_Tool_accept hq
  obtain ⟨-, hf⟩ := zx_ck hf
  obtain ⟨-, rfl⟩ := zx_r2 hf
  omega
set_option maxHeartbeats 4000000 in
theorem zm_M_set_201 {z : zh_S} {r : Int32} (n : Nat) : ∀ (s0 : zh_S) (a0 : Nat) (i1 : Int32) (j2 : Int64) (i4 : Int32), zb_M_set_201 n s0 a0 i1 j2 i4 = some (r, z) → zh_N s0 ≤ zh_N z ∧ zh_M s0 ≤ zh_M z := by
  intro s0 a0 i1 j2 i4 hf
  rw [zb_M_set_201] at hf
  by_cases hc : i4 = 0
  · rw [if_pos hc] at hf
    obtain ⟨-, hf⟩ := zx_ck hf
    obtain ⟨-, rfl⟩ := zx_r2 hf
    omega
  · rw [if_neg hc] at hf
    obtain ⟨-, hf⟩ := zx_ck hf
    obtain ⟨a_3, -, hf⟩ := zx_p hf
    obtain ⟨-, hf⟩ := zx_ck hf
    obtain ⟨s_5, e_s_5, hf⟩ := zx_l hf
    have n_s_5 := zx_muJ e_s_5
    obtain ⟨-, hf⟩ := zx_ck hf
    obtain ⟨-, rfl⟩ := zx_r2 hf
    omega
set_option maxHeartbeats 4000000 in
theorem zm_M_set_181 {z : zh_S} {r : Int32} (n : Nat) : ∀ (s0 : zh_S) (a0 : Nat) (i1 : Int32) (j2 : Int64) (it0 : Int32), zb_M_set_181 n s0 a0 i1 j2 it0 = some (r, z) → zh_N s0 ≤ zh_N z ∧ zh_M s0 ≤ zh_M z := by
  intro s0 a0 i1 j2 it0 hf
  rw [zb_M_set_181] at hf
  have n_z := zm_M_set_201 n s0 a0 i1 j2 it0 hf
  omega
set_option maxHeartbeats 4000000 in
theorem zm_M_set_176 {z : zh_S} {r : Int32} (n : Nat) : ∀ (s0 : zh_S) (a0 : Nat) (i1 : Int32) (j2 : Int64), zb_M_set_176 n s0 a0 i1 j2 = some (r, z) → zh_N s0 ≤ zh_N z ∧ zh_M s0 ≤ zh_M z := by
  intro s0 a0 i1 j2 hf
  rw [zb_M_set_176] at hf
  have n_z := zm_M_set_181 n s0 a0 i1 j2 (1 : Int32) hf
  omega
set_option maxHeartbeats 4000000 in
theorem zm_M_set_158 {z : zh_S} {r : Int32} (n : Nat) : ∀ (s0 : zh_S) (a0 : Nat) (i1 : Int32) (j2 : Int64) (it0 : Int32), zb_M_set_158 n s0 a0 i1 j2 it0 = some (r, z) → zh_N s0 ≤ zh_N z ∧ zh_M s0 ≤ zh_M z := by
  intro s0 a0 i1 j2 it0 hf
  rw [zb_M_set_158] at hf
  have n_z := zm_M_set_201 n s0 a0 i1 j2 it0 hf
  omega
set_option maxHeartbeats 4000000 in
theorem zm_M_set_153 {z : zh_S} {r : Int32} (n : Nat) : ∀ (s0 : zh_S) (a0 : Nat) (i1 : Int32) (j2 : Int64), zb_M_set_153 n s0 a0 i1 j2 = some (r, z) → zh_N s0 ≤ zh_N z ∧ zh_M s0 ≤ zh_M z := by
  intro s0 a0 i1 j2 hf
  rw [zb_M_set_153] at hf
  have n_z := zm_M_set_158 n s0 a0 i1 j2 (1 : Int32) hf
  omega
set_option maxHeartbeats 4000000 in
theorem zm_M_set_79 {z : zh_S} {r : Int32} (n : Nat) : ∀ (s0 : zh_S) (a0 : Nat) (i1 : Int32) (j2 : Int64) (it0 : Int32), zb_M_set_79 n s0 a0 i1 j2 it0 = some (r, z) → zh_N s0 ≤ zh_N z ∧ zh_M s0 ≤ zh_M z := by
  intro s0 a0 i1 j2 it0 hf
  rw [zb_M_set_79] at hf
  have n_z := zm_M_set_201 n s0 a0 i1 j2 it0 hf
  omega
set_option maxHeartbeats 4000000 in
theorem zm_M_set {n : Nat} {s0 : zh_S} {a0 : Nat} {i1 : Int32} {j2 : Int64} {r : Int32} {z : zh_S} (hf : zf_M_set n s0 a0 i1 j2 = some (r, z)) : zh_N s0 ≤ zh_N z ∧ zh_M s0 ≤ zh_M z := by
  rw [zf_M_set] at hf
  by_cases hc : i1 = 0
  · rw [if_pos hc] at hf
    by_cases hc : (lg_cmp j2 (0 : Int64)) < 0
    · rw [if_pos hc] at hf
      have n_z := zm_M_set_79 n s0 a0 i1 j2 (0 : Int32) hf
      omega
    · rw [if_neg hc] at hf
      have n_z := zm_M_set_79 n s0 a0 i1 j2 (1 : Int32) hf
      omega
  rw [if_neg hc] at hf
  by_cases hc : i1 = 1
  · rw [if_pos hc] at hf
    obtain ⟨i_1, hq, hf⟩ := zx_p hf
    have n_z := zm_M_set_201 n s0 a0 i1 j2 i_1 hf
    omega
  rw [if_neg hc] at hf
  by_cases hc : i1 = 2
  · rw [if_pos hc] at hf
    by_cases hc : (lg_cmp j2 (0 : Int64)) < 0
    · rw [if_pos hc] at hf
      have n_z := zm_M_set_79 n s0 a0 i1 j2 (0 : Int32) hf
      omega
    · rw [if_neg hc] at hf
      have n_z := zm_M_set_79 n s0 a0 i1 j2 (1 : Int32) hf
      omega
  rw [if_neg hc] at hf
  by_cases hc : i1 = 3
  · rw [if_pos hc] at hf
    by_cases hc : (lg_cmp j2 (0 : Int64)) < 0
    · rw [if_pos hc] at hf
      have n_z := zm_M_set_79 n s0 a0 i1 j2 (0 : Int32) hf
      omega
    · rw [if_neg hc] at hf
      have n_z := zm_M_set_79 n s0 a0 i1 j2 (1 : Int32) hf
      omega
  rw [if_neg hc] at hf
  by_cases hc : i1 = 4
  · rw [if_pos hc] at hf
    obtain ⟨i_2, hq, hf⟩ := zx_p hf
    have n_z := zm_M_set_201 n s0 a0 i1 j2 i_2 hf
    omega
  rw [if_neg hc] at hf
  by_cases hc : i1 = 5
  · rw [if_pos hc] at hf
    obtain ⟨i_3, hq, hf⟩ := zx_p hf
    have n_z := zm_M_set_201 n s0 a0 i1 j2 i_3 hf
    omega
  rw [if_neg hc] at hf
  by_cases hc : i1 = 6
  · rw [if_pos hc] at hf
    obtain ⟨i_4, hq, hf⟩ := zx_p hf
    have n_z := zm_M_set_201 n s0 a0 i1 j2 i_4 hf
    omega
  rw [if_neg hc] at hf
  by_cases hc : i1 = 7
  · rw [if_pos hc] at hf
    obtain ⟨i_5, hq, hf⟩ := zx_p hf
    have n_z := zm_M_set_201 n s0 a0 i1 j2 i_5 hf
    omega
  rw [if_neg hc] at hf
  by_cases hc : i1 = 8
  · rw [if_pos hc] at hf
    by_cases hc : (lg_cmp j2 (-1 : Int64)) = 0
    · rw [if_pos hc] at hf
      have n_z := zm_M_set_153 n s0 a0 i1 j2 hf
      omega
    · rw [if_neg hc] at hf
      obtain ⟨i_6, hq, hf⟩ := zx_p hf
      by_cases hc : i_6 = 0
      · rw [if_pos hc] at hf
        have n_z := zm_M_set_158 n s0 a0 i1 j2 (0 : Int32) hf
        omega
      · rw [if_neg hc] at hf
        have n_z := zm_M_set_153 n s0 a0 i1 j2 hf
        omega
  rw [if_neg hc] at hf
  by_cases hc : i1 = 9
  · rw [if_pos hc] at hf
    by_cases hc : (lg_cmp j2 (0 : Int64)) = 0
    · rw [if_pos hc] at hf
      have n_z := zm_M_set_176 n s0 a0 i1 j2 hf
      omega
    · rw [if_neg hc] at hf
      obtain ⟨i_7, hq, hf⟩ := zx_p hf
      by_cases hc : i_7 = 0
      · rw [if_pos hc] at hf
        have n_z := zm_M_set_181 n s0 a0 i1 j2 (0 : Int32) hf
        omega
      · rw [if_neg hc] at hf
        have n_z := zm_M_set_176 n s0 a0 i1 j2 hf
        omega
  rw [if_neg hc] at hf
  by_cases hc : i1 = 10
  · rw [if_pos hc] at hf
    by_cases hc : (lg_cmp j2 (0 : Int64)) = 0
    · rw [if_pos hc] at hf
      have n_z := zm_M_set_176 n s0 a0 i1 j2 hf
      omega
    · rw [if_neg hc] at hf
      obtain ⟨i_8, hq, hf⟩ := zx_p hf
      by_cases hc : i_8 = 0
      · rw [if_pos hc] at hf
        have n_z := zm_M_set_181 n s0 a0 i1 j2 (0 : Int32) hf
        omega
      · rw [if_neg hc] at hf
        have n_z := zm_M_set_176 n s0 a0 i1 j2 hf
        omega
  rw [if_neg hc] at hf
  by_cases hc : i1 = 11
  · rw [if_pos hc] at hf
    obtain ⟨i_9, hq, hf⟩ := zx_p hf
    have n_z := zm_M_set_201 n s0 a0 i1 j2 i_9 hf
    omega
  rw [if_neg hc] at hf
  by_cases hc : i1 = 12
  · rw [if_pos hc] at hf
    obtain ⟨i_10, hq, hf⟩ := zx_p hf
    have n_z := zm_M_set_201 n s0 a0 i1 j2 i_10 hf
    omega
  rw [if_neg hc] at hf
  obtain ⟨-, rfl⟩ := zx_r2 hf
  omega
set_option maxHeartbeats 4000000 in
theorem zm_V_clear {n : Nat} {s0 : zh_S} {a0 : Nat} {z : zh_S} (hf : zf_V_clear n s0 a0 = some z) : zh_N s0 ≤ zh_N z ∧ zh_M s0 ≤ zh_M z := by
  rw [zf_V_clear] at hf
  obtain ⟨-, hf⟩ := zx_ck hf
  obtain ⟨a_2, -, hf⟩ := zx_p hf
  obtain ⟨-, hf⟩ := zx_ck hf
  obtain ⟨s_4, hq, hf⟩ := zx_p hf
  have n_s_4 := zm_Draft_empty hq
  obtain rfl := zx_r1 hf
  omega
set_option maxHeartbeats 4000000 in
theorem zm_M_clear {n : Nat} {s0 : zh_S} {a0 : Nat} {z : zh_S} (hf : zf_M_clear n s0 a0 = some z) : zh_N s0 ≤ zh_N z ∧ zh_M s0 ≤ zh_M z := by
  rw [zf_M_clear] at hf
  obtain ⟨-, hf⟩ := zx_ck hf
  obtain ⟨s_1, e_s_1, hf⟩ := zx_l hf
  have n_s_1 := zx_muI e_s_1
  obtain rfl := zx_r1 hf
  omega
set_option maxHeartbeats 4000000 in
theorem zm_Draft_replace {n : Nat} {s0 : zh_S} {a0 : Nat} {i1 : Int32} {i2 : Int32} {r : Int32} {z : zh_S} (hf : zf_Draft_replace n s0 a0 i1 i2 = some (r, z)) : zh_N s0 ≤ zh_N z ∧ zh_M s0 ≤ zh_M z := by
  rw [zf_Draft_replace] at hf
  obtain ⟨-, hf⟩ := zx_ck hf
  obtain ⟨i_2, hq, hf⟩ := zx_p hf
  by_cases hc : i_2 = 0
  · rw [if_pos hc] at hf
    obtain ⟨-, rfl⟩ := zx_r2 hf
    omega
  · rw [if_neg hc] at hf
    obtain ⟨i_3, hq, hf⟩ := zx_p hf
    by_cases hc : i_3 = 0
    · rw [if_pos hc] at hf
      obtain ⟨-, rfl⟩ := zx_r2 hf
      omega
    · rw [if_neg hc] at hf
      obtain ⟨a_4, -, hf⟩ := zx_p hf
      obtain ⟨-, hf⟩ := zx_ck hf
      obtain ⟨s_6, e_s_6, hf⟩ := zx_l hf
      have n_s_6 := zx_muI e_s_6
      obtain ⟨-, rfl⟩ := zx_r2 hf
      omega
set_option maxHeartbeats 4000000 in
theorem zm_V_poke {n : Nat} {s0 : zh_S} {a0 : Nat} {i1 : Int32} {i2 : Int32} {r : Int32} {z : zh_S} (hf : zf_V_poke n s0 a0 i1 i2 = some (r, z)) : zh_N s0 ≤ zh_N z ∧ zh_M s0 ≤ zh_M z := by
  rw [zf_V_poke] at hf
  obtain ⟨-, hf⟩ := zx_ck hf
  obtain ⟨a_2, -, hf⟩ := zx_p hf
  obtain ⟨-, hf⟩ := zx_ck hf
  obtain ⟨i_6, s_4, hq, hf⟩ := zx_b hf
  have n_s_4 := zm_Draft_replace hq
  obtain ⟨-, hf⟩ := zx_ck hf
  obtain ⟨-, rfl⟩ := zx_r2 hf
  omega
set_option maxHeartbeats 4000000 in
theorem zm_M_poke {n : Nat} {s0 : zh_S} {a0 : Nat} {i1 : Int32} {i2 : Int32} {r : Int32} {z : zh_S} (hf : zf_M_poke n s0 a0 i1 i2 = some (r, z)) : zh_N s0 ≤ zh_N z ∧ zh_M s0 ≤ zh_M z := by
  rw [zf_M_poke] at hf
  by_cases hc : i1 < 0
  · rw [if_pos hc] at hf
    obtain ⟨-, rfl⟩ := zx_r2 hf
    omega
  · rw [if_neg hc] at hf
    obtain ⟨-, hf⟩ := zx_ck hf
    by_cases hc : (zh_I s0 a0 1) ≤ i1
    · rw [if_pos hc] at hf
      obtain ⟨-, rfl⟩ := zx_r2 hf
      omega
    · rw [if_neg hc] at hf
      obtain ⟨i_2, hq, hf⟩ := zx_p hf
      by_cases hc : i_2 = 0
      · rw [if_pos hc] at hf
        obtain ⟨-, rfl⟩ := zx_r2 hf
        omega
      · rw [if_neg hc] at hf
        obtain ⟨a_3, -, hf⟩ := zx_p hf
        obtain ⟨-, hf⟩ := zx_ck hf
        obtain ⟨s_5, e_s_5, hf⟩ := zx_l hf
        have n_s_5 := zx_muI e_s_5
        obtain ⟨-, rfl⟩ := zx_r2 hf
        omega
set_option maxHeartbeats 4000000 in
theorem zm_V_put {n : Nat} {s0 : zh_S} {a0 : Nat} {i1 : Int32} {r : Int32} {z : zh_S} (hf : zf_V_put n s0 a0 i1 = some (r, z)) : zh_N s0 ≤ zh_N z ∧ zh_M s0 ≤ zh_M z := by
  rw [zf_V_put] at hf
  obtain ⟨-, hf⟩ := zx_ck hf
  obtain ⟨a_2, -, hf⟩ := zx_p hf
  obtain ⟨-, hf⟩ := zx_ck hf
  obtain ⟨i_6, s_4, hq, hf⟩ := zx_b hf
  have n_s_4 := zm_Draft_append hq
  obtain ⟨-, hf⟩ := zx_ck hf
  obtain ⟨-, rfl⟩ := zx_r2 hf
  omega
set_option maxHeartbeats 4000000 in
theorem zm_M_put {n : Nat} {s0 : zh_S} {a0 : Nat} {i1 : Int32} {r : Int32} {z : zh_S} (hf : zf_M_put n s0 a0 i1 = some (r, z)) : zh_N s0 ≤ zh_N z ∧ zh_M s0 ≤ zh_M z := by
  rw [zf_M_put] at hf
  obtain ⟨i_1, hq, hf⟩ := zx_p hf
  by_cases hc : i_1 = 0
  · rw [if_pos hc] at hf
    obtain ⟨-, rfl⟩ := zx_r2 hf
    omega
  · rw [if_neg hc] at hf
    obtain ⟨-, hf⟩ := zx_ck hf
    by_cases hc : (zh_I s0 a0 1) = (200 : Int32)
    · rw [if_pos hc] at hf
      obtain ⟨-, rfl⟩ := zx_r2 hf
      omega
    · rw [if_neg hc] at hf
      obtain ⟨a_3, -, hf⟩ := zx_p hf
      obtain ⟨-, hf⟩ := zx_ck hf
      obtain ⟨s_5, e_s_5, hf⟩ := zx_l hf
      have n_s_5 := zx_muI e_s_5
      obtain ⟨-, hf⟩ := zx_ck hf
      obtain ⟨s_8, e_s_8, hf⟩ := zx_l hf
      have n_s_8 := zx_muI e_s_8
      obtain ⟨-, rfl⟩ := zx_r2 hf
      omega
set_option maxHeartbeats 4000000 in
theorem zm_L_law_849 {z : zh_S} {r : Int32} (n : Nat) (xs : Nat → Int32) (L : Nat) (r18 : zh_S → Nat → Nat → Int32 → Option (Int32 × zh_S)) (hr18 : ∀ (s0 : zh_S) (a1 : Nat) (a2 : Nat) (i3 : Int32), r18 s0 a1 a2 i3 = some (r, z) → zh_N s0 ≤ zh_N z ∧ zh_M s0 ≤ zh_M z) : ∀ (s0 : zh_S) (a1 : Nat) (a2 : Nat) (i3 : Int32), zb_L_law_849 n xs L r18 s0 a1 a2 i3 = some (r, z) → zh_N s0 ≤ zh_N z ∧ zh_M s0 ≤ zh_M z := by
  intro s0 a1 a2 i3 hf
  rw [zb_L_law_849] at hf
  obtain ⟨i_1, e_i_1, hf⟩ := zx_l hf
  have n_z := hr18 s0 a1 a2 i_1 hf
  omega
set_option maxHeartbeats 4000000 in
theorem zm_L_law_434 {z : zh_S} {r : Int32} (n : Nat) (xs : Nat → Int32) (L : Nat) (r18 : zh_S → Nat → Nat → Int32 → Option (Int32 × zh_S)) (hr18 : ∀ (s0 : zh_S) (a1 : Nat) (a2 : Nat) (i3 : Int32), r18 s0 a1 a2 i3 = some (r, z) → zh_N s0 ≤ zh_N z ∧ zh_M s0 ≤ zh_M z) : ∀ (s0 : zh_S) (a1 : Nat) (a2 : Nat) (i3 : Int32) (it0 : Int32) (at1 : Nat) (it2 : Int32), zb_L_law_434 n xs L r18 s0 a1 a2 i3 it0 at1 it2 = some (r, z) → zh_N s0 ≤ zh_N z ∧ zh_M s0 ≤ zh_M z := by
  intro s0 a1 a2 i3 it0 at1 it2 hf
  rw [zb_L_law_434] at hf
  obtain ⟨-, hf⟩ := zx_ck hf
  obtain ⟨i_3, s_1, hq, hf⟩ := zx_b hf
  have n_s_1 := zm_M_check hq
  by_cases hc : it0 = i_3
  · rw [if_pos hc] at hf
    have n_z := zm_L_law_849 n xs L _ hr18 s_1 a1 a2 i3 hf
    omega
  · rw [if_neg hc] at hf
    obtain ⟨-, rfl⟩ := zx_r2 hf
    omega
set_option maxHeartbeats 4000000 in
theorem zm_L_law_417 {z : zh_S} {r : Int32} (n : Nat) (xs : Nat → Int32) (L : Nat) (r18 : zh_S → Nat → Nat → Int32 → Option (Int32 × zh_S)) (hr18 : ∀ (s0 : zh_S) (a1 : Nat) (a2 : Nat) (i3 : Int32), r18 s0 a1 a2 i3 = some (r, z) → zh_N s0 ≤ zh_N z ∧ zh_M s0 ≤ zh_M z) : ∀ (s0 : zh_S) (a1 : Nat) (a2 : Nat) (i3 : Int32) (at0 : Nat) (it1 : Int32), zb_L_law_417 n xs L r18 s0 a1 a2 i3 at0 it1 = some (r, z) → zh_N s0 ≤ zh_N z ∧ zh_M s0 ≤ zh_M z := by
  intro s0 a1 a2 i3 at0 it1 hf
  rw [zb_L_law_417] at hf
  obtain ⟨-, hf⟩ := zx_ck hf
  obtain ⟨i_3, s_1, hq, hf⟩ := zx_b hf
  have n_s_1 := zm_V_check hq
  obtain ⟨-, hf⟩ := zx_ck hf
  by_cases hc : (xs (i3 + (1 : Int32)).toNatClampNeg) = 0
  · rw [if_pos hc] at hf
    have n_z := zm_L_law_434 n xs L _ hr18 s_1 a1 a2 i3 i_3 a2 (0 : Int32) hf
    omega
  · rw [if_neg hc] at hf
    have n_z := zm_L_law_434 n xs L _ hr18 s_1 a1 a2 i3 i_3 a2 (1 : Int32) hf
    omega
set_option maxHeartbeats 4000000 in
theorem zm_L_law_624 {z : zh_S} {r : Int32} (n : Nat) (xs : Nat → Int32) (L : Nat) (r18 : zh_S → Nat → Nat → Int32 → Option (Int32 × zh_S)) (hr18 : ∀ (s0 : zh_S) (a1 : Nat) (a2 : Nat) (i3 : Int32), r18 s0 a1 a2 i3 = some (r, z) → zh_N s0 ≤ zh_N z ∧ zh_M s0 ≤ zh_M z) : ∀ (s0 : zh_S) (a1 : Nat) (a2 : Nat) (i3 : Int32) (it0 : Int32) (at1 : Nat) (it2 : Int32) (jt3 : Int64) (it4 : Int32) (it5 : Int32), zb_L_law_624 n xs L r18 s0 a1 a2 i3 it0 at1 it2 jt3 it4 it5 = some (r, z) → zh_N s0 ≤ zh_N z ∧ zh_M s0 ≤ zh_M z := by
  intro s0 a1 a2 i3 it0 at1 it2 jt3 it4 it5 hf
  rw [zb_L_law_624] at hf
  obtain ⟨-, hf⟩ := zx_ck hf
  obtain ⟨i_3, s_1, hq, hf⟩ := zx_b hf
  have n_s_1 := zm_M_validate hq
  by_cases hc : it0 = i_3
  · rw [if_pos hc] at hf
    have n_z := zm_L_law_849 n xs L _ hr18 s_1 a1 a2 i3 hf
    omega
  · rw [if_neg hc] at hf
    obtain ⟨-, rfl⟩ := zx_r2 hf
    omega
set_option maxHeartbeats 4000000 in
theorem zm_L_law_577 {z : zh_S} {r : Int32} (n : Nat) (xs : Nat → Int32) (L : Nat) (r18 : zh_S → Nat → Nat → Int32 → Option (Int32 × zh_S)) (hr18 : ∀ (s0 : zh_S) (a1 : Nat) (a2 : Nat) (i3 : Int32), r18 s0 a1 a2 i3 = some (r, z) → zh_N s0 ≤ zh_N z ∧ zh_M s0 ≤ zh_M z) : ∀ (s0 : zh_S) (a1 : Nat) (a2 : Nat) (i3 : Int32) (at0 : Nat) (it1 : Int32) (jt2 : Int64) (it3 : Int32) (it4 : Int32), zb_L_law_577 n xs L r18 s0 a1 a2 i3 at0 it1 jt2 it3 it4 = some (r, z) → zh_N s0 ≤ zh_N z ∧ zh_M s0 ≤ zh_M z := by
  intro s0 a1 a2 i3 at0 it1 jt2 it3 it4 hf
  rw [zb_L_law_577] at hf
  obtain ⟨-, hf⟩ := zx_ck hf
  obtain ⟨i_3, s_1, hq, hf⟩ := zx_b hf
  have n_s_1 := zm_V_validate hq
  obtain ⟨-, hf⟩ := zx_ck hf
  obtain ⟨-, hf⟩ := zx_ck hf
  obtain ⟨-, hf⟩ := zx_ck hf
  obtain ⟨-, hf⟩ := zx_ck hf
  obtain ⟨-, hf⟩ := zx_ck hf
  by_cases hc : (xs (i3 + (5 : Int32)).toNatClampNeg) = 0
  · rw [if_pos hc] at hf
    have n_z := zm_L_law_624 n xs L _ hr18 s_1 a1 a2 i3 i_3 a2 (xs (i3 + (1 : Int32)).toNatClampNeg) (((xs (i3 + (2 : Int32)).toNatClampNeg).toInt64 <<< ((32 : Int32).toInt64 &&& 63)) ||| ((xs (i3 + (3 : Int32)).toNatClampNeg).toInt64 &&& (4294967295 : Int64))) (xs (i3 + (4 : Int32)).toNatClampNeg) (0 : Int32) hf
    omega
  · rw [if_neg hc] at hf
    have n_z := zm_L_law_624 n xs L _ hr18 s_1 a1 a2 i3 i_3 a2 (xs (i3 + (1 : Int32)).toNatClampNeg) (((xs (i3 + (2 : Int32)).toNatClampNeg).toInt64 <<< ((32 : Int32).toInt64 &&& 63)) ||| ((xs (i3 + (3 : Int32)).toNatClampNeg).toInt64 &&& (4294967295 : Int64))) (xs (i3 + (4 : Int32)).toNatClampNeg) (1 : Int32) hf
    omega
set_option maxHeartbeats 4000000 in
theorem zm_L_law_18 {z : zh_S} {r : Int32} (n : Nat) (xs : Nat → Int32) (L : Nat) (k : Nat) : ∀ (s0 : zh_S) (a1 : Nat) (a2 : Nat) (i3 : Int32), zl_L_law_18 n xs L k s0 a1 a2 i3 = some (r, z) → zh_N s0 ≤ zh_N z ∧ zh_M s0 ≤ zh_M z := by
  induction k with
  | zero => intro s0 a1 a2 i3 hf; cases hf
  | succ k ih =>
    intro s0 a1 a2 i3 hf
    rw [zl_L_law_18] at hf
    by_cases hc : ((Int32.ofNat L) - (8 : Int32)) < i3
    · rw [if_pos hc] at hf
      obtain ⟨-, rfl⟩ := zx_r2 hf
      omega
    · rw [if_neg hc] at hf
      obtain ⟨-, hf⟩ := zx_ck hf
      by_cases hc : ((xs i3.toNatClampNeg) &&& (31 : Int32)) = 0
      · rw [if_pos hc] at hf
        obtain ⟨-, hf⟩ := zx_ck hf
        obtain ⟨-, hf⟩ := zx_ck hf
        obtain ⟨i_5, s_3, hq, hf⟩ := zx_b hf
        have n_s_3 := zm_V_put hq
        obtain ⟨-, hf⟩ := zx_ck hf
        obtain ⟨-, hf⟩ := zx_ck hf
        obtain ⟨i_9, s_7, hq, hf⟩ := zx_b hf
        have n_s_7 := zm_M_put hq
        by_cases hc : i_5 = i_9
        · rw [if_pos hc] at hf
          have n_z := zm_L_law_849 n xs L _ ih s_7 a1 a2 i3 hf
          omega
        · rw [if_neg hc] at hf
          obtain ⟨-, rfl⟩ := zx_r2 hf
          omega
      rw [if_neg hc] at hf
      by_cases hc : ((xs i3.toNatClampNeg) &&& (31 : Int32)) = 1
      · rw [if_pos hc] at hf
        obtain ⟨-, hf⟩ := zx_ck hf
        obtain ⟨-, hf⟩ := zx_ck hf
        obtain ⟨-, hf⟩ := zx_ck hf
        obtain ⟨i_14, s_12, hq, hf⟩ := zx_b hf
        have n_s_12 := zm_V_poke hq
        obtain ⟨-, hf⟩ := zx_ck hf
        obtain ⟨-, hf⟩ := zx_ck hf
        obtain ⟨-, hf⟩ := zx_ck hf
        obtain ⟨i_19, s_17, hq, hf⟩ := zx_b hf
        have n_s_17 := zm_M_poke hq
        by_cases hc : i_14 = i_19
        · rw [if_pos hc] at hf
          have n_z := zm_L_law_849 n xs L _ ih s_17 a1 a2 i3 hf
          omega
        · rw [if_neg hc] at hf
          obtain ⟨-, rfl⟩ := zx_r2 hf
          omega
      rw [if_neg hc] at hf
      by_cases hc : ((xs i3.toNatClampNeg) &&& (31 : Int32)) = 2
      · rw [if_pos hc] at hf
        obtain ⟨-, hf⟩ := zx_ck hf
        obtain ⟨s_20, hq, hf⟩ := zx_p hf
        have n_s_20 := zm_V_clear hq
        obtain ⟨-, hf⟩ := zx_ck hf
        obtain ⟨s_22, hq, hf⟩ := zx_p hf
        have n_s_22 := zm_M_clear hq
        have n_z := zm_L_law_849 n xs L _ ih s_22 a1 a2 i3 hf
        omega
      rw [if_neg hc] at hf
      by_cases hc : ((xs i3.toNatClampNeg) &&& (31 : Int32)) = 3
      · rw [if_pos hc] at hf
        obtain ⟨-, hf⟩ := zx_ck hf
        obtain ⟨-, hf⟩ := zx_ck hf
        obtain ⟨i_26, hq, hf⟩ := zx_p hf
        obtain ⟨-, hf⟩ := zx_ck hf
        obtain ⟨-, hf⟩ := zx_ck hf
        obtain ⟨i_29, hq, hf⟩ := zx_p hf
        by_cases hc : i_26 = i_29
        · rw [if_pos hc] at hf
          have n_z := zm_L_law_849 n xs L _ ih s0 a1 a2 i3 hf
          omega
        · rw [if_neg hc] at hf
          obtain ⟨-, rfl⟩ := zx_r2 hf
          omega
      rw [if_neg hc] at hf
      by_cases hc : ((xs i3.toNatClampNeg) &&& (31 : Int32)) = 4
      · rw [if_pos hc] at hf
        obtain ⟨-, hf⟩ := zx_ck hf
        obtain ⟨-, hf⟩ := zx_ck hf
        obtain ⟨-, hf⟩ := zx_ck hf
        obtain ⟨-, hf⟩ := zx_ck hf
        obtain ⟨i_35, s_33, hq, hf⟩ := zx_b hf
        have n_s_33 := zm_V_set hq
        obtain ⟨-, hf⟩ := zx_ck hf
        obtain ⟨-, hf⟩ := zx_ck hf
        obtain ⟨-, hf⟩ := zx_ck hf
        obtain ⟨-, hf⟩ := zx_ck hf
        obtain ⟨i_41, s_39, hq, hf⟩ := zx_b hf
        have n_s_39 := zm_M_set hq
        by_cases hc : i_35 = i_41
        · rw [if_pos hc] at hf
          have n_z := zm_L_law_849 n xs L _ ih s_39 a1 a2 i3 hf
          omega
        · rw [if_neg hc] at hf
          obtain ⟨-, rfl⟩ := zx_r2 hf
          omega
      rw [if_neg hc] at hf
      by_cases hc : ((xs i3.toNatClampNeg) &&& (31 : Int32)) = 5
      · rw [if_pos hc] at hf
        obtain ⟨-, hf⟩ := zx_ck hf
        obtain ⟨-, hf⟩ := zx_ck hf
        obtain ⟨-, hf⟩ := zx_ck hf
        obtain ⟨-, hf⟩ := zx_ck hf
        obtain ⟨-, hf⟩ := zx_ck hf
        obtain ⟨i_48, s_46, hq, hf⟩ := zx_b hf
        have n_s_46 := zm_V_revoke hq
        obtain ⟨-, hf⟩ := zx_ck hf
        obtain ⟨-, hf⟩ := zx_ck hf
        obtain ⟨-, hf⟩ := zx_ck hf
        obtain ⟨-, hf⟩ := zx_ck hf
        obtain ⟨-, hf⟩ := zx_ck hf
        obtain ⟨i_55, s_53, hq, hf⟩ := zx_b hf
        have n_s_53 := zm_M_revoke hq
        by_cases hc : i_48 = i_55
        · rw [if_pos hc] at hf
          have n_z := zm_L_law_849 n xs L _ ih s_53 a1 a2 i3 hf
          omega
        · rw [if_neg hc] at hf
          obtain ⟨-, rfl⟩ := zx_r2 hf
          omega
      rw [if_neg hc] at hf
      by_cases hc : ((xs i3.toNatClampNeg) &&& (31 : Int32)) = 6
      · rw [if_pos hc] at hf
        obtain ⟨-, hf⟩ := zx_ck hf
        obtain ⟨s_56, hq, hf⟩ := zx_p hf
        have n_s_56 := zm_V_forgive hq
        obtain ⟨-, hf⟩ := zx_ck hf
        obtain ⟨s_58, hq, hf⟩ := zx_p hf
        have n_s_58 := zm_M_forgive hq
        have n_z := zm_L_law_849 n xs L _ ih s_58 a1 a2 i3 hf
        omega
      rw [if_neg hc] at hf
      by_cases hc : ((xs i3.toNatClampNeg) &&& (31 : Int32)) = 7
      · rw [if_pos hc] at hf
        obtain ⟨-, hf⟩ := zx_ck hf
        obtain ⟨i_62, s_60, hq, hf⟩ := zx_b hf
        have n_s_60 := zm_V_compose hq
        obtain ⟨-, hf⟩ := zx_ck hf
        obtain ⟨i_65, s_63, hq, hf⟩ := zx_b hf
        have n_s_63 := zm_M_compose hq
        by_cases hc : i_62 = i_65
        · rw [if_pos hc] at hf
          have n_z := zm_L_law_849 n xs L _ ih s_63 a1 a2 i3 hf
          omega
        · rw [if_neg hc] at hf
          obtain ⟨-, rfl⟩ := zx_r2 hf
          omega
      rw [if_neg hc] at hf
      by_cases hc : ((xs i3.toNatClampNeg) &&& (31 : Int32)) = 8
      · rw [if_pos hc] at hf
        obtain ⟨-, hf⟩ := zx_ck hf
        obtain ⟨i_68, s_66, hq, hf⟩ := zx_b hf
        have n_s_66 := zm_V_composeList hq
        obtain ⟨-, hf⟩ := zx_ck hf
        obtain ⟨i_71, s_69, hq, hf⟩ := zx_b hf
        have n_s_69 := zm_M_composeList hq
        by_cases hc : i_68 = i_71
        · rw [if_pos hc] at hf
          have n_z := zm_L_law_849 n xs L _ ih s_69 a1 a2 i3 hf
          omega
        · rw [if_neg hc] at hf
          obtain ⟨-, rfl⟩ := zx_r2 hf
          omega
      rw [if_neg hc] at hf
      by_cases hc : ((xs i3.toNatClampNeg) &&& (31 : Int32)) = 9
      · rw [if_pos hc] at hf
        obtain ⟨-, hf⟩ := zx_ck hf
        by_cases hc : (xs (i3 + (1 : Int32)).toNatClampNeg) = 0
        · rw [if_pos hc] at hf
          have n_z := zm_L_law_417 n xs L _ ih s0 a1 a2 i3 a1 (0 : Int32) hf
          omega
        · rw [if_neg hc] at hf
          have n_z := zm_L_law_417 n xs L _ ih s0 a1 a2 i3 a1 (1 : Int32) hf
          omega
      rw [if_neg hc] at hf
      by_cases hc : ((xs i3.toNatClampNeg) &&& (31 : Int32)) = 10
      · rw [if_pos hc] at hf
        obtain ⟨-, hf⟩ := zx_ck hf
        obtain ⟨-, hf⟩ := zx_ck hf
        obtain ⟨i_76, s_74, hq, hf⟩ := zx_b hf
        have n_s_74 := zm_V_store hq
        obtain ⟨-, hf⟩ := zx_ck hf
        obtain ⟨-, hf⟩ := zx_ck hf
        obtain ⟨i_80, s_78, hq, hf⟩ := zx_b hf
        have n_s_78 := zm_M_store hq
        by_cases hc : i_76 = i_80
        · rw [if_pos hc] at hf
          have n_z := zm_L_law_849 n xs L _ ih s_78 a1 a2 i3 hf
          omega
        · rw [if_neg hc] at hf
          obtain ⟨-, rfl⟩ := zx_r2 hf
          omega
      rw [if_neg hc] at hf
      by_cases hc : ((xs i3.toNatClampNeg) &&& (31 : Int32)) = 11
      · rw [if_pos hc] at hf
        obtain ⟨-, hf⟩ := zx_ck hf
        obtain ⟨-, hf⟩ := zx_ck hf
        obtain ⟨-, hf⟩ := zx_ck hf
        obtain ⟨j_84, hq, hf⟩ := zx_p hf
        obtain ⟨-, hf⟩ := zx_ck hf
        obtain ⟨-, hf⟩ := zx_ck hf
        obtain ⟨-, hf⟩ := zx_ck hf
        obtain ⟨j_88, hq, hf⟩ := zx_p hf
        by_cases hc : (lg_cmp j_84 j_88) = 0
        · rw [if_pos hc] at hf
          have n_z := zm_L_law_849 n xs L _ ih s0 a1 a2 i3 hf
          omega
        · rw [if_neg hc] at hf
          obtain ⟨-, rfl⟩ := zx_r2 hf
          omega
      rw [if_neg hc] at hf
      by_cases hc : ((xs i3.toNatClampNeg) &&& (31 : Int32)) = 12
      · rw [if_pos hc] at hf
        obtain ⟨-, hf⟩ := zx_ck hf
        obtain ⟨-, hf⟩ := zx_ck hf
        obtain ⟨-, hf⟩ := zx_ck hf
        obtain ⟨j_92, hq, hf⟩ := zx_p hf
        obtain ⟨-, hf⟩ := zx_ck hf
        obtain ⟨-, hf⟩ := zx_ck hf
        obtain ⟨-, hf⟩ := zx_ck hf
        obtain ⟨j_96, hq, hf⟩ := zx_p hf
        by_cases hc : (lg_cmp j_92 j_96) = 0
        · rw [if_pos hc] at hf
          have n_z := zm_L_law_849 n xs L _ ih s0 a1 a2 i3 hf
          omega
        · rw [if_neg hc] at hf
          obtain ⟨-, rfl⟩ := zx_r2 hf
          omega
      rw [if_neg hc] at hf
      by_cases hc : ((xs i3.toNatClampNeg) &&& (31 : Int32)) = 13
      · rw [if_pos hc] at hf
        obtain ⟨-, hf⟩ := zx_ck hf
        obtain ⟨-, hf⟩ := zx_ck hf
        obtain ⟨-, hf⟩ := zx_ck hf
        obtain ⟨-, hf⟩ := zx_ck hf
        obtain ⟨-, hf⟩ := zx_ck hf
        by_cases hc : (xs (i3 + (5 : Int32)).toNatClampNeg) = 0
        · rw [if_pos hc] at hf
          have n_z := zm_L_law_577 n xs L _ ih s0 a1 a2 i3 a1 (xs (i3 + (1 : Int32)).toNatClampNeg) (((xs (i3 + (2 : Int32)).toNatClampNeg).toInt64 <<< ((32 : Int32).toInt64 &&& 63)) ||| ((xs (i3 + (3 : Int32)).toNatClampNeg).toInt64 &&& (4294967295 : Int64))) (xs (i3 + (4 : Int32)).toNatClampNeg) (0 : Int32) hf
          omega
        · rw [if_neg hc] at hf
          have n_z := zm_L_law_577 n xs L _ ih s0 a1 a2 i3 a1 (xs (i3 + (1 : Int32)).toNatClampNeg) (((xs (i3 + (2 : Int32)).toNatClampNeg).toInt64 <<< ((32 : Int32).toInt64 &&& 63)) ||| ((xs (i3 + (3 : Int32)).toNatClampNeg).toInt64 &&& (4294967295 : Int64))) (xs (i3 + (4 : Int32)).toNatClampNeg) (1 : Int32) hf
          omega
      rw [if_neg hc] at hf
      by_cases hc : ((xs i3.toNatClampNeg) &&& (31 : Int32)) = 14
      · rw [if_pos hc] at hf
        obtain ⟨-, hf⟩ := zx_ck hf
        obtain ⟨-, hf⟩ := zx_ck hf
        obtain ⟨i_104, hq, hf⟩ := zx_p hf
        obtain ⟨-, hf⟩ := zx_ck hf
        obtain ⟨-, hf⟩ := zx_ck hf
        obtain ⟨i_107, hq, hf⟩ := zx_p hf
        by_cases hc : i_104 = i_107
        · rw [if_pos hc] at hf
          have n_z := zm_L_law_849 n xs L _ ih s0 a1 a2 i3 hf
          omega
        · rw [if_neg hc] at hf
          obtain ⟨-, rfl⟩ := zx_r2 hf
          omega
      rw [if_neg hc] at hf
      by_cases hc : ((xs i3.toNatClampNeg) &&& (31 : Int32)) = 15
      · rw [if_pos hc] at hf
        obtain ⟨-, hf⟩ := zx_ck hf
        obtain ⟨i_109, hq, hf⟩ := zx_p hf
        obtain ⟨-, hf⟩ := zx_ck hf
        obtain ⟨i_111, hq, hf⟩ := zx_p hf
        by_cases hc : i_109 = i_111
        · rw [if_pos hc] at hf
          have n_z := zm_L_law_849 n xs L _ ih s0 a1 a2 i3 hf
          omega
        · rw [if_neg hc] at hf
          obtain ⟨-, rfl⟩ := zx_r2 hf
          omega
      rw [if_neg hc] at hf
      by_cases hc : ((xs i3.toNatClampNeg) &&& (31 : Int32)) = 16
      · rw [if_pos hc] at hf
        obtain ⟨-, hf⟩ := zx_ck hf
        obtain ⟨-, hf⟩ := zx_ck hf
        obtain ⟨-, hf⟩ := zx_ck hf
        obtain ⟨j_115, hq, hf⟩ := zx_p hf
        obtain ⟨-, hf⟩ := zx_ck hf
        obtain ⟨-, hf⟩ := zx_ck hf
        obtain ⟨-, hf⟩ := zx_ck hf
        obtain ⟨j_119, hq, hf⟩ := zx_p hf
        by_cases hc : (lg_cmp j_115 j_119) = 0
        · rw [if_pos hc] at hf
          have n_z := zm_L_law_849 n xs L _ ih s0 a1 a2 i3 hf
          omega
        · rw [if_neg hc] at hf
          obtain ⟨-, rfl⟩ := zx_r2 hf
          omega
      rw [if_neg hc] at hf
      by_cases hc : ((xs i3.toNatClampNeg) &&& (31 : Int32)) = 17
      · rw [if_pos hc] at hf
        obtain ⟨-, hf⟩ := zx_ck hf
        obtain ⟨-, hf⟩ := zx_ck hf
        obtain ⟨-, hf⟩ := zx_ck hf
        obtain ⟨-, hf⟩ := zx_ck hf
        obtain ⟨-, hf⟩ := zx_ck hf
        obtain ⟨-, hf⟩ := zx_ck hf
        obtain ⟨-, hf⟩ := zx_ck hf
        obtain ⟨-, hf⟩ := zx_ck hf
        obtain ⟨i_128, hq, hf⟩ := zx_p hf
        obtain ⟨-, hf⟩ := zx_ck hf
        obtain ⟨-, hf⟩ := zx_ck hf
        obtain ⟨-, hf⟩ := zx_ck hf
        obtain ⟨-, hf⟩ := zx_ck hf
        obtain ⟨-, hf⟩ := zx_ck hf
        obtain ⟨-, hf⟩ := zx_ck hf
        obtain ⟨-, hf⟩ := zx_ck hf
        obtain ⟨-, hf⟩ := zx_ck hf
        obtain ⟨i_137, hq, hf⟩ := zx_p hf
        by_cases hc : i_128 = i_137
        · rw [if_pos hc] at hf
          have n_z := zm_L_law_849 n xs L _ ih s0 a1 a2 i3 hf
          omega
        · rw [if_neg hc] at hf
          obtain ⟨-, rfl⟩ := zx_r2 hf
          omega
      rw [if_neg hc] at hf
      have n_z := zm_L_law_849 n xs L _ ih s0 a1 a2 i3 hf
      omega
set_option maxHeartbeats 4000000 in
theorem zm_L_law {n : Nat} {xs : Nat → Int32} {L : Nat} {s0 : zh_S} {r : Int32} {z : zh_S} (hf : zf_L_law n xs L s0 = some (r, z)) : zh_N s0 ≤ zh_N z ∧ zh_M s0 ≤ zh_M z := by
  rw [zf_L_law] at hf
  obtain ⟨a_2, e_a_2, hf⟩ := zx_l hf
  obtain ⟨s_1, e_s_1, hf⟩ := zx_l hf
  have n_s_1 := zx_mnew e_s_1
  obtain ⟨s_3, hq, hf⟩ := zx_p hf
  have n_s_3 := zm_V_init hq
  obtain ⟨a_5, e_a_5, hf⟩ := zx_l hf
  obtain ⟨s_4, e_s_4, hf⟩ := zx_l hf
  have n_s_4 := zx_mnew e_s_4
  obtain ⟨s_6, hq, hf⟩ := zx_p hf
  have n_s_6 := zm_M_init hq
  have n_z := zm_L_law_18 n xs L n s_6 a_2 a_5 (0 : Int32) hf
  omega
