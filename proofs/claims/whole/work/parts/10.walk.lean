set_option maxHeartbeats 4000000 in
theorem zc_Draft_init (l : Launch) (h0 : Nat) (D : va_G) (dA : Nat → ClassId) (tb : Nat → Nat) (n : Nat) {s0 : zh_S} {a0 : Nat} {z : zh_S} (hf : zf_Draft_init n s0 a0 = some z) : zc_M l zn_Draft_init zs_Draft_init 1 16 h0 D dA tb [.ref (h0 + a0)] s0 none z := by
  rw [zf_Draft_init] at hf
  refine zc_of (cc := ze_Draft_init) (maxL := 1) (ret := none) (lv := [(0, .ref (h0 + a0))]) (by decide) rfl (Nat.le_of_ble_eq_true rfl) rfl ?_
  intro p e s m args below meth c X hnm
  obtain ⟨hx, hb, hml, hown, htT, hrt, hlk, x00, hIn⟩ := id X
  have hK := hIn.2.1
  have hT := hIn.2.2.1
  have hNe := hIn.2.2.2
  have hR : zg_R { frames := 1, cells := zh_N z - zh_N s0, slots := zh_M z - zh_M s0, locals := 16 } (zh_N s0) (zh_M s0) z := ⟨by show zh_N z ≤ zh_N s0 + (zh_N z - zh_N s0); omega, by show zh_M z ≤ zh_M s0 + (zh_M z - zh_M s0); omega⟩
  have hF : 1 ≤ ({ frames := 1, cells := zh_N z - zh_N s0, slots := zh_M z - zh_M s0, locals := 16 } : Room).frames ∧ 16 ≤ ({ frames := 1, cells := zh_N z - zh_N s0, slots := zh_M z - zh_M s0, locals := 16 } : Room).locals := ⟨Nat.le_refl _, Nat.le_refl _⟩
  have hret := fun (pc : Nat) (lv : List (Nat × Value)) (hd : decode ze_Draft_init pc = .ok (.return_, 1)) => zg_vret (R := { frames := 1, cells := zh_N z - zh_N s0, slots := zh_M z - zh_M s0, locals := 16 }) (l := l) (e := e) (below := below) (c0 := zh_N s0) (s0 := zh_M s0) (z := z) (lv := lv) X hd
  refine zg_1 (pc' := 1) (fun _ _ _ _ _ hl w => lv_aload_n hx hb zd_Draft_init_0 rfl (lv_at hl 0 rfl) w) ?_
  refine zg_1 (pc' := 4) (fun _ _ _ _ _ hl w => W.objInit hx hb hown (htT _ zt_90) (htT _ zt_83) (htT _ zt_84) rfl (by rw [hml]; exact hl.1) rfl zd_Draft_init_1 (Nat.le_trans (Nat.le_of_ble_eq_true rfl) hF.1) (Nat.le_trans (Nat.le_of_ble_eq_true rfl) hF.2) w) ?_
  refine zg_1 (pc' := 5) (fun _ _ _ _ _ hl w => lv_aload_n hx hb zd_Draft_init_4 rfl (lv_at hl 0 rfl) w) ?_
  refine zg_1 (pc' := 8) (fun _ _ _ _ _ hl w => lv_sipush (v := (200 : Int32)) hx hb zd_Draft_init_5 (by decide) w) ?_
  obtain ⟨h_3, hf⟩ := zx_ck hf
  obtain ⟨a_2, e_a_2, hf⟩ := zx_l hf
  obtain ⟨s_1, e_s_1, hf⟩ := zx_l hf
  refine zg_newi (pc' := 10) hx hb (htT _ zt_103) hK hR h_3 e_s_1 e_a_2 zd_Draft_init_8 rfl ?_
  obtain ⟨h_5, hf⟩ := zx_ck hf
  obtain ⟨s_4, e_s_4, hf⟩ := zx_l hf
  refine zg_putR (pc' := 13) (ci := 1) (ty := (.array .int)) hx hb htT zi_Draft zy_Draft zo_Draft zj_Draft hown hK h_5 rfl rfl 0 (by decide) (htT _ zt_91) (fun _ h9 => h9) (Or.inr ⟨rfl, hnm, rfl⟩) (by decide +kernel) rfl rfl rfl e_s_4 zd_Draft_init_10 rfl ?_
  refine zg_1 (pc' := 14) (fun _ _ _ _ _ hl w => lv_aload_n hx hb zd_Draft_init_13 rfl (lv_at hl 0 rfl) w) ?_
  refine zg_1 (pc' := 15) (fun _ _ _ _ _ hl w => lv_iconst (v := (0 : Int32)) hx hb zd_Draft_init_14 (by decide) w) ?_
  obtain ⟨s_6, e_s_6, hf⟩ := zx_l hf
  refine zg_putI (pc' := 18) (ci := 1) (ty := .int) hx hb htT zi_Draft zy_Draft zo_Draft zj_Draft hown hK (zx_oR e_s_4 h_5) rfl rfl 1 (by decide) (htT _ zt_94) (fun _ h9 => h9) (Or.inl rfl) (by decide +kernel) rfl rfl rfl e_s_6 zd_Draft_init_15 rfl ?_
  obtain rfl := zx_r1 hf
  exact hret _ _ zd_Draft_init_18
set_option maxHeartbeats 4000000 in
theorem zc_Tool_init (l : Launch) (h0 : Nat) (D : va_G) (dA : Nat → ClassId) (tb : Nat → Nat) (n : Nat) {s0 : zh_S} {a0 : Nat} {z : zh_S} (hf : zf_Tool_init n s0 a0 = some z) : zc_M l zn_Tool_init zs_Tool_init 1 16 h0 D dA tb [.ref (h0 + a0)] s0 none z := by
  rw [zf_Tool_init] at hf
  refine zc_of (cc := ze_Tool_init) (maxL := 1) (ret := none) (lv := [(0, .ref (h0 + a0))]) (by decide) rfl (Nat.le_of_ble_eq_true rfl) rfl ?_
  intro p e s m args below meth c X hnm
  obtain ⟨hx, hb, hml, hown, htT, hrt, hlk, x00, hIn⟩ := id X
  have hK := hIn.2.1
  have hT := hIn.2.2.1
  have hNe := hIn.2.2.2
  have hR : zg_R { frames := 1, cells := zh_N z - zh_N s0, slots := zh_M z - zh_M s0, locals := 16 } (zh_N s0) (zh_M s0) z := ⟨by show zh_N z ≤ zh_N s0 + (zh_N z - zh_N s0); omega, by show zh_M z ≤ zh_M s0 + (zh_M z - zh_M s0); omega⟩
  have hF : 1 ≤ ({ frames := 1, cells := zh_N z - zh_N s0, slots := zh_M z - zh_M s0, locals := 16 } : Room).frames ∧ 16 ≤ ({ frames := 1, cells := zh_N z - zh_N s0, slots := zh_M z - zh_M s0, locals := 16 } : Room).locals := ⟨Nat.le_refl _, Nat.le_refl _⟩
  have hret := fun (pc : Nat) (lv : List (Nat × Value)) (hd : decode ze_Tool_init pc = .ok (.return_, 1)) => zg_vret (R := { frames := 1, cells := zh_N z - zh_N s0, slots := zh_M z - zh_M s0, locals := 16 }) (l := l) (e := e) (below := below) (c0 := zh_N s0) (s0 := zh_M s0) (z := z) (lv := lv) X hd
  refine zg_1 (pc' := 1) (fun _ _ _ _ _ hl w => lv_aload_n hx hb zd_Tool_init_0 rfl (lv_at hl 0 rfl) w) ?_
  refine zg_1 (pc' := 4) (fun _ _ _ _ _ hl w => W.objInit hx hb hown (htT _ zt_109) (htT _ zt_83) (htT _ zt_84) rfl (by rw [hml]; exact hl.1) rfl zd_Tool_init_1 (Nat.le_trans (Nat.le_of_ble_eq_true rfl) hF.1) (Nat.le_trans (Nat.le_of_ble_eq_true rfl) hF.2) w) ?_
  refine zg_1 (pc' := 5) (fun _ _ _ _ _ hl w => lv_aload_n hx hb zd_Tool_init_4 rfl (lv_at hl 0 rfl) w) ?_
  refine zg_1 (pc' := 7) (fun _ _ _ _ _ hl w => lv_bipush (v := (13 : Int32)) hx hb zd_Tool_init_5 (by decide) w) ?_
  obtain ⟨h_3, hf⟩ := zx_ck hf
  obtain ⟨a_2, e_a_2, hf⟩ := zx_l hf
  obtain ⟨s_1, e_s_1, hf⟩ := zx_l hf
  refine zg_newl (pc' := 9) hx hb (htT _ zt_125) hK hR h_3 e_s_1 e_a_2 zd_Tool_init_7 rfl ?_
  refine zg_1 (pc' := 10) (fun _ _ _ _ _ hl w => lv_dup hx hb zd_Tool_init_9 rfl w) ?_
  refine zg_1 (pc' := 11) (fun _ _ _ _ _ hl w => lv_iconst (v := (0 : Int32)) hx hb zd_Tool_init_10 (by decide) w) ?_
  refine zg_1 (pc' := 12) (fun _ _ _ _ _ hl w => lv_lconst (v := (1 : Int64)) hx hb zd_Tool_init_11 (by decide) w) ?_
  obtain ⟨h_5, hf⟩ := zx_ck hf
  obtain ⟨s_4, e_s_4, hf⟩ := zx_l hf
  refine zg_last (pc' := 13) hx hb hK h_5 e_s_4 zd_Tool_init_12 rfl ?_
  refine zg_1 (pc' := 14) (fun _ _ _ _ _ hl w => lv_dup hx hb zd_Tool_init_13 rfl w) ?_
  refine zg_1 (pc' := 15) (fun _ _ _ _ _ hl w => lv_iconst (v := (1 : Int32)) hx hb zd_Tool_init_14 (by decide) w) ?_
  refine zg_1 (pc' := 16) (fun _ _ _ _ _ hl w => lv_lconst (v := (1 : Int64)) hx hb zd_Tool_init_15 (by decide) w) ?_
  obtain ⟨h_7, hf⟩ := zx_ck hf
  obtain ⟨s_6, e_s_6, hf⟩ := zx_l hf
  refine zg_last (pc' := 17) hx hb hK h_7 e_s_6 zd_Tool_init_16 rfl ?_
  refine zg_1 (pc' := 18) (fun _ _ _ _ _ hl w => lv_dup hx hb zd_Tool_init_17 rfl w) ?_
  refine zg_1 (pc' := 19) (fun _ _ _ _ _ hl w => lv_iconst (v := (2 : Int32)) hx hb zd_Tool_init_18 (by decide) w) ?_
  refine zg_1 (pc' := 20) (fun _ _ _ _ _ hl w => lv_lconst (v := (0 : Int64)) hx hb zd_Tool_init_19 (by decide) w) ?_
  obtain ⟨h_9, hf⟩ := zx_ck hf
  obtain ⟨s_8, e_s_8, hf⟩ := zx_l hf
  refine zg_last (pc' := 21) hx hb hK h_9 e_s_8 zd_Tool_init_20 rfl ?_
  refine zg_1 (pc' := 22) (fun _ _ _ _ _ hl w => lv_dup hx hb zd_Tool_init_21 rfl w) ?_
  refine zg_1 (pc' := 23) (fun _ _ _ _ _ hl w => lv_iconst (v := (3 : Int32)) hx hb zd_Tool_init_22 (by decide) w) ?_
  refine zg_1 (pc' := 26) (fun _ _ _ _ _ hl w => lv_ldc2 (v := (1000 : Int64)) hx hb hown (htT _ zt_110) zd_Tool_init_23 w) ?_
  obtain ⟨h_11, hf⟩ := zx_ck hf
  obtain ⟨s_10, e_s_10, hf⟩ := zx_l hf
  refine zg_last (pc' := 27) hx hb hK h_11 e_s_10 zd_Tool_init_26 rfl ?_
  refine zg_1 (pc' := 28) (fun _ _ _ _ _ hl w => lv_dup hx hb zd_Tool_init_27 rfl w) ?_
  refine zg_1 (pc' := 29) (fun _ _ _ _ _ hl w => lv_iconst (v := (4 : Int32)) hx hb zd_Tool_init_28 (by decide) w) ?_
  refine zg_1 (pc' := 30) (fun _ _ _ _ _ hl w => lv_lconst (v := (1 : Int64)) hx hb zd_Tool_init_29 (by decide) w) ?_
  obtain ⟨h_13, hf⟩ := zx_ck hf
  obtain ⟨s_12, e_s_12, hf⟩ := zx_l hf
  refine zg_last (pc' := 31) hx hb hK h_13 e_s_12 zd_Tool_init_30 rfl ?_
  refine zg_1 (pc' := 32) (fun _ _ _ _ _ hl w => lv_dup hx hb zd_Tool_init_31 rfl w) ?_
  refine zg_1 (pc' := 33) (fun _ _ _ _ _ hl w => lv_iconst (v := (5 : Int32)) hx hb zd_Tool_init_32 (by decide) w) ?_
  refine zg_1 (pc' := 34) (fun _ _ _ _ _ hl w => lv_lconst (v := (0 : Int64)) hx hb zd_Tool_init_33 (by decide) w) ?_
  obtain ⟨h_15, hf⟩ := zx_ck hf
  obtain ⟨s_14, e_s_14, hf⟩ := zx_l hf
  refine zg_last (pc' := 35) hx hb hK h_15 e_s_14 zd_Tool_init_34 rfl ?_
  refine zg_1 (pc' := 36) (fun _ _ _ _ _ hl w => lv_dup hx hb zd_Tool_init_35 rfl w) ?_
  refine zg_1 (pc' := 38) (fun _ _ _ _ _ hl w => lv_bipush (v := (6 : Int32)) hx hb zd_Tool_init_36 (by decide) w) ?_
  refine zg_1 (pc' := 41) (fun _ _ _ _ _ hl w => lv_ldc2 (v := (-1 : Int64)) hx hb hown (htT _ zt_111) zd_Tool_init_38 w) ?_
  obtain ⟨h_17, hf⟩ := zx_ck hf
  obtain ⟨s_16, e_s_16, hf⟩ := zx_l hf
  refine zg_last (pc' := 42) hx hb hK h_17 e_s_16 zd_Tool_init_41 rfl ?_
  refine zg_1 (pc' := 43) (fun _ _ _ _ _ hl w => lv_dup hx hb zd_Tool_init_42 rfl w) ?_
  refine zg_1 (pc' := 45) (fun _ _ _ _ _ hl w => lv_bipush (v := (7 : Int32)) hx hb zd_Tool_init_43 (by decide) w) ?_
  refine zg_1 (pc' := 48) (fun _ _ _ _ _ hl w => lv_ldc2 (v := (-1 : Int64)) hx hb hown (htT _ zt_111) zd_Tool_init_45 w) ?_
  obtain ⟨h_19, hf⟩ := zx_ck hf
  obtain ⟨s_18, e_s_18, hf⟩ := zx_l hf
  refine zg_last (pc' := 49) hx hb hK h_19 e_s_18 zd_Tool_init_48 rfl ?_
  refine zg_1 (pc' := 50) (fun _ _ _ _ _ hl w => lv_dup hx hb zd_Tool_init_49 rfl w) ?_
  refine zg_1 (pc' := 52) (fun _ _ _ _ _ hl w => lv_bipush (v := (8 : Int32)) hx hb zd_Tool_init_50 (by decide) w) ?_
  refine zg_1 (pc' := 55) (fun _ _ _ _ _ hl w => lv_ldc2 (v := (-1 : Int64)) hx hb hown (htT _ zt_111) zd_Tool_init_52 w) ?_
  obtain ⟨h_21, hf⟩ := zx_ck hf
  obtain ⟨s_20, e_s_20, hf⟩ := zx_l hf
  refine zg_last (pc' := 56) hx hb hK h_21 e_s_20 zd_Tool_init_55 rfl ?_
  refine zg_1 (pc' := 57) (fun _ _ _ _ _ hl w => lv_dup hx hb zd_Tool_init_56 rfl w) ?_
  refine zg_1 (pc' := 59) (fun _ _ _ _ _ hl w => lv_bipush (v := (9 : Int32)) hx hb zd_Tool_init_57 (by decide) w) ?_
  refine zg_1 (pc' := 60) (fun _ _ _ _ _ hl w => lv_lconst (v := (0 : Int64)) hx hb zd_Tool_init_59 (by decide) w) ?_
  obtain ⟨h_23, hf⟩ := zx_ck hf
  obtain ⟨s_22, e_s_22, hf⟩ := zx_l hf
  refine zg_last (pc' := 61) hx hb hK h_23 e_s_22 zd_Tool_init_60 rfl ?_
  refine zg_1 (pc' := 62) (fun _ _ _ _ _ hl w => lv_dup hx hb zd_Tool_init_61 rfl w) ?_
  refine zg_1 (pc' := 64) (fun _ _ _ _ _ hl w => lv_bipush (v := (10 : Int32)) hx hb zd_Tool_init_62 (by decide) w) ?_
  refine zg_1 (pc' := 65) (fun _ _ _ _ _ hl w => lv_lconst (v := (0 : Int64)) hx hb zd_Tool_init_64 (by decide) w) ?_
  obtain ⟨h_25, hf⟩ := zx_ck hf
  obtain ⟨s_24, e_s_24, hf⟩ := zx_l hf
  refine zg_last (pc' := 66) hx hb hK h_25 e_s_24 zd_Tool_init_65 rfl ?_
  refine zg_1 (pc' := 67) (fun _ _ _ _ _ hl w => lv_dup hx hb zd_Tool_init_66 rfl w) ?_
  refine zg_1 (pc' := 69) (fun _ _ _ _ _ hl w => lv_bipush (v := (11 : Int32)) hx hb zd_Tool_init_67 (by decide) w) ?_
  refine zg_1 (pc' := 70) (fun _ _ _ _ _ hl w => lv_lconst (v := (0 : Int64)) hx hb zd_Tool_init_69 (by decide) w) ?_
  obtain ⟨h_27, hf⟩ := zx_ck hf
  obtain ⟨s_26, e_s_26, hf⟩ := zx_l hf
  refine zg_last (pc' := 71) hx hb hK h_27 e_s_26 zd_Tool_init_70 rfl ?_
  refine zg_1 (pc' := 72) (fun _ _ _ _ _ hl w => lv_dup hx hb zd_Tool_init_71 rfl w) ?_
  refine zg_1 (pc' := 74) (fun _ _ _ _ _ hl w => lv_bipush (v := (12 : Int32)) hx hb zd_Tool_init_72 (by decide) w) ?_
  refine zg_1 (pc' := 75) (fun _ _ _ _ _ hl w => lv_lconst (v := (0 : Int64)) hx hb zd_Tool_init_74 (by decide) w) ?_
  obtain ⟨h_29, hf⟩ := zx_ck hf
  obtain ⟨s_28, e_s_28, hf⟩ := zx_l hf
  refine zg_last (pc' := 76) hx hb hK h_29 e_s_28 zd_Tool_init_75 rfl ?_
  obtain ⟨h_31, hf⟩ := zx_ck hf
  obtain ⟨s_30, e_s_30, hf⟩ := zx_l hf
  refine zg_putR (pc' := 79) (ci := 6) (ty := (.array .long)) hx hb htT zi_Tool zy_Tool zo_Tool zj_Tool hown hK h_31 rfl rfl 0 (by decide) (htT _ zt_112) (fun _ h9 => h9) (Or.inr ⟨rfl, hnm, rfl⟩) (by decide +kernel) rfl rfl rfl e_s_30 zd_Tool_init_76 rfl ?_
  refine zg_1 (pc' := 80) (fun _ _ _ _ _ hl w => lv_aload_n hx hb zd_Tool_init_79 rfl (lv_at hl 0 rfl) w) ?_
  refine zg_1 (pc' := 81) (fun _ _ _ _ _ hl w => lv_iconst (v := (4 : Int32)) hx hb zd_Tool_init_80 (by decide) w) ?_
  obtain ⟨h_34, hf⟩ := zx_ck hf
  obtain ⟨a_33, e_a_33, hf⟩ := zx_l hf
  obtain ⟨s_32, e_s_32, hf⟩ := zx_l hf
  refine zg_newl (pc' := 83) hx hb (htT _ zt_125) hK hR h_34 e_s_32 e_a_33 zd_Tool_init_81 rfl ?_
  obtain ⟨h_36, hf⟩ := zx_ck hf
  obtain ⟨s_35, e_s_35, hf⟩ := zx_l hf
  refine zg_putR (pc' := 86) (ci := 6) (ty := (.array .long)) hx hb htT zi_Tool zy_Tool zo_Tool zj_Tool hown hK h_36 rfl rfl 1 (by decide) (htT _ zt_113) (fun _ h9 => h9) (Or.inr ⟨rfl, hnm, rfl⟩) (by decide +kernel) rfl rfl rfl e_s_35 zd_Tool_init_83 rfl ?_
  refine zg_1 (pc' := 87) (fun _ _ _ _ _ hl w => lv_aload_n hx hb zd_Tool_init_86 rfl (lv_at hl 0 rfl) w) ?_
  refine zg_1 (pc' := 88) (fun _ _ _ _ _ hl w => lv_iconst (v := (4 : Int32)) hx hb zd_Tool_init_87 (by decide) w) ?_
  obtain ⟨h_39, hf⟩ := zx_ck hf
  obtain ⟨a_38, e_a_38, hf⟩ := zx_l hf
  obtain ⟨s_37, e_s_37, hf⟩ := zx_l hf
  refine zg_newl (pc' := 90) hx hb (htT _ zt_125) hK hR h_39 e_s_37 e_a_38 zd_Tool_init_88 rfl ?_
  obtain ⟨h_41, hf⟩ := zx_ck hf
  obtain ⟨s_40, e_s_40, hf⟩ := zx_l hf
  refine zg_putR (pc' := 93) (ci := 6) (ty := (.array .long)) hx hb htT zi_Tool zy_Tool zo_Tool zj_Tool hown hK h_41 rfl rfl 2 (by decide) (htT _ zt_114) (fun _ h9 => h9) (Or.inr ⟨rfl, hnm, rfl⟩) (by decide +kernel) rfl rfl rfl e_s_40 zd_Tool_init_90 rfl ?_
  refine zg_1 (pc' := 94) (fun _ _ _ _ _ hl w => lv_aload_n hx hb zd_Tool_init_93 rfl (lv_at hl 0 rfl) w) ?_
  refine zg_1 (pc' := 95) (fun _ _ _ _ _ hl w => lv_iconst (v := (0 : Int32)) hx hb zd_Tool_init_94 (by decide) w) ?_
  obtain ⟨s_42, e_s_42, hf⟩ := zx_l hf
  refine zg_putI (pc' := 98) (ci := 6) (ty := .int) hx hb htT zi_Tool zy_Tool zo_Tool zj_Tool hown hK (zx_oR e_s_40 h_41) rfl rfl 3 (by decide) (htT _ zt_115) (fun _ h9 => h9) (Or.inl rfl) (by decide +kernel) rfl rfl rfl e_s_42 zd_Tool_init_95 rfl ?_
  obtain rfl := zx_r1 hf
  exact hret _ _ zd_Tool_init_98
set_option maxHeartbeats 4000000 in
theorem zc_Signed_init_R (l : Launch) (h0 : Nat) (D : va_G) (dA : Nat → ClassId) (tb : Nat → Nat) (n : Nat) {s0 : zh_S} {a0 : Nat} {z : zh_S} (hf : zf_Signed_init_R n s0 a0 = some z) : zc_M l zn_Signed_init zs_Signed_init 1 16 h0 D dA tb [.ref (h0 + a0)] s0 none z := by
  rw [zf_Signed_init_R] at hf
  refine zc_of (cc := ze_Signed_init) (maxL := 1) (ret := none) (lv := [(0, .ref (h0 + a0))]) (by decide) rfl (Nat.le_of_ble_eq_true rfl) rfl ?_
  intro p e s m args below meth c X hnm
  obtain ⟨hx, hb, hml, hown, htT, hrt, hlk, x00, hIn⟩ := id X
  have hK := hIn.2.1
  have hT := hIn.2.2.1
  have hNe := hIn.2.2.2
  have hR : zg_R { frames := 1, cells := zh_N z - zh_N s0, slots := zh_M z - zh_M s0, locals := 16 } (zh_N s0) (zh_M s0) z := ⟨by show zh_N z ≤ zh_N s0 + (zh_N z - zh_N s0); omega, by show zh_M z ≤ zh_M s0 + (zh_M z - zh_M s0); omega⟩
  have hF : 1 ≤ ({ frames := 1, cells := zh_N z - zh_N s0, slots := zh_M z - zh_M s0, locals := 16 } : Room).frames ∧ 16 ≤ ({ frames := 1, cells := zh_N z - zh_N s0, slots := zh_M z - zh_M s0, locals := 16 } : Room).locals := ⟨Nat.le_refl _, Nat.le_refl _⟩
  have hret := fun (pc : Nat) (lv : List (Nat × Value)) (hd : decode ze_Signed_init pc = .ok (.return_, 1)) => zg_vret (R := { frames := 1, cells := zh_N z - zh_N s0, slots := zh_M z - zh_M s0, locals := 16 }) (l := l) (e := e) (below := below) (c0 := zh_N s0) (s0 := zh_M s0) (z := z) (lv := lv) X hd
  refine zg_1 (pc' := 1) (fun _ _ _ _ _ hl w => lv_aload_n hx hb zd_Signed_init_0 rfl (lv_at hl 0 rfl) w) ?_
  refine zg_1 (pc' := 4) (fun _ _ _ _ _ hl w => W.objInit hx hb hown (htT _ zt_143) (htT _ zt_83) (htT _ zt_84) rfl (by rw [hml]; exact hl.1) rfl zd_Signed_init_1 (Nat.le_trans (Nat.le_of_ble_eq_true rfl) hF.1) (Nat.le_trans (Nat.le_of_ble_eq_true rfl) hF.2) w) ?_
  refine zg_1 (pc' := 5) (fun _ _ _ _ _ hl w => lv_aload_n hx hb zd_Signed_init_4 rfl (lv_at hl 0 rfl) w) ?_
  refine zg_1 (pc' := 6) (fun _ _ _ _ _ hl w => lv_iconst (v := (0 : Int32)) hx hb zd_Signed_init_5 (by decide) w) ?_
  obtain ⟨h_2, hf⟩ := zx_ck hf
  obtain ⟨s_1, e_s_1, hf⟩ := zx_l hf
  refine zg_putI (pc' := 9) (ci := 3) (ty := .int) hx hb htT zi_RevokedList zy_RevokedList zo_RevokedList zj_RevokedList hown hK h_2 rfl rfl 5 (by decide) (htT _ zt_217) (fun _ h9 => h9) (Or.inl rfl) (by decide +kernel) rfl rfl rfl e_s_1 zd_Signed_init_6 rfl ?_
  obtain rfl := zx_r1 hf
  exact hret _ _ zd_Signed_init_9
set_option maxHeartbeats 4000000 in
theorem zc_RevokedList_init (l : Launch) (h0 : Nat) (D : va_G) (dA : Nat → ClassId) (tb : Nat → Nat) (n : Nat) {s0 : zh_S} {a0 : Nat} {z : zh_S} (hf : zf_RevokedList_init n s0 a0 = some z) : zc_M l zn_RevokedList_init zs_RevokedList_init 2 36 h0 D dA tb [.ref (h0 + a0)] s0 none z := by
  rw [zf_RevokedList_init] at hf
  refine zc_of (cc := ze_RevokedList_init) (maxL := 1) (ret := none) (lv := [(0, .ref (h0 + a0))]) (by decide) rfl (Nat.le_of_ble_eq_true rfl) rfl ?_
  intro p e s m args below meth c X hnm
  obtain ⟨hx, hb, hml, hown, htT, hrt, hlk, x00, hIn⟩ := id X
  have hK := hIn.2.1
  have hT := hIn.2.2.1
  have hNe := hIn.2.2.2
  have hR : zg_R { frames := 2, cells := zh_N z - zh_N s0, slots := zh_M z - zh_M s0, locals := 36 } (zh_N s0) (zh_M s0) z := ⟨by show zh_N z ≤ zh_N s0 + (zh_N z - zh_N s0); omega, by show zh_M z ≤ zh_M s0 + (zh_M z - zh_M s0); omega⟩
  have hF : 2 ≤ ({ frames := 2, cells := zh_N z - zh_N s0, slots := zh_M z - zh_M s0, locals := 36 } : Room).frames ∧ 36 ≤ ({ frames := 2, cells := zh_N z - zh_N s0, slots := zh_M z - zh_M s0, locals := 36 } : Room).locals := ⟨Nat.le_refl _, Nat.le_refl _⟩
  have hret := fun (pc : Nat) (lv : List (Nat × Value)) (hd : decode ze_RevokedList_init pc = .ok (.return_, 1)) => zg_vret (R := { frames := 2, cells := zh_N z - zh_N s0, slots := zh_M z - zh_M s0, locals := 36 }) (l := l) (e := e) (below := below) (c0 := zh_N s0) (s0 := zh_M s0) (z := z) (lv := lv) X hd
  refine zg_1 (pc' := 1) (fun _ _ _ _ _ hl w => lv_aload_n hx hb zd_RevokedList_init_0 rfl (lv_at hl 0 rfl) w) ?_
  obtain ⟨s_1, hq, hf⟩ := zx_p hf
  refine zg_call (pc' := 4) (y := s_1) (rv := none) (rest := []) X hR (zm_Signed_init_R hq) (fun H locs ls k j hsz hI hU hk => va_runIN (host := "CertificateVault") (As := []) (rest := []) ⟨hx, hb, hml, hown, htT⟩ (zc_Signed_init_R l h0 D dA tb n hq) ⟨va_cnB 0 htT (zw_g zt_142) rfl rfl rfl (zh_ne3 hNe) (htT _ zt_68) (by decide +kernel) ⟨Nat.le_trans (Nat.le_of_ble_eq_true rfl) hF.1, Nat.le_trans (Nat.le_of_ble_eq_true rfl) hF.2⟩, rfl, (htT _ zt_141)⟩ (zg_pre hU) rfl rfl hsz rfl (lv_room (Nat.le_of_ble_eq_true rfl)) zd_RevokedList_init_1 hk) rfl ?_
  refine zg_1 (pc' := 5) (fun _ _ _ _ _ hl w => lv_aload_n hx hb zd_RevokedList_init_4 rfl (lv_at hl 0 rfl) w) ?_
  refine zg_1 (pc' := 6) (fun _ _ _ _ _ hl w => lv_iconst (v := (4 : Int32)) hx hb zd_RevokedList_init_5 (by decide) w) ?_
  obtain ⟨h_4, hf⟩ := zx_ck hf
  obtain ⟨a_3, e_a_3, hf⟩ := zx_l hf
  obtain ⟨s_2, e_s_2, hf⟩ := zx_l hf
  refine zg_newl (pc' := 8) hx hb (htT _ zt_125) hK hR h_4 e_s_2 e_a_3 zd_RevokedList_init_6 rfl ?_
  obtain ⟨h_6, hf⟩ := zx_ck hf
  obtain ⟨s_5, e_s_5, hf⟩ := zx_l hf
  refine zg_putR (pc' := 11) (ci := 3) (ty := (.array .long)) hx hb htT zi_RevokedList zy_RevokedList zo_RevokedList zj_RevokedList hown hK h_6 rfl rfl 6 (by decide) (htT _ zt_262) (fun _ h9 => h9) (Or.inr ⟨rfl, hnm, rfl⟩) (by decide +kernel) rfl rfl rfl e_s_5 zd_RevokedList_init_8 rfl ?_
  refine zg_1 (pc' := 12) (fun _ _ _ _ _ hl w => lv_aload_n hx hb zd_RevokedList_init_11 rfl (lv_at hl 0 rfl) w) ?_
  refine zg_1 (pc' := 13) (fun _ _ _ _ _ hl w => lv_iconst (v := (4 : Int32)) hx hb zd_RevokedList_init_12 (by decide) w) ?_
  obtain ⟨h_9, hf⟩ := zx_ck hf
  obtain ⟨a_8, e_a_8, hf⟩ := zx_l hf
  obtain ⟨s_7, e_s_7, hf⟩ := zx_l hf
  refine zg_newl (pc' := 15) hx hb (htT _ zt_125) hK hR h_9 e_s_7 e_a_8 zd_RevokedList_init_13 rfl ?_
  obtain ⟨h_11, hf⟩ := zx_ck hf
  obtain ⟨s_10, e_s_10, hf⟩ := zx_l hf
  refine zg_putR (pc' := 18) (ci := 3) (ty := (.array .long)) hx hb htT zi_RevokedList zy_RevokedList zo_RevokedList zj_RevokedList hown hK h_11 rfl rfl 7 (by decide) (htT _ zt_264) (fun _ h9 => h9) (Or.inr ⟨rfl, hnm, rfl⟩) (by decide +kernel) rfl rfl rfl e_s_10 zd_RevokedList_init_15 rfl ?_
  obtain rfl := zx_r1 hf
  exact hret _ _ zd_RevokedList_init_18
