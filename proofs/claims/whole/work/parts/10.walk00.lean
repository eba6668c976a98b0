set_option maxHeartbeats 4000000 in
theorem zc_Draft_init (l : Launch) (h0 : Nat) (D : va_G) (dA : Nat → ClassId) (tb : Nat → Nat) (n : Nat) {s0 : zh_S} {a0 : Nat} {z : zh_S} (hf : zf_Draft_init n s0 a0 = some z) : zc_M l zn_Draft_init zs_Draft_init 1 16 h0 D dA tb [.ref (h0 + a0)] s0 none z := by
  rw [zf_Draft_init] at hf
  refine zc_of (cc := ze_Draft_init) (maxL := 1) (ret := none) (lv := [(0, .ref (h0 + a0))]) (by decide) rfl (Nat.le_of_ble_eq_true rfl) rfl ?_
  intro p e s m args below meth c X hnm
  obtain ⟨hx, hb, hml, hown, htT, hrt, hlk, x00, hIn⟩ := id X
  have hK := hIn.2.1
  have hT := hIn.2.2.1
  have hNe := hIn.2.2.2
  have hR : zg_R { frames := 1, cells := zh_N z - zh_N s0, slots := zh_M z - zh_M s0, locals := 16 } (zh_N s0) (zh_M s0) z := ⟨by show zh_N z ≤ zh_N s0 + (zh_N z - zh_N s0); omega, by show zh_M z ≤ zh_M s0 + (zh_M z - zh_M s0); omega⟩
  have hF : 1 ≤ ({ frames := 1, cells := zh_N z - zh_N s0, slots := zh_M z - zh_M s0, locals := 16 } : Room).frames ∧ 16 ≤ ({ frames := 1, cells := zh_N z - zh_N s0, slots := zh_M z - zh_M s0, locals := 16 } : Room).locals := ⟨Nat.le_refl _, Nat.le_refl _⟩
  have hret := fun (pc : Nat) (lv : List (Nat × Value)) (hd : decode ze_Draft_init pc = .ok (.return_, 1)) => zg_vret (R := { frames := 1, cells := zh_N z - zh_N s0, slots := zh_M z - zh_M s0, locals := 16 }) (l := l) (e := e) (below := below) (c0 := zh_N s0) (s0 := zh_M s0) (z := z) (lv := lv) X hd
  refine zg_1 (pc' := 1) (fun _ _ _ _ _ hl w => lv_aload_n hx hb zd_Draft_init_0 rfl (lv_at hl 0 rfl) w) ?_
  refine zg_1 (pc' := 4) (fun _ _ _ _ _ hl w => W.objInit hx hb hown (htT _ zt_90) (htT _ zt_83) (htT _ zt_84) rfl (by rw [hml]; exact hl.1) rfl zd_Draft_init_1 (Nat.le_trans (Nat.le_of_ble_eq_true rfl) hF.1) (Nat.le_trans (Nat.le_of_ble_eq_true rfl) hF.2) w) ?_
  refine zg_1 (pc' := 5) (fun _ _ _ _ _ hl w => lv_aload_n hx hb zd_Draft_init_4 rfl (lv_at hl 0 rfl) w) ?_
  refine zg_1 (pc' := 8) (fun _ _ _ _ _ hl w => lv_sipush (v := (200 : Int32)) hx hb zd_Draft_init_5 (by decide) w) ?_
  obtain ⟨h_3, hf⟩ := zx_ck hf
  obtain ⟨a_2, e_a_2, hf⟩ := zx_l hf
  obtain ⟨s_1, e_s_1, hf⟩ := zx_l hf
  refine zg_newi (pc' := 10) hx hb (htT _ zt_103) hK hR h_3 e_s_1 e_a_2 zd_Draft_init_8 rfl ?_
  obtain ⟨h_5, hf⟩ := zx_ck hf
  obtain ⟨s_4, e_s_4, hf⟩ := zx_l hf
  refine zg_putR (pc' := 13) (ci := 1) (ty := (.array .int)) hx hb htT zi_Draft zy_Draft zo_Draft zj_Draft hown hK h_5 rfl rfl 0 (by decide) (htT _ zt_91) (fun _ h9 => h9) (Or.inr ⟨rfl, hnm, rfl⟩) (by decide +kernel) rfl rfl rfl e_s_4 zd_Draft_init_10 rfl ?_
  refine zg_1 (pc' := 14) (fun _ _ _ _ _ hl w => lv_aload_n hx hb zd_Draft_init_13 rfl (lv_at hl 0 rfl) w) ?_
  refine zg_1 (pc' := 15) (fun _ _ _ _ _ hl w => lv_iconst (v := (0 : Int32)) hx hb zd_Draft_init_14 (by decide) w) ?_
  obtain ⟨s_6, e_s_6, hf⟩ := zx_l hf
  refine zg_putI (pc' := 18) (ci := 1) (ty := .int) hx hb htT zi_Draft zy_Draft zo_Draft zj_Draft hown hK (zx_oR e_s_4 h_5) rfl rfl 1 (by decide) (htT _ zt_94) (fun _ h9 => h9) (Or.inl rfl) (by decide +kernel) rfl rfl rfl e_s_6 zd_Draft_init_15 rfl ?_
  obtain rfl := zx_r1 hf
  exact hret _ _ zd_Draft_init_18
set_option maxHeartbeats 4000000 in
theorem zc_Tool_init (l : Launch) (h0 : Nat) (D : va_G) (dA : Nat → ClassId) (tb : Nat → Nat) (n : Nat) {s0 : zh_S} {a0 : Nat} {z : zh_S} (hf : zf_Tool_init n s0 a0 = some z) : zc_M l zn_Tool_init zs_Tool_init 1 16 h0 D dA tb [.ref (h0 + a0)] s0 none z := by
  rw [zf_Tool_init] at hf
  refine zc_of (cc := ze_Tool_init) (maxL := 1) (ret := none) (lv := [(0, .ref (h0 + a0))]) (by decide) rfl (Nat.le_of_ble_eq_true rfl) rfl ?_
  intro p e s m args below meth c X hnm
  obtain ⟨hx, hb, hml, hown, htT, hrt, hlk, x00, hIn⟩ := id X
  have hK := hIn.2.1
  have hT := hIn.2.2.1
  have hNe := hIn.2.2.2
  have hR : zg_R { frames := 1, cells := zh_N z - zh_N s0, slots := zh_M z - zh_M s0, locals := 16 } (zh_N s0) (zh_M s0) z := ⟨by show zh_N z ≤ zh_N s0 + (zh_N z - zh_N s0); omega, by show zh_M z ≤ zh_M s0 + (zh_M z - zh_M s0); omega⟩
  have hF : 1 ≤ ({ frames := 1, cells := zh_N z - zh_N s0, slots := zh_M z - zh_M s0, locals := 16 } : Room).frames ∧ 16 ≤ ({ frames := 1, cells := zh_N z - zh_N s0, slots := zh_M z - zh_M s0, locals := 16 } : Room).locals := ⟨Nat.le_refl _, Nat.le_refl _⟩
  have hret := fun (pc : Nat) (lv : List (Nat × Value)) (hd : decode ze_Tool_init pc = .ok (.return_, 1)) => zg_vret (R := { frames := 1, cells := zh_N z - zh_N s0, slots := zh_M z - zh_M s0, locals := 16 }) (l := l) (e := e) (below := below) (c0 := zh_N s0) (s0 := zh_M s0) (z := z) (lv := lv) X hd
  refine zg_1 (pc' := 1) (fun _ _ _ _ _ hl w => lv_aload_n hx hb zd_Tool_init_0 rfl (lv_at hl 0 rfl) w) ?_
  refine zg_1 (pc' := 4) (fun _ _ _ _ _ hl w => W.objInit hx hb hown (htT _ zt_109) (htT _ zt_83) (htT _ zt_84) rfl (by rw [hml]; exact hl.1) rfl zd_Tool_init_1 (Nat.le_trans (Nat.le_of_ble_eq_true rfl) hF.1) (Nat.le_trans (Nat.le_of_ble_eq_true rfl) hF.2) w) ?_
  refine zg_1 (pc' := 5) (fun _ _ _ _ _ hl w => lv_aload_n hx hb zd_Tool_init_4 rfl (lv_at hl 0 rfl) w) ?_
  refine zg_1 (pc' := 7) (fun _ _ _ _ _ hl w => lv_bipush (v := (13 : Int32)) hx hb zd_Tool_init_5 (by decide) w) ?_
  obtain ⟨h_3, hf⟩ := zx_ck hf
  obtain ⟨a_2, e_a_2, hf⟩ := zx_l hf
  obtain ⟨s_1, e_s_1, hf⟩ := zx_l hf
  refine zg_newl (pc' := 9) hx hb (htT _ zt_125) hK hR h_3 e_s_1 e_a_2 zd_Tool_init_7 rfl ?_
  refine zg_1 (pc' := 10) (fun _ _ _ _ _ hl w => lv_dup hx hb zd_Tool_init_9 rfl w) ?_
  refine zg_1 (pc' := 11) (fun _ _ _ _ _ hl w => lv_iconst (v := (0 : Int32)) hx hb zd_Tool_init_10 (by decide) w) ?_
  refine zg_1 (pc' := 12) (fun _ _ _ _ _ hl w => lv_lconst (v := (1 : Int64)) hx hb zd_Tool_init_11 (by decide) w) ?_
  obtain ⟨h_5, hf⟩ := zx_ck hf
  obtain ⟨s_4, e_s_4, hf⟩ := zx_l hf
  refine zg_last (pc' := 13) hx hb hK h_5 e_s_4 zd_Tool_init_12 rfl ?_
  refine zg_1 (pc' := 14) (fun _ _ _ _ _ hl w => lv_dup hx hb zd_Tool_init_13 rfl w) ?_
  refine zg_1 (pc' := 15) (fun _ _ _ _ _ hl w => lv_iconst (v := (1 : Int32)) hx hb zd_Tool_init_14 (by decide) w) ?_
  refine zg_1 (pc' := 16) (fun _ _ _ _ _ hl w => lv_lconst (v := (1 : Int64)) hx hb zd_Tool_init_15 (by decide) w) ?_
  obtain ⟨h_7, hf⟩ := zx_ck hf
  obtain ⟨s_6, e_s_6, hf⟩ := zx_l hf
  refine zg_last (pc' := 17) hx hb hK h_7 e_s_6 zd_Tool_init_16 rfl ?_
  refine zg_1 (pc' := 18) (fun _ _ _ _ _ hl w => lv_dup hx hb zd_Tool_init_17 rfl w) ?_
  refine zg_1 (pc' := 19) (fun _ _ _ _ _ hl w => lv_iconst (v := (2 : Int32)) hx hb zd_Tool_init_18 (by decide) w) ?_
  refine zg_1 (pc' := 20) (fun _ _ _ _ _ hl w => lv_lconst (v := (0 : Int64)) hx hb zd_Tool_init_19 (by decide) w) ?_
  obtain ⟨h_9, hf⟩ := zx_ck hf
  obtain ⟨s_8, e_s_8, hf⟩ := zx_l hf
  refine zg_last (pc' := 21) hx hb hK h_9 e_s_8 zd_Tool_init_20 rfl ?_
  refine zg_1 (pc' := 22) (fun _ _ _ _ _ hl w => lv_dup hx hb zd_Tool_init_21 rfl w) ?_
  refine zg_1 (pc' := 23) (fun _ _ _ _ _ hl w => lv_iconst (v := (3 : Int32)) hx hb zd_Tool_init_22 (by decide) w) ?_
  refine zg_1 (pc' := 26) (fun _ _ _ _ _ hl w => lv_ldc2 (v := (1000 : Int64)) hx hb hown (htT _ zt_110) zd_Tool_init_23 w) ?_
  obtain ⟨h_11, hf⟩ := zx_ck hf
  obtain ⟨s_10, e_s_10, hf⟩ := zx_l hf
  refine zg_last (pc' := 27) hx hb hK h_11 e_s_10 zd_Tool_init_26 rfl ?_
  refine zg_1 (pc' := 28) (fun _ _ _ _ _ hl w => lv_dup hx hb zd_Tool_init_27 rfl w) ?_
  refine zg_1 (pc' := 29) (fun _ _ _ _ _ hl w => lv_iconst (v := (4 : Int32)) hx hb zd_Tool_init_28 (by decide) w) ?_
  refine zg_1 (pc' := 30) (fun _ _ _ _ _ hl w => lv_lconst (v := (1 : Int64)) hx hb zd_Tool_init_29 (by decide) w) ?_
  obtain ⟨h_13, hf⟩ := zx_ck hf
  obtain ⟨s_12, e_s_12, hf⟩ := zx_l hf
  refine zg_last (pc' := 31) hx hb hK h_13 e_s_12 zd_Tool_init_30 rfl ?_
  refine zg_1 (pc' := 32) (fun _ _ _ _ _ hl w => lv_dup hx hb zd_Tool_init_31 rfl w) ?_
  refine zg_1 (pc' := 33) (fun _ _ _ _ _ hl w => lv_iconst (v := (5 : Int32)) hx hb zd_Tool_init_32 (by decide) w) ?_
  refine zg_1 (pc' := 34) (fun _ _ _ _ _ hl w => lv_lconst (v := (0 : Int64)) hx hb zd_Tool_init_33 (by decide) w) ?_
  obtain ⟨h_15, hf⟩ := zx_ck hf
  obtain ⟨s_14, e_s_14, hf⟩ := zx_l hf
  refine zg_last (pc' := 35) hx hb hK h_15 e_s_14 zd_Tool_init_34 rfl ?_
  refine zg_1 (pc' := 36) (fun _ _ _ _ _ hl w => lv_dup hx hb zd_Tool_init_35 rfl w) ?_
  refine zg_1 (pc' := 38) (fun _ _ _ _ _ hl w => lv_bipush (v := (6 : Int32)) hx hb zd_Tool_init_36 (by decide) w) ?_
  refine zg_1 (pc' := 41) (fun _ _ _ _ _ hl w => lv_ldc2 (v := (-1 : Int64)) hx hb hown (htT _ zt_111) zd_Tool_init_38 w) ?_
  obtain ⟨h_17, hf⟩ := zx_ck hf
  obtain ⟨s_16, e_s_16, hf⟩ := zx_l hf
  refine zg_last (pc' := 42) hx hb hK h_17 e_s_16 zd_Tool_init_41 rfl ?_
  refine zg_1 (pc' := 43) (fun _ _ _ _ _ hl w => lv_dup hx hb zd_Tool_init_42 rfl w) ?_
  refine zg_1 (pc' := 45) (fun _ _ _ _ _ hl w => lv_bipush (v := (7 : Int32)) hx hb zd_Tool_init_43 (by decide) w) ?_
  refine zg_1 (pc' := 48) (fun _ _ _ _ _ hl w => lv_ldc2 (v := (-1 : Int64)) hx hb hown (htT _ zt_111) zd_Tool_init_45 w) ?_
  obtain ⟨h_19, hf⟩ := zx_ck hf
  obtain ⟨s_18, e_s_18, hf⟩ := zx_l hf
  refine zg_last (pc' := 49) hx hb hK h_19 e_s_18 zd_Tool_init_48 rfl ?_
  refine zg_1 (pc' := 50) (fun _ _ _ _ _ hl w => lv_dup hx hb zd_Tool_init_49 rfl w) ?_
  refine zg_1 (pc' := 52) (fun _ _ _ _ _ hl w => lv_bipush (v := (8 : Int32)) hx hb zd_Tool_init_50 (by decide) w) ?_
  refine zg_1 (pc' := 55) (fun _ _ _ _ _ hl w => lv_ldc2 (v := (-1 : Int64)) hx hb hown (htT _ zt_111) zd_Tool_init_52 w) ?_
  obtain ⟨h_21, hf⟩ := zx_ck hf
  obtain ⟨s_20, e_s_20, hf⟩ := zx_l hf
  refine zg_last (pc' := 56) hx hb hK h_21 e_s_20 zd_Tool_init_55 rfl ?_
  refine zg_1 (pc' := 57) (fun _ _ _ _ _ hl w => lv_dup hx hb zd_Tool_init_56 rfl w) ?_
  refine zg_1 (pc' := 59) (fun _ _ _ _ _ hl w => lv_bipush (v := (9 : Int32)) hx hb zd_Tool_init_57 (by decide) w) ?_
  refine zg_1 (pc' := 60) (fun _ _ _ _ _ hl w => lv_lconst (v := (0 : Int64)) hx hb zd_Tool_init_59 (by decide) w) ?_
  obtain ⟨h_23, hf⟩ := zx_ck hf
  obtain ⟨s_22, e_s_22, hf⟩ := zx_l hf
  refine zg_last (pc' := 61) hx hb hK h_23 e_s_22 zd_Tool_init_60 rfl ?_
  refine zg_1 (pc' := 62) (fun _ _ _ _ _ hl w => lv_dup hx hb zd_Tool_init_61 rfl w) ?_
  refine zg_1 (pc' := 64) (fun _ _ _ _ _ hl w => lv_bipush (v := (10 : Int32)) hx hb zd_Tool_init_62 (by decide) w) ?_
  refine zg_1 (pc' := 65) (fun _ _ _ _ _ hl w => lv_lconst (v := (0 : Int64)) hx hb zd_Tool_init_64 (by decide) w) ?_
  obtain ⟨h_25, hf⟩ := zx_ck hf
  obtain ⟨s_24, e_s_24, hf⟩ := zx_l hf
  refine zg_last (pc' := 66) hx hb hK h_25 e_s_24 zd_Tool_init_65 rfl ?_
  refine zg_1 (pc' := 67) (fun _ _ _ _ _ hl w => lv_dup hx hb zd_Tool_init_66 rfl w) ?_
  refine zg_1 (pc' := 69) (fun _ _ _ _ _ hl w => lv_bipush (v := (11 : Int32)) hx hb zd_Tool_init_67 (by decide) w) ?_
  refine zg_1 (pc' := 70) (fun _ _ _ _ _ hl w => lv_lconst (v := (0 : Int64)) hx hb zd_Tool_init_69 (by decide) w) ?_
  obtain ⟨h_27, hf⟩ := zx_ck hf
  obtain ⟨s_26, e_s_26, hf⟩ := zx_l hf
  refine zg_last (pc' := 71) hx hb hK h_27 e_s_26 zd_Tool_init_70 rfl ?_
  refine zg_1 (pc' := 72) (fun _ _ _ _ _ hl w => lv_dup hx hb zd_Tool_init_71 rfl w) ?_
  refine zg_1 (pc' := 74) (fun _ _ _ _ _ hl w => lv_bipush (v := (12 : Int32)) hx hb zd_Tool_init_72 (by decide) w) ?_
  refine zg_1 (pc' := 75) (fun _ _ _ _ _ hl w => lv_lconst (v := (0 : Int64)) hx hb zd_Tool_init_74 (by decide) w) ?_
  obtain ⟨h_29, hf⟩ := zx_ck hf
  obtain ⟨s_28, e_s_28, hf⟩ := zx_l hf
  refine zg_last (pc' := 76) hx hb hK h_29 e_s_28 zd_Tool_init_75 rfl ?_
  obtain ⟨h_31, hf⟩ := zx_ck hf
  obtain ⟨s_30, e_s_30, hf⟩ := zx_l hf
  refine zg_putR (pc' := 79) (ci := 6) (ty := (.array .long)) hx hb htT zi_Tool zy_Tool zo_Tool zj_Tool hown hK h_31 rfl rfl 0 (by decide) (htT _ zt_112) (fun _ h9 => h9) (Or.inr ⟨rfl, hnm, rfl⟩) (by decide +kernel) rfl rfl rfl e_s_30 zd_Tool_init_76 rfl ?_
  refine zg_1 (pc' := 80) (fun _ _ _ _ _ hl w => lv_aload_n hx hb zd_Tool_init_79 rfl (lv_at hl 0 rfl) w) ?_
  refine zg_1 (pc' := 81) (fun _ _ _ _ _ hl w => lv_iconst (v := (4 : Int32)) hx hb zd_Tool_init_80 (by decide) w) ?_
  obtain ⟨h_34, hf⟩ := zx_ck hf
  obtain ⟨a_33, e_a_33, hf⟩ := zx_l hf
  obtain ⟨s_32, e_s_32, hf⟩ := zx_l hf
  refine zg_newl (pc' := 83) hx hb (htT _ zt_125) hK hR h_34 e_s_32 e_a_33 zd_Tool_init_81 rfl ?_
  obtain ⟨h_36, hf⟩ := zx_ck hf
  obtain ⟨s_35, e_s_35, hf⟩ := zx_l hf
  refine zg_putR (pc' := 86) (ci := 6) (ty := (.array .long)) hx hb htT zi_Tool zy_Tool zo_Tool zj_Tool hown hK h_36 rfl rfl 1 (by decide) (htT _ zt_113) (fun _ h9 => h9) (Or.inr ⟨rfl, hnm, rfl⟩) (by decide +kernel) rfl rfl rfl e_s_35 zd_Tool_init_83 rfl ?_
  refine zg_1 (pc' := 87) (fun _ _ _ _ _ hl w => lv_aload_n hx hb zd_Tool_init_86 rfl (lv_at hl 0 rfl) w) ?_
  refine zg_1 (pc' := 88) (fun _ _ _ _ _ hl w => lv_iconst (v := (4 : Int32)) hx hb zd_Tool_init_87 (by decide) w) ?_
  obtain ⟨h_39, hf⟩ := zx_ck hf
  obtain ⟨a_38, e_a_38, hf⟩ := zx_l hf
  obtain ⟨s_37, e_s_37, hf⟩ := zx_l hf
  refine zg_newl (pc' := 90) hx hb (htT _ zt_125) hK hR h_39 e_s_37 e_a_38 zd_Tool_init_88 rfl ?_
  obtain ⟨h_41, hf⟩ := zx_ck hf
  obtain ⟨s_40, e_s_40, hf⟩ := zx_l hf
  refine zg_putR (pc' := 93) (ci := 6) (ty := (.array .long)) hx hb htT zi_Tool zy_Tool zo_Tool zj_Tool hown hK h_41 rfl rfl 2 (by decide) (htT _ zt_114) (fun _ h9 => h9) (Or.inr ⟨rfl, hnm, rfl⟩) (by decide +kernel) rfl rfl rfl e_s_40 zd_Tool_init_90 rfl ?_
  refine zg_1 (pc' := 94) (fun _ _ _ _ _ hl w => lv_aload_n hx hb zd_Tool_init_93 rfl (lv_at hl 0 rfl) w) ?_
  refine zg_1 (pc' := 95) (fun _ _ _ _ _ hl w => lv_iconst (v := (0 : Int32)) hx hb zd_Tool_init_94 (by decide) w) ?_
  obtain ⟨s_42, e_s_42, hf⟩ := zx_l hf
  refine zg_putI (pc' := 98) (ci := 6) (ty := .int) hx hb htT zi_Tool zy_Tool zo_Tool zj_Tool hown hK (zx_oR e_s_40 h_41) rfl rfl 3 (by decide) (htT _ zt_115) (fun _ h9 => h9) (Or.inl rfl) (by decide +kernel) rfl rfl rfl e_s_42 zd_Tool_init_95 rfl ?_
  obtain rfl := zx_r1 hf
  exact hret _ _ zd_Tool_init_98
set_option maxHeartbeats 4000000 in
theorem zc_Signed_init_R (l : Launch) (h0 : Nat) (D : va_G) (dA : Nat → ClassId) (tb : Nat → Nat) (n : Nat) {s0 : zh_S} {a0 : Nat} {z : zh_S} (hf : zf_Signed_init_R n s0 a0 = some z) : zc_M l zn_Signed_init zs_Signed_init 1 16 h0 D dA tb [.ref (h0 + a0)] s0 none z := by
  rw [zf_Signed_init_R] at hf
  refine zc_of (cc := ze_Signed_init) (maxL := 1) (ret := none) (lv := [(0, .ref (h0 + a0))]) (by decide) rfl (Nat.le_of_ble_eq_true rfl) rfl ?_
  intro p e s m args below meth c X hnm
  obtain ⟨hx, hb, hml, hown, htT, hrt, hlk, x00, hIn⟩ := id X
  have hK := hIn.2.1
  have hT := hIn.2.2.1
  have hNe := hIn.2.2.2
  have hR : zg_R { frames := 1, cells := zh_N z - zh_N s0, slots := zh_M z - zh_M s0, locals := 16 } (zh_N s0) (zh_M s0) z := ⟨by show zh_N z ≤ zh_N s0 + (zh_N z - zh_N s0); omega, by show zh_M z ≤ zh_M s0 + (zh_M z - zh_M s0); omega⟩
  have hF : 1 ≤ ({ frames := 1, cells := zh_N z - zh_N s0, slots := zh_M z - zh_M s0, locals := 16 } : Room).frames ∧ 16 ≤ ({ frames := 1, cells := zh_N z - zh_N s0, slots := zh_M z - zh_M s0, locals := 16 } : Room).locals := ⟨Nat.le_refl _, Nat.le_refl _⟩
  have hret := fun (pc : Nat) (lv : List (Nat × Value)) (hd : decode ze_Signed_init pc = .ok (.return_, 1)) => zg_vret (R := { frames := 1, cells := zh_N z - zh_N s0, slots := zh_M z - zh_M s0, locals := 16 }) (l := l) (e := e) (below := below) (c0 := zh_N s0) (s0 := zh_M s0) (z := z) (lv := lv) X hd
  refine zg_1 (pc' := 1) (fun _ _ _ _ _ hl w => lv_aload_n hx hb zd_Signed_init_0 rfl (lv_at hl 0 rfl) w) ?_
  refine zg_1 (pc' := 4) (fun _ _ _ _ _ hl w => W.objInit hx hb hown (htT _ zt_143) (htT _ zt_83) (htT _ zt_84) rfl (by rw [hml]; exact hl.1) rfl zd_Signed_init_1 (Nat.le_trans (Nat.le_of_ble_eq_true rfl) hF.1) (Nat.le_trans (Nat.le_of_ble_eq_true rfl) hF.2) w) ?_
  refine zg_1 (pc' := 5) (fun _ _ _ _ _ hl w => lv_aload_n hx hb zd_Signed_init_4 rfl (lv_at hl 0 rfl) w) ?_
  refine zg_1 (pc' := 6) (fun _ _ _ _ _ hl w => lv_iconst (v := (0 : Int32)) hx hb zd_Signed_init_5 (by decide) w) ?_
  obtain ⟨h_2, hf⟩ := zx_ck hf
  obtain ⟨s_1, e_s_1, hf⟩ := zx_l hf
  refine zg_putI (pc' := 9) (ci := 3) (ty := .int) hx hb htT zi_RevokedList zy_RevokedList zo_RevokedList zj_RevokedList hown hK h_2 rfl rfl 5 (by decide) (htT _ zt_217) (fun _ h9 => h9) (Or.inl rfl) (by decide +kernel) rfl rfl rfl e_s_1 zd_Signed_init_6 rfl ?_
  obtain rfl := zx_r1 hf
  exact hret _ _ zd_Signed_init_9
set_option maxHeartbeats 4000000 in
theorem zc_RevokedList_init (l : Launch) (h0 : Nat) (D : va_G) (dA : Nat → ClassId) (tb : Nat → Nat) (n : Nat) {s0 : zh_S} {a0 : Nat} {z : zh_S} (hf : zf_RevokedList_init n s0 a0 = some z) : zc_M l zn_RevokedList_init zs_RevokedList_init 2 36 h0 D dA tb [.ref (h0 + a0)] s0 none z := by
  rw [zf_RevokedList_init] at hf
  refine zc_of (cc := ze_RevokedList_init) (maxL := 1) (ret := none) (lv := [(0, .ref (h0 + a0))]) (by decide) rfl (Nat.le_of_ble_eq_true rfl) rfl ?_
  intro p e s m args below meth c X hnm
  obtain ⟨hx, hb, hml, hown, htT, hrt, hlk, x00, hIn⟩ := id X
  have hK := hIn.2.1
  have hT := hIn.2.2.1
  have hNe := hIn.2.2.2
  have hR : zg_R { frames := 2, cells := zh_N z - zh_N s0, slots := zh_M z - zh_M s0, locals := 36 } (zh_N s0) (zh_M s0) z := ⟨by show zh_N z ≤ zh_N s0 + (zh_N z - zh_N s0); omega, by show zh_M z ≤ zh_M s0 + (zh_M z - zh_M s0); omega⟩
  have hF : 2 ≤ ({ frames := 2, cells := zh_N z - zh_N s0, slots := zh_M z - zh_M s0, locals := 36 } : Room).frames ∧ 36 ≤ ({ frames := 2, cells := zh_N z - zh_N s0, slots := zh_M z - zh_M s0, locals := 36 } : Room).locals := ⟨Nat.le_refl _, Nat.le_refl _⟩
  have hret := fun (pc : Nat) (lv : List (Nat × Value)) (hd : decode ze_RevokedList_init pc = .ok (.return_, 1)) => zg_vret (R := { frames := 2, cells := zh_N z - zh_N s0, slots := zh_M z - zh_M s0, locals := 36 }) (l := l) (e := e) (below := below) (c0 := zh_N s0) (s0 := zh_M s0) (z := z) (lv := lv) X hd
  refine zg_1 (pc' := 1) (fun _ _ _ _ _ hl w => lv_aload_n hx hb zd_RevokedList_init_0 rfl (lv_at hl 0 rfl) w) ?_
  obtain ⟨s_1, hq, hf⟩ := zx_p hf
  refine zg_call (pc' := 4) (y := s_1) (rv := none) (rest := []) X hR (zm_Signed_init_R hq) (fun H locs ls k j hsz hI hU hk => va_runIN (host := "CertificateVault") (As := []) (rest := []) ⟨hx, hb, hml, hown, htT⟩ (zc_Signed_init_R l h0 D dA tb n hq) ⟨va_cnB 0 htT (zw_g zt_142) rfl rfl rfl (zh_ne3 hNe) (htT _ zt_68) (by decide +kernel) ⟨Nat.le_trans (Nat.le_of_ble_eq_true rfl) hF.1, Nat.le_trans (Nat.le_of_ble_eq_true rfl) hF.2⟩, rfl, (htT _ zt_141)⟩ (zg_pre hU) rfl rfl hsz rfl (lv_room (Nat.le_of_ble_eq_true rfl)) zd_RevokedList_init_1 hk) rfl ?_
  refine zg_1 (pc' := 5) (fun _ _ _ _ _ hl w => lv_aload_n hx hb zd_RevokedList_init_4 rfl (lv_at hl 0 rfl) w) ?_
  refine zg_1 (pc' := 6) (fun _ _ _ _ _ hl w => lv_iconst (v := (4 : Int32)) hx hb zd_RevokedList_init_5 (by decide) w) ?_
  obtain ⟨h_4, hf⟩ := zx_ck hf
  obtain ⟨a_3, e_a_3, hf⟩ := zx_l hf
  obtain ⟨s_2, e_s_2, hf⟩ := zx_l hf
  refine zg_newl (pc' := 8) hx hb (htT _ zt_125) hK hR h_4 e_s_2 e_a_3 zd_RevokedList_init_6 rfl ?_
  obtain ⟨h_6, hf⟩ := zx_ck hf
  obtain ⟨s_5, e_s_5, hf⟩ := zx_l hf
  refine zg_putR (pc' := 11) (ci := 3) (ty := (.array .long)) hx hb htT zi_RevokedList zy_RevokedList zo_RevokedList zj_RevokedList hown hK h_6 rfl rfl 6 (by decide) (htT _ zt_262) (fun _ h9 => h9) (Or.inr ⟨rfl, hnm, rfl⟩) (by decide +kernel) rfl rfl rfl e_s_5 zd_RevokedList_init_8 rfl ?_
  refine zg_1 (pc' := 12) (fun _ _ _ _ _ hl w => lv_aload_n hx hb zd_RevokedList_init_11 rfl (lv_at hl 0 rfl) w) ?_
  refine zg_1 (pc' := 13) (fun _ _ _ _ _ hl w => lv_iconst (v := (4 : Int32)) hx hb zd_RevokedList_init_12 (by decide) w) ?_
  obtain ⟨h_9, hf⟩ := zx_ck hf
  obtain ⟨a_8, e_a_8, hf⟩ := zx_l hf
  obtain ⟨s_7, e_s_7, hf⟩ := zx_l hf
  refine zg_newl (pc' := 15) hx hb (htT _ zt_125) hK hR h_9 e_s_7 e_a_8 zd_RevokedList_init_13 rfl ?_
  obtain ⟨h_11, hf⟩ := zx_ck hf
  obtain ⟨s_10, e_s_10, hf⟩ := zx_l hf
  refine zg_putR (pc' := 18) (ci := 3) (ty := (.array .long)) hx hb htT zi_RevokedList zy_RevokedList zo_RevokedList zj_RevokedList hown hK h_11 rfl rfl 7 (by decide) (htT _ zt_264) (fun _ h9 => h9) (Or.inr ⟨rfl, hnm, rfl⟩) (by decide +kernel) rfl rfl rfl e_s_10 zd_RevokedList_init_15 rfl ?_
  obtain rfl := zx_r1 hf
  exact hret _ _ zd_RevokedList_init_18
set_option maxHeartbeats 4000000 in
theorem zc_Signed_init_C (l : Launch) (h0 : Nat) (D : va_G) (dA : Nat → ClassId) (tb : Nat → Nat) (n : Nat) {s0 : zh_S} {a0 : Nat} {z : zh_S} (hf : zf_Signed_init_C n s0 a0 = some z) : zc_M l zn_Signed_init zs_Signed_init 1 16 h0 D dA tb [.ref (h0 + a0)] s0 none z := by
  rw [zf_Signed_init_C] at hf
  refine zc_of (cc := ze_Signed_init) (maxL := 1) (ret := none) (lv := [(0, .ref (h0 + a0))]) (by decide) rfl (Nat.le_of_ble_eq_true rfl) rfl ?_
  intro p e s m args below meth c X hnm
  obtain ⟨hx, hb, hml, hown, htT, hrt, hlk, x00, hIn⟩ := id X
  have hK := hIn.2.1
  have hT := hIn.2.2.1
  have hNe := hIn.2.2.2
  have hR : zg_R { frames := 1, cells := zh_N z - zh_N s0, slots := zh_M z - zh_M s0, locals := 16 } (zh_N s0) (zh_M s0) z := ⟨by show zh_N z ≤ zh_N s0 + (zh_N z - zh_N s0); omega, by show zh_M z ≤ zh_M s0 + (zh_M z - zh_M s0); omega⟩
  have hF : 1 ≤ ({ frames := 1, cells := zh_N z - zh_N s0, slots := zh_M z - zh_M s0, locals := 16 } : Room).frames ∧ 16 ≤ ({ frames := 1, cells := zh_N z - zh_N s0, slots := zh_M z - zh_M s0, locals := 16 } : Room).locals := ⟨Nat.le_refl _, Nat.le_refl _⟩
  have hret := fun (pc : Nat) (lv : List (Nat × Value)) (hd : decode ze_Signed_init pc = .ok (.return_, 1)) => zg_vret (R := { frames := 1, cells := zh_N z - zh_N s0, slots := zh_M z - zh_M s0, locals := 16 }) (l := l) (e := e) (below := below) (c0 := zh_N s0) (s0 := zh_M s0) (z := z) (lv := lv) X hd
  refine zg_1 (pc' := 1) (fun _ _ _ _ _ hl w => lv_aload_n hx hb zd_Signed_init_0 rfl (lv_at hl 0 rfl) w) ?_
  refine zg_1 (pc' := 4) (fun _ _ _ _ _ hl w => W.objInit hx hb hown (htT _ zt_143) (htT _ zt_83) (htT _ zt_84) rfl (by rw [hml]; exact hl.1) rfl zd_Signed_init_1 (Nat.le_trans (Nat.le_of_ble_eq_true rfl) hF.1) (Nat.le_trans (Nat.le_of_ble_eq_true rfl) hF.2) w) ?_
  refine zg_1 (pc' := 5) (fun _ _ _ _ _ hl w => lv_aload_n hx hb zd_Signed_init_4 rfl (lv_at hl 0 rfl) w) ?_
  refine zg_1 (pc' := 6) (fun _ _ _ _ _ hl w => lv_iconst (v := (0 : Int32)) hx hb zd_Signed_init_5 (by decide) w) ?_
  obtain ⟨h_2, hf⟩ := zx_ck hf
  obtain ⟨s_1, e_s_1, hf⟩ := zx_l hf
  refine zg_putI (pc' := 9) (ci := 0) (ty := .int) hx hb htT zi_Certificate zy_Certificate zo_Certificate zj_Certificate hown hK h_2 rfl rfl 5 (by decide) (htT _ zt_217) (fun _ h9 => h9) (Or.inl rfl) (by decide +kernel) rfl rfl rfl e_s_1 zd_Signed_init_6 rfl ?_
  obtain rfl := zx_r1 hf
  exact hret _ _ zd_Signed_init_9
set_option maxHeartbeats 4000000 in
theorem zc_Certificate_init (l : Launch) (h0 : Nat) (D : va_G) (dA : Nat → ClassId) (tb : Nat → Nat) (n : Nat) {s0 : zh_S} {a0 : Nat} {z : zh_S} (hf : zf_Certificate_init n s0 a0 = some z) : zc_M l zn_Certificate_init zs_Certificate_init 2 36 h0 D dA tb [.ref (h0 + a0)] s0 none z := by
  rw [zf_Certificate_init] at hf
  refine zc_of (cc := ze_Certificate_init) (maxL := 1) (ret := none) (lv := [(0, .ref (h0 + a0))]) (by decide) rfl (Nat.le_of_ble_eq_true rfl) rfl ?_
  intro p e s m args below meth c X hnm
  obtain ⟨hx, hb, hml, hown, htT, hrt, hlk, x00, hIn⟩ := id X
  have hK := hIn.2.1
  have hT := hIn.2.2.1
  have hNe := hIn.2.2.2
  have hR : zg_R { frames := 2, cells := zh_N z - zh_N s0, slots := zh_M z - zh_M s0, locals := 36 } (zh_N s0) (zh_M s0) z := ⟨by show zh_N z ≤ zh_N s0 + (zh_N z - zh_N s0); omega, by show zh_M z ≤ zh_M s0 + (zh_M z - zh_M s0); omega⟩
  have hF : 2 ≤ ({ frames := 2, cells := zh_N z - zh_N s0, slots := zh_M z - zh_M s0, locals := 36 } : Room).frames ∧ 36 ≤ ({ frames := 2, cells := zh_N z - zh_N s0, slots := zh_M z - zh_M s0, locals := 36 } : Room).locals := ⟨Nat.le_refl _, Nat.le_refl _⟩
  have hret := fun (pc : Nat) (lv : List (Nat × Value)) (hd : decode ze_Certificate_init pc = .ok (.return_, 1)) => zg_vret (R := { frames := 2, cells := zh_N z - zh_N s0, slots := zh_M z - zh_M s0, locals := 36 }) (l := l) (e := e) (below := below) (c0 := zh_N s0) (s0 := zh_M s0) (z := z) (lv := lv) X hd
  refine zg_1 (pc' := 1) (fun _ _ _ _ _ hl w => lv_aload_n hx hb zd_Certificate_init_0 rfl (lv_at hl 0 rfl) w) ?_
  obtain ⟨s_1, hq, hf⟩ := zx_p hf
  refine zg_call (pc' := 4) (y := s_1) (rv := none) (rest := []) X hR (zm_Signed_init_C hq) (fun H locs ls k j hsz hI hU hk => va_runIN (host := "CertificateVault") (As := []) (rest := []) ⟨hx, hb, hml, hown, htT⟩ (zc_Signed_init_C l h0 D dA tb n hq) ⟨va_cnB 0 htT (zw_g zt_142) rfl rfl rfl (zh_ne2 hNe) (htT _ zt_68) (by decide +kernel) ⟨Nat.le_trans (Nat.le_of_ble_eq_true rfl) hF.1, Nat.le_trans (Nat.le_of_ble_eq_true rfl) hF.2⟩, rfl, (htT _ zt_141)⟩ (zg_pre hU) rfl rfl hsz rfl (lv_room (Nat.le_of_ble_eq_true rfl)) zd_Certificate_init_1 hk) rfl ?_
  obtain rfl := zx_r1 hf
  exact hret _ _ zd_Certificate_init_4
set_option maxHeartbeats 4000000 in
theorem zw_Shelf_init_64 {p : Program} {l : Launch} {e : Env} {R : Room} {s : State} {m : MethodId} {args : Array Value} {below : List Frame} {meth : Method} {c : Code} {Q : State → Prop} {h0 : Nat} {D : va_G} {dA : Nat → ClassId} {tb : Nat → Nat} {c0 k0 : Nat} {z : zh_S} (X : zg_X p s m args meth c ze_Shelf_init 2 zr_Shelf none h0 D dA tb) (hR : zg_R R c0 k0 z) (hF : 3 ≤ R.frames ∧ 56 ≤ R.locals) (hret : ∀ (pc : Nat) (lv : List (Nat × Value)), decode ze_Shelf_init pc = .ok (.return_, 1) → zg_G p l e R s m args below meth c Q h0 D dA 2 c0 k0 z z pc lv []) (n : Nat) (k : Nat) : ∀ (s0 : zh_S) (a0 : Nat) (i1 : Int32), zl_Shelf_init_64 n k s0 a0 i1 = some z → zg_G p l e R s m args below meth c Q h0 D dA 2 c0 k0 z s0 64 [(0, .ref (h0 + a0)), (1, .int i1)] [] := by
  obtain ⟨hx, hb, hml, hown, htT, hrt, hlk, x00, hIn⟩ := id X
  have hK := hIn.2.1
  have hT := hIn.2.2.1
  have hNe := hIn.2.2.2
  induction k with
  | zero => intro s0 a0 i1 hf; cases hf
  | succ k ih =>
    intro s0 a0 i1 hf
    rw [zl_Shelf_init_64] at hf
    refine zg_1 (pc' := 65) (fun _ _ _ _ _ hl w => lv_iload_n hx hb zd_Shelf_init_64 rfl (lv_at hl 1 rfl) w) ?_
    refine zg_1 (pc' := 66) (fun _ _ _ _ _ hl w => lv_aload_n hx hb zd_Shelf_init_65 rfl (lv_at hl 0 rfl) w) ?_
    obtain ⟨h_1, hf⟩ := zx_ck hf
    obtain ⟨a_2, h_3, hf⟩ := zx_p hf
    refine zg_get (pc' := 69) (ci := 5) hx hb htT zi_Shelf hown hK h_1 rfl rfl 1 (by decide) (htT _ zt_284) (fun _ h9 => h9) (zx_hv h_3) zd_Shelf_init_66 rfl ?_
    obtain ⟨h_4, hf⟩ := zx_ck hf
    refine zg_ralen (pc' := 70) (t := 1) (t0 := 3) hx hb hK rfl h_4 zd_Shelf_init_69 rfl ?_
    refine zg_2 (pc1 := 92) (pc2 := 73) (Classical.em _) (fun _ _ _ _ _ w1 w2 => lv_icmp_ge hx hb zd_Shelf_init_70 (by decide) w1 w2) (fun hc => ?_) (fun hc => ?_)
    · rw [if_pos hc] at hf
      obtain rfl := zx_r1 hf
      exact hret _ _ zd_Shelf_init_92
    · rw [if_neg hc] at hf
      refine zg_1 (pc' := 74) (fun _ _ _ _ _ hl w => lv_aload_n hx hb zd_Shelf_init_73 rfl (lv_at hl 0 rfl) w) ?_
      obtain ⟨a_5, h_6, hf⟩ := zx_p hf
      refine zg_get (pc' := 77) (ci := 5) hx hb htT zi_Shelf hown hK h_1 rfl rfl 1 (by decide) (htT _ zt_284) (fun _ h9 => h9) (zx_hv h_6) zd_Shelf_init_74 rfl ?_
      refine zg_1 (pc' := 78) (fun _ _ _ _ _ hl w => lv_iload_n hx hb zd_Shelf_init_77 rfl (lv_at hl 1 rfl) w) ?_
      obtain ⟨a_8, e_a_8, hf⟩ := zx_l hf
      obtain ⟨s_7, e_s_7, hf⟩ := zx_l hf
      refine zg_new (pc' := 81) (ci := 3) hx hb htT zi_RevokedList zy_RevokedList zo_RevokedList hown (htT _ zt_134) (htT _ zt_257) (htT _ zt_70) hK rfl rfl (fun j hj => by rcases (show j = 0 ∨ j = 1 ∨ j = 2 ∨ j = 3 ∨ j = 4 ∨ j = 5 ∨ j = 6 ∨ j = 7 ∨ j = 8 by omega) with rfl | rfl | rfl | rfl | rfl | rfl | rfl | rfl | rfl <;> rfl) hR e_s_7 e_a_8 zd_Shelf_init_78 rfl ?_
      have ho_a_8 : zh_oo s_7 a_8 3 := zx_on e_s_7 e_a_8
      refine zg_1 (pc' := 82) (fun _ _ _ _ _ hl w => lv_dup hx hb zd_Shelf_init_81 rfl w) ?_
      obtain ⟨s_9, hq, hf⟩ := zx_p hf
      refine zg_call (pc' := 85) (y := s_9) (rv := none) (rest := [.ref (h0 + a_8), .int i1, .ref (h0 + a_5)]) X hR (zm_RevokedList_init hq) (fun H locs ls k j hsz hI hU hk => va_runIN (host := "CertificateVault") (As := []) (rest := [.ref (h0 + a_8), .int i1, .ref (h0 + a_5)]) ⟨hx, hb, hml, hown, htT⟩ (zc_RevokedList_init l h0 D dA tb n hq) ⟨va_cnB 0 htT (zw_g zt_260) rfl rfl rfl (zh_ne5 hNe) (htT _ zt_70) (by decide +kernel) ⟨Nat.le_trans (Nat.le_of_ble_eq_true rfl) hF.1, Nat.le_trans (Nat.le_of_ble_eq_true rfl) hF.2⟩, rfl, (htT _ zt_259)⟩ (zg_pre hU) rfl rfl hsz rfl (lv_room (Nat.le_of_ble_eq_true rfl)) zd_Shelf_init_82 hk) rfl ?_
      obtain ⟨h_11, hf⟩ := zx_ck hf
      obtain ⟨h_12, hf⟩ := zx_ck hf
      obtain ⟨s_10, e_s_10, hf⟩ := zx_l hf
      refine zg_aast (pc' := 86) (t := 1) (t0 := 3) hx hb hK rfl h_12 h_11 rfl e_s_10 zd_Shelf_init_85 rfl ?_
      obtain ⟨i_13, e_i_13, hf⟩ := zx_l hf
      refine zg_s (pc' := 89) (lv' := [(1, .int i_13), (0, .ref (h0 + a0))]) (fun _ _ _ _ _ hl w => lv_iinc (k := 1) (v := i_13) hx hb zd_Shelf_init_86 hl rfl (by rw [e_i_13]; rfl) (by decide) rfl w) ?_
      refine zg_1 (pc' := 64) (fun _ _ _ _ _ hl w => lv_goto hx hb zd_Shelf_init_89 (by decide) w) ?_
      refine zg_v [1, 0] rfl ?_
      exact ih s_10 a0 i_13 hf
set_option maxHeartbeats 4000000 in
theorem zw_Shelf_init_34 {p : Program} {l : Launch} {e : Env} {R : Room} {s : State} {m : MethodId} {args : Array Value} {below : List Frame} {meth : Method} {c : Code} {Q : State → Prop} {h0 : Nat} {D : va_G} {dA : Nat → ClassId} {tb : Nat → Nat} {c0 k0 : Nat} {z : zh_S} (X : zg_X p s m args meth c ze_Shelf_init 2 zr_Shelf none h0 D dA tb) (hR : zg_R R c0 k0 z) (hF : 3 ≤ R.frames ∧ 56 ≤ R.locals) (hret : ∀ (pc : Nat) (lv : List (Nat × Value)), decode ze_Shelf_init pc = .ok (.return_, 1) → zg_G p l e R s m args below meth c Q h0 D dA 2 c0 k0 z z pc lv []) (n : Nat) (k : Nat) : ∀ (s0 : zh_S) (a0 : Nat) (i1 : Int32), zl_Shelf_init_34 n k s0 a0 i1 = some z → zg_G p l e R s m args below meth c Q h0 D dA 2 c0 k0 z s0 34 [(0, .ref (h0 + a0)), (1, .int i1)] [] := by
  obtain ⟨hx, hb, hml, hown, htT, hrt, hlk, x00, hIn⟩ := id X
  have hK := hIn.2.1
  have hT := hIn.2.2.1
  have hNe := hIn.2.2.2
  induction k with
  | zero => intro s0 a0 i1 hf; cases hf
  | succ k ih =>
    intro s0 a0 i1 hf
    rw [zl_Shelf_init_34] at hf
    refine zg_1 (pc' := 35) (fun _ _ _ _ _ hl w => lv_iload_n hx hb zd_Shelf_init_34 rfl (lv_at hl 1 rfl) w) ?_
    refine zg_1 (pc' := 36) (fun _ _ _ _ _ hl w => lv_aload_n hx hb zd_Shelf_init_35 rfl (lv_at hl 0 rfl) w) ?_
    obtain ⟨h_1, hf⟩ := zx_ck hf
    obtain ⟨a_2, h_3, hf⟩ := zx_p hf
    refine zg_get (pc' := 39) (ci := 5) hx hb htT zi_Shelf hown hK h_1 rfl rfl 0 (by decide) (htT _ zt_281) (fun _ h9 => h9) (zx_hv h_3) zd_Shelf_init_36 rfl ?_
    obtain ⟨h_4, hf⟩ := zx_ck hf
    refine zg_ralen (pc' := 40) (t := 0) (t0 := 2) hx hb hK rfl h_4 zd_Shelf_init_39 rfl ?_
    refine zg_2 (pc1 := 62) (pc2 := 43) (Classical.em _) (fun _ _ _ _ _ w1 w2 => lv_icmp_ge hx hb zd_Shelf_init_40 (by decide) w1 w2) (fun hc => ?_) (fun hc => ?_)
    · rw [if_pos hc] at hf
      refine zg_1 (pc' := 63) (fun _ _ _ _ _ hl w => lv_iconst (v := (0 : Int32)) hx hb zd_Shelf_init_62 (by decide) w) ?_
      refine zg_s (pc' := 64) (lv' := [(1, .int (0 : Int32)), (0, .ref (h0 + a0))]) (fun _ _ _ _ _ hl w => lv_istore_n hx hb zd_Shelf_init_63 rfl hl (by decide) rfl w) ?_
      refine zg_v [1, 0] rfl ?_
      exact zw_Shelf_init_64 X hR hF hret n n s0 a0 (0 : Int32) hf
    · rw [if_neg hc] at hf
      refine zg_1 (pc' := 44) (fun _ _ _ _ _ hl w => lv_aload_n hx hb zd_Shelf_init_43 rfl (lv_at hl 0 rfl) w) ?_
      obtain ⟨a_5, h_6, hf⟩ := zx_p hf
      refine zg_get (pc' := 47) (ci := 5) hx hb htT zi_Shelf hown hK h_1 rfl rfl 0 (by decide) (htT _ zt_281) (fun _ h9 => h9) (zx_hv h_6) zd_Shelf_init_44 rfl ?_
      refine zg_1 (pc' := 48) (fun _ _ _ _ _ hl w => lv_iload_n hx hb zd_Shelf_init_47 rfl (lv_at hl 1 rfl) w) ?_
      obtain ⟨a_8, e_a_8, hf⟩ := zx_l hf
      obtain ⟨s_7, e_s_7, hf⟩ := zx_l hf
      refine zg_new (pc' := 51) (ci := 0) hx hb htT zi_Certificate zy_Certificate zo_Certificate hown (htT _ zt_132) (htT _ zt_136) (htT _ zt_69) hK rfl rfl (fun j hj => by rcases (show j = 0 ∨ j = 1 ∨ j = 2 ∨ j = 3 ∨ j = 4 ∨ j = 5 ∨ j = 6 ∨ j = 7 ∨ j = 8 ∨ j = 9 ∨ j = 10 ∨ j = 11 ∨ j = 12 ∨ j = 13 ∨ j = 14 ∨ j = 15 ∨ j = 16 ∨ j = 17 ∨ j = 18 by omega) with rfl | rfl | rfl | rfl | rfl | rfl | rfl | rfl | rfl | rfl | rfl | rfl | rfl | rfl | rfl | rfl | rfl | rfl | rfl <;> rfl) hR e_s_7 e_a_8 zd_Shelf_init_48 rfl ?_
      have ho_a_8 : zh_oo s_7 a_8 0 := zx_on e_s_7 e_a_8
      refine zg_1 (pc' := 52) (fun _ _ _ _ _ hl w => lv_dup hx hb zd_Shelf_init_51 rfl w) ?_
      obtain ⟨s_9, hq, hf⟩ := zx_p hf
      refine zg_call (pc' := 55) (y := s_9) (rv := none) (rest := [.ref (h0 + a_8), .int i1, .ref (h0 + a_5)]) X hR (zm_Certificate_init hq) (fun H locs ls k j hsz hI hU hk => va_runIN (host := "CertificateVault") (As := []) (rest := [.ref (h0 + a_8), .int i1, .ref (h0 + a_5)]) ⟨hx, hb, hml, hown, htT⟩ (zc_Certificate_init l h0 D dA tb n hq) ⟨va_cnB 0 htT (zw_g zt_139) rfl rfl rfl (zh_ne4 hNe) (htT _ zt_69) (by decide +kernel) ⟨Nat.le_trans (Nat.le_of_ble_eq_true rfl) hF.1, Nat.le_trans (Nat.le_of_ble_eq_true rfl) hF.2⟩, rfl, (htT _ zt_138)⟩ (zg_pre hU) rfl rfl hsz rfl (lv_room (Nat.le_of_ble_eq_true rfl)) zd_Shelf_init_52 hk) rfl ?_
      obtain ⟨h_11, hf⟩ := zx_ck hf
      obtain ⟨h_12, hf⟩ := zx_ck hf
      obtain ⟨s_10, e_s_10, hf⟩ := zx_l hf
      refine zg_aast (pc' := 56) (t := 0) (t0 := 2) hx hb hK rfl h_12 h_11 rfl e_s_10 zd_Shelf_init_55 rfl ?_
      obtain ⟨i_13, e_i_13, hf⟩ := zx_l hf
      refine zg_s (pc' := 59) (lv' := [(1, .int i_13), (0, .ref (h0 + a0))]) (fun _ _ _ _ _ hl w => lv_iinc (k := 1) (v := i_13) hx hb zd_Shelf_init_56 hl rfl (by rw [e_i_13]; rfl) (by decide) rfl w) ?_
      refine zg_1 (pc' := 34) (fun _ _ _ _ _ hl w => lv_goto hx hb zd_Shelf_init_59 (by decide) w) ?_
      refine zg_v [1, 0] rfl ?_
      exact ih s_10 a0 i_13 hf
set_option maxHeartbeats 4000000 in
theorem zc_Shelf_init (l : Launch) (h0 : Nat) (D : va_G) (dA : Nat → ClassId) (tb : Nat → Nat) (n : Nat) {s0 : zh_S} {a0 : Nat} {z : zh_S} (hf : zf_Shelf_init n s0 a0 = some z) : zc_M l zn_Shelf_init zs_Shelf_init 3 56 h0 D dA tb [.ref (h0 + a0)] s0 none z := by
  rw [zf_Shelf_init] at hf
  refine zc_of (cc := ze_Shelf_init) (maxL := 2) (ret := none) (lv := [(0, .ref (h0 + a0))]) (by decide) rfl (Nat.le_of_ble_eq_true rfl) rfl ?_
  intro p e s m args below meth c X hnm
  obtain ⟨hx, hb, hml, hown, htT, hrt, hlk, x00, hIn⟩ := id X
  have hK := hIn.2.1
  have hT := hIn.2.2.1
  have hNe := hIn.2.2.2
  have hR : zg_R { frames := 3, cells := zh_N z - zh_N s0, slots := zh_M z - zh_M s0, locals := 56 } (zh_N s0) (zh_M s0) z := ⟨by show zh_N z ≤ zh_N s0 + (zh_N z - zh_N s0); omega, by show zh_M z ≤ zh_M s0 + (zh_M z - zh_M s0); omega⟩
  have hF : 3 ≤ ({ frames := 3, cells := zh_N z - zh_N s0, slots := zh_M z - zh_M s0, locals := 56 } : Room).frames ∧ 56 ≤ ({ frames := 3, cells := zh_N z - zh_N s0, slots := zh_M z - zh_M s0, locals := 56 } : Room).locals := ⟨Nat.le_refl _, Nat.le_refl _⟩
  have hret := fun (pc : Nat) (lv : List (Nat × Value)) (hd : decode ze_Shelf_init pc = .ok (.return_, 1)) => zg_vret (R := { frames := 3, cells := zh_N z - zh_N s0, slots := zh_M z - zh_M s0, locals := 56 }) (l := l) (e := e) (below := below) (c0 := zh_N s0) (s0 := zh_M s0) (z := z) (lv := lv) X hd
  refine zg_1 (pc' := 1) (fun _ _ _ _ _ hl w => lv_aload_n hx hb zd_Shelf_init_0 rfl (lv_at hl 0 rfl) w) ?_
  refine zg_1 (pc' := 4) (fun _ _ _ _ _ hl w => W.objInit hx hb hown (htT _ zt_131) (htT _ zt_83) (htT _ zt_84) rfl (by rw [hml]; exact hl.1) rfl zd_Shelf_init_1 (Nat.le_trans (Nat.le_of_ble_eq_true rfl) hF.1) (Nat.le_trans (Nat.le_of_ble_eq_true rfl) hF.2) w) ?_
  refine zg_1 (pc' := 5) (fun _ _ _ _ _ hl w => lv_aload_n hx hb zd_Shelf_init_4 rfl (lv_at hl 0 rfl) w) ?_
  refine zg_1 (pc' := 7) (fun _ _ _ _ _ hl w => lv_bipush (v := (13 : Int32)) hx hb zd_Shelf_init_5 (by decide) w) ?_
  obtain ⟨h_3, hf⟩ := zx_ck hf
  obtain ⟨a_2, e_a_2, hf⟩ := zx_l hf
  obtain ⟨s_1, e_s_1, hf⟩ := zx_l hf
  refine zg_newr (pc' := 10) (t := 0) (t0 := 2) hx hb hown (htT _ zt_132) hNe.2.1 hK rfl hR h_3 e_s_1 e_a_2 zd_Shelf_init_7 rfl ?_
  obtain ⟨h_5, hf⟩ := zx_ck hf
  obtain ⟨s_4, e_s_4, hf⟩ := zx_l hf
  refine zg_putR (pc' := 13) (ci := 5) (ty := (.array (.object zr_Certificate))) hx hb htT zi_Shelf zy_Shelf zo_Shelf zj_Shelf hown hK h_5 rfl rfl 0 (by decide) (htT _ zt_281) (fun _ h9 => h9) (Or.inr ⟨rfl, hnm, rfl⟩) (by decide +kernel) rfl rfl rfl e_s_4 zd_Shelf_init_10 rfl ?_
  refine zg_1 (pc' := 14) (fun _ _ _ _ _ hl w => lv_aload_n hx hb zd_Shelf_init_13 rfl (lv_at hl 0 rfl) w) ?_
  refine zg_1 (pc' := 16) (fun _ _ _ _ _ hl w => lv_bipush (v := (7 : Int32)) hx hb zd_Shelf_init_14 (by decide) w) ?_
  obtain ⟨h_8, hf⟩ := zx_ck hf
  obtain ⟨a_7, e_a_7, hf⟩ := zx_l hf
  obtain ⟨s_6, e_s_6, hf⟩ := zx_l hf
  refine zg_newr (pc' := 19) (t := 1) (t0 := 3) hx hb hown (htT _ zt_134) hNe.2.2 hK rfl hR h_8 e_s_6 e_a_7 zd_Shelf_init_16 rfl ?_
  obtain ⟨h_10, hf⟩ := zx_ck hf
  obtain ⟨s_9, e_s_9, hf⟩ := zx_l hf
  refine zg_putR (pc' := 22) (ci := 5) (ty := (.array (.object zr_RevokedList))) hx hb htT zi_Shelf zy_Shelf zo_Shelf zj_Shelf hown hK h_10 rfl rfl 1 (by decide) (htT _ zt_284) (fun _ h9 => h9) (Or.inr ⟨rfl, hnm, rfl⟩) (by decide +kernel) rfl rfl rfl e_s_9 zd_Shelf_init_19 rfl ?_
  refine zg_1 (pc' := 23) (fun _ _ _ _ _ hl w => lv_aload_n hx hb zd_Shelf_init_22 rfl (lv_at hl 0 rfl) w) ?_
  refine zg_1 (pc' := 24) (fun _ _ _ _ _ hl w => lv_iconst (v := (0 : Int32)) hx hb zd_Shelf_init_23 (by decide) w) ?_
  obtain ⟨s_11, e_s_11, hf⟩ := zx_l hf
  refine zg_putI (pc' := 27) (ci := 5) (ty := .int) hx hb htT zi_Shelf zy_Shelf zo_Shelf zj_Shelf hown hK (zx_oR e_s_9 h_10) rfl rfl 2 (by decide) (htT _ zt_287) (fun _ h9 => h9) (Or.inl rfl) (by decide +kernel) rfl rfl rfl e_s_11 zd_Shelf_init_24 rfl ?_
  refine zg_1 (pc' := 28) (fun _ _ _ _ _ hl w => lv_aload_n hx hb zd_Shelf_init_27 rfl (lv_at hl 0 rfl) w) ?_
  refine zg_1 (pc' := 29) (fun _ _ _ _ _ hl w => lv_iconst (v := (0 : Int32)) hx hb zd_Shelf_init_28 (by decide) w) ?_
  obtain ⟨s_12, e_s_12, hf⟩ := zx_l hf
  refine zg_putI (pc' := 32) (ci := 5) (ty := .int) hx hb htT zi_Shelf zy_Shelf zo_Shelf zj_Shelf hown hK (zx_oI e_s_11 (zx_oR e_s_9 h_10)) rfl rfl 3 (by decide) (htT _ zt_290) (fun _ h9 => h9) (Or.inl rfl) (by decide +kernel) rfl rfl rfl e_s_12 zd_Shelf_init_29 rfl ?_
  refine zg_1 (pc' := 33) (fun _ _ _ _ _ hl w => lv_iconst (v := (0 : Int32)) hx hb zd_Shelf_init_32 (by decide) w) ?_
  refine zg_s (pc' := 34) (lv' := [(1, .int (0 : Int32)), (0, .ref (h0 + a0))]) (fun _ _ _ _ _ hl w => lv_istore_n hx hb zd_Shelf_init_33 rfl hl (by decide) rfl w) ?_
  refine zg_v [1, 0] rfl ?_
  exact zw_Shelf_init_34 X hR hF hret n n s_12 a0 (0 : Int32) hf
set_option maxHeartbeats 4000000 in
theorem zc_V_init (l : Launch) (h0 : Nat) (D : va_G) (dA : Nat → ClassId) (tb : Nat → Nat) (n : Nat) {s0 : zh_S} {a0 : Nat} {z : zh_S} (hf : zf_V_init n s0 a0 = some z) : zc_M l zn_V_init zs_V_init 4 77 h0 D dA tb [.ref (h0 + a0)] s0 none z := by
  rw [zf_V_init] at hf
  refine zc_of (cc := ze_V_init) (maxL := 1) (ret := none) (lv := [(0, .ref (h0 + a0))]) (by decide) rfl (Nat.le_of_ble_eq_true rfl) rfl ?_
  intro p e s m args below meth c X hnm
  obtain ⟨hx, hb, hml, hown, htT, hrt, hlk, x00, hIn⟩ := id X
  have hK := hIn.2.1
  have hT := hIn.2.2.1
  have hNe := hIn.2.2.2
  have hR : zg_R { frames := 4, cells := zh_N z - zh_N s0, slots := zh_M z - zh_M s0, locals := 77 } (zh_N s0) (zh_M s0) z := ⟨by show zh_N z ≤ zh_N s0 + (zh_N z - zh_N s0); omega, by show zh_M z ≤ zh_M s0 + (zh_M z - zh_M s0); omega⟩
  have hF : 4 ≤ ({ frames := 4, cells := zh_N z - zh_N s0, slots := zh_M z - zh_M s0, locals := 77 } : Room).frames ∧ 77 ≤ ({ frames := 4, cells := zh_N z - zh_N s0, slots := zh_M z - zh_M s0, locals := 77 } : Room).locals := ⟨Nat.le_refl _, Nat.le_refl _⟩
  have hret := fun (pc : Nat) (lv : List (Nat × Value)) (hd : decode ze_V_init pc = .ok (.return_, 1)) => zg_vret (R := { frames := 4, cells := zh_N z - zh_N s0, slots := zh_M z - zh_M s0, locals := 77 }) (l := l) (e := e) (below := below) (c0 := zh_N s0) (s0 := zh_M s0) (z := z) (lv := lv) X hd
  refine zg_1 (pc' := 1) (fun _ _ _ _ _ hl w => lv_aload_n hx hb zd_V_init_0 rfl (lv_at hl 0 rfl) w) ?_
  refine zg_1 (pc' := 4) (fun _ _ _ _ _ hl w => W.objInit hx hb hown (htT _ zt_82) (htT _ zt_83) (htT _ zt_84) rfl (by rw [hml]; exact hl.1) rfl zd_V_init_1 (Nat.le_trans (Nat.le_of_ble_eq_true rfl) hF.1) (Nat.le_trans (Nat.le_of_ble_eq_true rfl) hF.2) w) ?_
  refine zg_1 (pc' := 5) (fun _ _ _ _ _ hl w => lv_aload_n hx hb zd_V_init_4 rfl (lv_at hl 0 rfl) w) ?_
  obtain ⟨a_2, e_a_2, hf⟩ := zx_l hf
  obtain ⟨s_1, e_s_1, hf⟩ := zx_l hf
  refine zg_new (pc' := 8) (ci := 1) hx hb htT zi_Draft zy_Draft zo_Draft hown (htT _ zt_85) (htT _ zt_86) (htT _ zt_65) hK rfl rfl (fun j hj => by rcases (show j = 0 ∨ j = 1 by omega) with rfl | rfl <;> rfl) hR e_s_1 e_a_2 zd_V_init_5 rfl ?_
  have ho_a_2 : zh_oo s_1 a_2 1 := zx_on e_s_1 e_a_2
  refine zg_1 (pc' := 9) (fun _ _ _ _ _ hl w => lv_dup hx hb zd_V_init_8 rfl w) ?_
  obtain ⟨s_3, hq, hf⟩ := zx_p hf
  refine zg_call (pc' := 12) (y := s_3) (rv := none) (rest := [.ref (h0 + a_2), .ref (h0 + a0)]) X hR (zm_Draft_init hq) (fun H locs ls k j hsz hI hU hk => va_runIN (host := "CertificateVault") (As := []) (rest := [.ref (h0 + a_2), .ref (h0 + a0)]) ⟨hx, hb, hml, hown, htT⟩ (zc_Draft_init l h0 D dA tb n hq) ⟨va_cnB 0 htT (zw_g zt_89) rfl rfl rfl (zh_ne0 hNe) (htT _ zt_65) (by decide +kernel) ⟨Nat.le_trans (Nat.le_of_ble_eq_true rfl) hF.1, Nat.le_trans (Nat.le_of_ble_eq_true rfl) hF.2⟩, rfl, (htT _ zt_88)⟩ (zg_pre hU) rfl rfl hsz rfl (lv_room (Nat.le_of_ble_eq_true rfl)) zd_V_init_9 hk) rfl ?_
  obtain ⟨h_5, hf⟩ := zx_ck hf
  obtain ⟨s_4, e_s_4, hf⟩ := zx_l hf
  refine zg_putR (pc' := 15) (ci := 7) (ty := (.object zr_Draft)) hx hb htT zi_V zy_V zo_V zj_V hown hK h_5 rfl rfl 0 (by decide) (htT _ zt_302) (fun _ h9 => h9) (Or.inr ⟨rfl, hnm, rfl⟩) (by decide +kernel) rfl rfl rfl e_s_4 zd_V_init_12 rfl ?_
  refine zg_1 (pc' := 16) (fun _ _ _ _ _ hl w => lv_aload_n hx hb zd_V_init_15 rfl (lv_at hl 0 rfl) w) ?_
  obtain ⟨a_7, e_a_7, hf⟩ := zx_l hf
  obtain ⟨s_6, e_s_6, hf⟩ := zx_l hf
  refine zg_new (pc' := 19) (ci := 6) hx hb htT zi_Tool zy_Tool zo_Tool hown (htT _ zt_104) (htT _ zt_105) (htT _ zt_66) hK rfl rfl (fun j hj => by rcases (show j = 0 ∨ j = 1 ∨ j = 2 ∨ j = 3 by omega) with rfl | rfl | rfl | rfl <;> rfl) hR e_s_6 e_a_7 zd_V_init_16 rfl ?_
  have ho_a_7 : zh_oo s_6 a_7 6 := zx_on e_s_6 e_a_7
  refine zg_1 (pc' := 20) (fun _ _ _ _ _ hl w => lv_dup hx hb zd_V_init_19 rfl w) ?_
  obtain ⟨s_8, hq, hf⟩ := zx_p hf
  refine zg_call (pc' := 23) (y := s_8) (rv := none) (rest := [.ref (h0 + a_7), .ref (h0 + a0)]) X hR (zm_Tool_init hq) (fun H locs ls k j hsz hI hU hk => va_runIN (host := "CertificateVault") (As := []) (rest := [.ref (h0 + a_7), .ref (h0 + a0)]) ⟨hx, hb, hml, hown, htT⟩ (zc_Tool_init l h0 D dA tb n hq) ⟨va_cnB 0 htT (zw_g zt_108) rfl rfl rfl (zh_ne1 hNe) (htT _ zt_66) (by decide +kernel) ⟨Nat.le_trans (Nat.le_of_ble_eq_true rfl) hF.1, Nat.le_trans (Nat.le_of_ble_eq_true rfl) hF.2⟩, rfl, (htT _ zt_107)⟩ (zg_pre hU) rfl rfl hsz rfl (lv_room (Nat.le_of_ble_eq_true rfl)) zd_V_init_20 hk) rfl ?_
  obtain ⟨h_10, hf⟩ := zx_ck hf
  obtain ⟨s_9, e_s_9, hf⟩ := zx_l hf
  refine zg_putR (pc' := 26) (ci := 7) (ty := (.object zr_Tool)) hx hb htT zi_V zy_V zo_V zj_V hown hK h_10 rfl rfl 1 (by decide) (htT _ zt_303) (fun _ h9 => h9) (Or.inr ⟨rfl, hnm, rfl⟩) (by decide +kernel) rfl rfl rfl e_s_9 zd_V_init_23 rfl ?_
  refine zg_1 (pc' := 27) (fun _ _ _ _ _ hl w => lv_aload_n hx hb zd_V_init_26 rfl (lv_at hl 0 rfl) w) ?_
  obtain ⟨a_12, e_a_12, hf⟩ := zx_l hf
  obtain ⟨s_11, e_s_11, hf⟩ := zx_l hf
  refine zg_new (pc' := 30) (ci := 5) hx hb htT zi_Shelf zy_Shelf zo_Shelf hown (htT _ zt_126) (htT _ zt_127) (htT _ zt_67) hK rfl rfl (fun j hj => by rcases (show j = 0 ∨ j = 1 ∨ j = 2 ∨ j = 3 by omega) with rfl | rfl | rfl | rfl <;> rfl) hR e_s_11 e_a_12 zd_V_init_27 rfl ?_
  have ho_a_12 : zh_oo s_11 a_12 5 := zx_on e_s_11 e_a_12
  refine zg_1 (pc' := 31) (fun _ _ _ _ _ hl w => lv_dup hx hb zd_V_init_30 rfl w) ?_
  obtain ⟨s_13, hq, hf⟩ := zx_p hf
  refine zg_call (pc' := 34) (y := s_13) (rv := none) (rest := [.ref (h0 + a_12), .ref (h0 + a0)]) X hR (zm_Shelf_init hq) (fun H locs ls k j hsz hI hU hk => va_runI (As := []) (rest := [.ref (h0 + a_12), .ref (h0 + a0)]) ⟨hx, hb, hml, hown, htT⟩ (zc_Shelf_init l h0 D dA tb n hq) (cwI 0 htT (zw_g zt_130) rfl rfl rfl (htT _ zt_67) (htT _ zt_128) (htT _ zt_129) rfl (by decide +kernel) ⟨Nat.le_trans (Nat.le_of_ble_eq_true rfl) hF.1, Nat.le_trans (Nat.le_of_ble_eq_true rfl) hF.2⟩) (zg_pre hU) rfl rfl hsz rfl (lv_room (Nat.le_of_ble_eq_true rfl)) zd_V_init_31 hk) rfl ?_
  obtain ⟨h_15, hf⟩ := zx_ck hf
  obtain ⟨s_14, e_s_14, hf⟩ := zx_l hf
  refine zg_putR (pc' := 37) (ci := 7) (ty := (.object zr_Shelf)) hx hb htT zi_V zy_V zo_V zj_V hown hK h_15 rfl rfl 2 (by decide) (htT _ zt_304) (fun _ h9 => h9) (Or.inr ⟨rfl, hnm, rfl⟩) (by decide +kernel) rfl rfl rfl e_s_14 zd_V_init_34 rfl ?_
  refine zg_1 (pc' := 38) (fun _ _ _ _ _ hl w => lv_aload_n hx hb zd_V_init_37 rfl (lv_at hl 0 rfl) w) ?_
  refine zg_1 (pc' := 39) (fun _ _ _ _ _ hl w => lv_null hx hb zd_V_init_38 w) ?_
  obtain ⟨s_16, e_s_16, hf⟩ := zx_l hf
  refine zg_putR (pc' := 42) (ci := 7) (ty := (.object zr_Search)) hx hb htT zi_V zy_V zo_V zj_V hown hK (zx_oR e_s_14 h_15) rfl rfl 3 (by decide) (htT _ zt_305) (fun _ h9 => h9) (Or.inl rfl) (by decide +kernel) rfl rfl rfl e_s_16 zd_V_init_39 rfl ?_
  obtain rfl := zx_r1 hf
  exact hret _ _ zd_V_init_42
set_option maxHeartbeats 4000000 in
theorem zc_M_init (l : Launch) (h0 : Nat) (D : va_G) (dA : Nat → ClassId) (tb : Nat → Nat) (n : Nat) {s0 : zh_S} {a0 : Nat} {z : zh_S} (hf : zf_M_init n s0 a0 = some z) : zc_M l zn_M_init zs_M_init 1 16 h0 D dA tb [.ref (h0 + a0)] s0 none z := by
  rw [zf_M_init] at hf
  refine zc_of (cc := ze_M_init) (maxL := 1) (ret := none) (lv := [(0, .ref (h0 + a0))]) (by decide) rfl (Nat.le_of_ble_eq_true rfl) rfl ?_
  intro p e s m args below meth c X hnm
  obtain ⟨hx, hb, hml, hown, htT, hrt, hlk, x00, hIn⟩ := id X
  have hK := hIn.2.1
  have hT := hIn.2.2.1
  have hNe := hIn.2.2.2
  have hR : zg_R { frames := 1, cells := zh_N z - zh_N s0, slots := zh_M z - zh_M s0, locals := 16 } (zh_N s0) (zh_M s0) z := ⟨by show zh_N z ≤ zh_N s0 + (zh_N z - zh_N s0); omega, by show zh_M z ≤ zh_M s0 + (zh_M z - zh_M s0); omega⟩
  have hF : 1 ≤ ({ frames := 1, cells := zh_N z - zh_N s0, slots := zh_M z - zh_M s0, locals := 16 } : Room).frames ∧ 16 ≤ ({ frames := 1, cells := zh_N z - zh_N s0, slots := zh_M z - zh_M s0, locals := 16 } : Room).locals := ⟨Nat.le_refl _, Nat.le_refl _⟩
  have hret := fun (pc : Nat) (lv : List (Nat × Value)) (hd : decode ze_M_init pc = .ok (.return_, 1)) => zg_vret (R := { frames := 1, cells := zh_N z - zh_N s0, slots := zh_M z - zh_M s0, locals := 16 }) (l := l) (e := e) (below := below) (c0 := zh_N s0) (s0 := zh_M s0) (z := z) (lv := lv) X hd
  refine zg_1 (pc' := 1) (fun _ _ _ _ _ hl w => lv_aload_n hx hb zd_M_init_0 rfl (lv_at hl 0 rfl) w) ?_
  refine zg_1 (pc' := 4) (fun _ _ _ _ _ hl w => W.objInit hx hb hown (htT _ zt_784) (htT _ zt_83) (htT _ zt_84) rfl (by rw [hml]; exact hl.1) rfl zd_M_init_1 (Nat.le_trans (Nat.le_of_ble_eq_true rfl) hF.1) (Nat.le_trans (Nat.le_of_ble_eq_true rfl) hF.2) w) ?_
  refine zg_1 (pc' := 5) (fun _ _ _ _ _ hl w => lv_aload_n hx hb zd_M_init_4 rfl (lv_at hl 0 rfl) w) ?_
  refine zg_1 (pc' := 8) (fun _ _ _ _ _ hl w => lv_sipush (v := (200 : Int32)) hx hb zd_M_init_5 (by decide) w) ?_
  obtain ⟨h_3, hf⟩ := zx_ck hf
  obtain ⟨a_2, e_a_2, hf⟩ := zx_l hf
  obtain ⟨s_1, e_s_1, hf⟩ := zx_l hf
  refine zg_newi (pc' := 10) hx hb (htT _ zt_103) hK hR h_3 e_s_1 e_a_2 zd_M_init_8 rfl ?_
  obtain ⟨h_5, hf⟩ := zx_ck hf
  obtain ⟨s_4, e_s_4, hf⟩ := zx_l hf
  refine zg_putR (pc' := 13) (ci := 8) (ty := (.array .int)) hx hb htT zi_M zy_M zo_M zj_M hown hK h_5 rfl rfl 0 (by decide) (htT _ zt_805) (fun _ h9 => h9) (Or.inr ⟨rfl, hnm, rfl⟩) (by decide +kernel) rfl rfl rfl e_s_4 zd_M_init_10 rfl ?_
  refine zg_1 (pc' := 14) (fun _ _ _ _ _ hl w => lv_aload_n hx hb zd_M_init_13 rfl (lv_at hl 0 rfl) w) ?_
  refine zg_1 (pc' := 16) (fun _ _ _ _ _ hl w => lv_bipush (v := (13 : Int32)) hx hb zd_M_init_14 (by decide) w) ?_
  obtain ⟨h_8, hf⟩ := zx_ck hf
  obtain ⟨a_7, e_a_7, hf⟩ := zx_l hf
  obtain ⟨s_6, e_s_6, hf⟩ := zx_l hf
  refine zg_newl (pc' := 18) hx hb (htT _ zt_125) hK hR h_8 e_s_6 e_a_7 zd_M_init_16 rfl ?_
  obtain ⟨h_10, hf⟩ := zx_ck hf
  obtain ⟨s_9, e_s_9, hf⟩ := zx_l hf
  refine zg_putR (pc' := 21) (ci := 8) (ty := (.array .long)) hx hb htT zi_M zy_M zo_M zj_M hown hK h_10 rfl rfl 2 (by decide) (htT _ zt_807) (fun _ h9 => h9) (Or.inr ⟨rfl, hnm, rfl⟩) (by decide +kernel) rfl rfl rfl e_s_9 zd_M_init_18 rfl ?_
  refine zg_1 (pc' := 22) (fun _ _ _ _ _ hl w => lv_aload_n hx hb zd_M_init_21 rfl (lv_at hl 0 rfl) w) ?_
  refine zg_1 (pc' := 23) (fun _ _ _ _ _ hl w => lv_iconst (v := (4 : Int32)) hx hb zd_M_init_22 (by decide) w) ?_
  obtain ⟨h_13, hf⟩ := zx_ck hf
  obtain ⟨a_12, e_a_12, hf⟩ := zx_l hf
  obtain ⟨s_11, e_s_11, hf⟩ := zx_l hf
  refine zg_newl (pc' := 25) hx hb (htT _ zt_125) hK hR h_13 e_s_11 e_a_12 zd_M_init_23 rfl ?_
  obtain ⟨h_15, hf⟩ := zx_ck hf
  obtain ⟨s_14, e_s_14, hf⟩ := zx_l hf
  refine zg_putR (pc' := 28) (ci := 8) (ty := (.array .long)) hx hb htT zi_M zy_M zo_M zj_M hown hK h_15 rfl rfl 4 (by decide) (htT _ zt_809) (fun _ h9 => h9) (Or.inr ⟨rfl, hnm, rfl⟩) (by decide +kernel) rfl rfl rfl e_s_14 zd_M_init_25 rfl ?_
  refine zg_1 (pc' := 29) (fun _ _ _ _ _ hl w => lv_aload_n hx hb zd_M_init_28 rfl (lv_at hl 0 rfl) w) ?_
  refine zg_1 (pc' := 30) (fun _ _ _ _ _ hl w => lv_iconst (v := (4 : Int32)) hx hb zd_M_init_29 (by decide) w) ?_
  obtain ⟨h_18, hf⟩ := zx_ck hf
  obtain ⟨a_17, e_a_17, hf⟩ := zx_l hf
  obtain ⟨s_16, e_s_16, hf⟩ := zx_l hf
  refine zg_newl (pc' := 32) hx hb (htT _ zt_125) hK hR h_18 e_s_16 e_a_17 zd_M_init_30 rfl ?_
  obtain ⟨h_20, hf⟩ := zx_ck hf
  obtain ⟨s_19, e_s_19, hf⟩ := zx_l hf
  refine zg_putR (pc' := 35) (ci := 8) (ty := (.array .long)) hx hb htT zi_M zy_M zo_M zj_M hown hK h_20 rfl rfl 5 (by decide) (htT _ zt_810) (fun _ h9 => h9) (Or.inr ⟨rfl, hnm, rfl⟩) (by decide +kernel) rfl rfl rfl e_s_19 zd_M_init_32 rfl ?_
  refine zg_1 (pc' := 36) (fun _ _ _ _ _ hl w => lv_aload_n hx hb zd_M_init_35 rfl (lv_at hl 0 rfl) w) ?_
  refine zg_1 (pc' := 38) (fun _ _ _ _ _ hl w => lv_bipush (v := (6 : Int32)) hx hb zd_M_init_36 (by decide) w) ?_
  obtain ⟨h_23, hf⟩ := zx_ck hf
  obtain ⟨a_22, e_a_22, hf⟩ := zx_l hf
  obtain ⟨s_21, e_s_21, hf⟩ := zx_l hf
  refine zg_newl (pc' := 40) hx hb (htT _ zt_125) hK hR h_23 e_s_21 e_a_22 zd_M_init_38 rfl ?_
  refine zg_1 (pc' := 41) (fun _ _ _ _ _ hl w => lv_dup hx hb zd_M_init_40 rfl w) ?_
  refine zg_1 (pc' := 42) (fun _ _ _ _ _ hl w => lv_iconst (v := (0 : Int32)) hx hb zd_M_init_41 (by decide) w) ?_
  refine zg_1 (pc' := 45) (fun _ _ _ _ _ hl w => lv_ldc2 (v := (1200000049400000287 : Int64)) hx hb hown (htT _ zt_785) zd_M_init_42 w) ?_
  obtain ⟨h_25, hf⟩ := zx_ck hf
  obtain ⟨s_24, e_s_24, hf⟩ := zx_l hf
  refine zg_last (pc' := 46) hx hb hK h_25 e_s_24 zd_M_init_45 rfl ?_
  refine zg_1 (pc' := 47) (fun _ _ _ _ _ hl w => lv_dup hx hb zd_M_init_46 rfl w) ?_
  refine zg_1 (pc' := 48) (fun _ _ _ _ _ hl w => lv_iconst (v := (1 : Int32)) hx hb zd_M_init_47 (by decide) w) ?_
  refine zg_1 (pc' := 51) (fun _ _ _ _ _ hl w => lv_ldc2 (v := (1430000491000037023 : Int64)) hx hb hown (htT _ zt_786) zd_M_init_48 w) ?_
  obtain ⟨h_27, hf⟩ := zx_ck hf
  obtain ⟨s_26, e_s_26, hf⟩ := zx_l hf
  refine zg_last (pc' := 52) hx hb hK h_27 e_s_26 zd_M_init_51 rfl ?_
  refine zg_1 (pc' := 53) (fun _ _ _ _ _ hl w => lv_dup hx hb zd_M_init_52 rfl w) ?_
  refine zg_1 (pc' := 54) (fun _ _ _ _ _ hl w => lv_iconst (v := (2 : Int32)) hx hb zd_M_init_53 (by decide) w) ?_
  refine zg_1 (pc' := 57) (fun _ _ _ _ _ hl w => lv_ldc2 (v := (1536351190290809371 : Int64)) hx hb hown (htT _ zt_787) zd_M_init_54 w) ?_
  obtain ⟨h_29, hf⟩ := zx_ck hf
  obtain ⟨s_28, e_s_28, hf⟩ := zx_l hf
  refine zg_last (pc' := 58) hx hb hK h_29 e_s_28 zd_M_init_57 rfl ?_
  refine zg_1 (pc' := 59) (fun _ _ _ _ _ hl w => lv_dup hx hb zd_M_init_58 rfl w) ?_
  refine zg_1 (pc' := 60) (fun _ _ _ _ _ hl w => lv_iconst (v := (3 : Int32)) hx hb zd_M_init_59 (by decide) w) ?_
  refine zg_1 (pc' := 63) (fun _ _ _ _ _ hl w => lv_ldc2 (v := (1728395075795061493 : Int64)) hx hb hown (htT _ zt_788) zd_M_init_60 w) ?_
  obtain ⟨h_31, hf⟩ := zx_ck hf
  obtain ⟨s_30, e_s_30, hf⟩ := zx_l hf
  refine zg_last (pc' := 64) hx hb hK h_31 e_s_30 zd_M_init_63 rfl ?_
  refine zg_1 (pc' := 65) (fun _ _ _ _ _ hl w => lv_dup hx hb zd_M_init_64 rfl w) ?_
  refine zg_1 (pc' := 66) (fun _ _ _ _ _ hl w => lv_iconst (v := (4 : Int32)) hx hb zd_M_init_65 (by decide) w) ?_
  refine zg_1 (pc' := 69) (fun _ _ _ _ _ hl w => lv_ldc2 (v := (1697785988597898509 : Int64)) hx hb hown (htT _ zt_789) zd_M_init_66 w) ?_
  obtain ⟨h_33, hf⟩ := zx_ck hf
  obtain ⟨s_32, e_s_32, hf⟩ := zx_l hf
  refine zg_last (pc' := 70) hx hb hK h_33 e_s_32 zd_M_init_69 rfl ?_
  refine zg_1 (pc' := 71) (fun _ _ _ _ _ hl w => lv_dup hx hb zd_M_init_70 rfl w) ?_
  refine zg_1 (pc' := 72) (fun _ _ _ _ _ hl w => lv_iconst (v := (5 : Int32)) hx hb zd_M_init_71 (by decide) w) ?_
  refine zg_1 (pc' := 75) (fun _ _ _ _ _ hl w => lv_ldc2 (v := (1597490175708938519 : Int64)) hx hb hown (htT _ zt_790) zd_M_init_72 w) ?_
  obtain ⟨h_35, hf⟩ := zx_ck hf
  obtain ⟨s_34, e_s_34, hf⟩ := zx_l hf
  refine zg_last (pc' := 76) hx hb hK h_35 e_s_34 zd_M_init_75 rfl ?_
  obtain ⟨h_37, hf⟩ := zx_ck hf
  obtain ⟨s_36, e_s_36, hf⟩ := zx_l hf
  refine zg_putR (pc' := 79) (ci := 8) (ty := (.array .long)) hx hb htT zi_M zy_M zo_M zj_M hown hK h_37 rfl rfl 6 (by decide) (htT _ zt_811) (fun _ h9 => h9) (Or.inr ⟨rfl, hnm, rfl⟩) (by decide +kernel) rfl rfl rfl e_s_36 zd_M_init_76 rfl ?_
  refine zg_1 (pc' := 80) (fun _ _ _ _ _ hl w => lv_aload_n hx hb zd_M_init_79 rfl (lv_at hl 0 rfl) w) ?_
  refine zg_1 (pc' := 82) (fun _ _ _ _ _ hl w => lv_bipush (v := (6 : Int32)) hx hb zd_M_init_80 (by decide) w) ?_
  obtain ⟨h_40, hf⟩ := zx_ck hf
  obtain ⟨a_39, e_a_39, hf⟩ := zx_l hf
  obtain ⟨s_38, e_s_38, hf⟩ := zx_l hf
  refine zg_newl (pc' := 84) hx hb (htT _ zt_125) hK hR h_40 e_s_38 e_a_39 zd_M_init_82 rfl ?_
  refine zg_1 (pc' := 85) (fun _ _ _ _ _ hl w => lv_dup hx hb zd_M_init_84 rfl w) ?_
  refine zg_1 (pc' := 86) (fun _ _ _ _ _ hl w => lv_iconst (v := (0 : Int32)) hx hb zd_M_init_85 (by decide) w) ?_
  refine zg_1 (pc' := 89) (fun _ _ _ _ _ hl w => lv_ldc2 (v := (3 : Int64)) hx hb hown (htT _ zt_791) zd_M_init_86 w) ?_
  obtain ⟨h_42, hf⟩ := zx_ck hf
  obtain ⟨s_41, e_s_41, hf⟩ := zx_l hf
  refine zg_last (pc' := 90) hx hb hK h_42 e_s_41 zd_M_init_89 rfl ?_
  refine zg_1 (pc' := 91) (fun _ _ _ _ _ hl w => lv_dup hx hb zd_M_init_90 rfl w) ?_
  refine zg_1 (pc' := 92) (fun _ _ _ _ _ hl w => lv_iconst (v := (1 : Int32)) hx hb zd_M_init_91 (by decide) w) ?_
  refine zg_1 (pc' := 95) (fun _ _ _ _ _ hl w => lv_ldc2 (v := (17 : Int64)) hx hb hown (htT _ zt_792) zd_M_init_92 w) ?_
  obtain ⟨h_44, hf⟩ := zx_ck hf
  obtain ⟨s_43, e_s_43, hf⟩ := zx_l hf
  refine zg_last (pc' := 96) hx hb hK h_44 e_s_43 zd_M_init_95 rfl ?_
  refine zg_1 (pc' := 97) (fun _ _ _ _ _ hl w => lv_dup hx hb zd_M_init_96 rfl w) ?_
  refine zg_1 (pc' := 98) (fun _ _ _ _ _ hl w => lv_iconst (v := (2 : Int32)) hx hb zd_M_init_97 (by decide) w) ?_
  refine zg_1 (pc' := 101) (fun _ _ _ _ _ hl w => lv_ldc2 (v := (257 : Int64)) hx hb hown (htT _ zt_793) zd_M_init_98 w) ?_
  obtain ⟨h_46, hf⟩ := zx_ck hf
  obtain ⟨s_45, e_s_45, hf⟩ := zx_l hf
  refine zg_last (pc' := 102) hx hb hK h_46 e_s_45 zd_M_init_101 rfl ?_
  refine zg_1 (pc' := 103) (fun _ _ _ _ _ hl w => lv_dup hx hb zd_M_init_102 rfl w) ?_
  refine zg_1 (pc' := 104) (fun _ _ _ _ _ hl w => lv_iconst (v := (3 : Int32)) hx hb zd_M_init_103 (by decide) w) ?_
  refine zg_1 (pc' := 107) (fun _ _ _ _ _ hl w => lv_ldc2 (v := (65537 : Int64)) hx hb hown (htT _ zt_794) zd_M_init_104 w) ?_
  obtain ⟨h_48, hf⟩ := zx_ck hf
  obtain ⟨s_47, e_s_47, hf⟩ := zx_l hf
  refine zg_last (pc' := 108) hx hb hK h_48 e_s_47 zd_M_init_107 rfl ?_
  refine zg_1 (pc' := 109) (fun _ _ _ _ _ hl w => lv_dup hx hb zd_M_init_108 rfl w) ?_
  refine zg_1 (pc' := 110) (fun _ _ _ _ _ hl w => lv_iconst (v := (4 : Int32)) hx hb zd_M_init_109 (by decide) w) ?_
  refine zg_1 (pc' := 113) (fun _ _ _ _ _ hl w => lv_ldc2 (v := (5 : Int64)) hx hb hown (htT _ zt_795) zd_M_init_110 w) ?_
  obtain ⟨h_50, hf⟩ := zx_ck hf
  obtain ⟨s_49, e_s_49, hf⟩ := zx_l hf
  refine zg_last (pc' := 114) hx hb hK h_50 e_s_49 zd_M_init_113 rfl ?_
  refine zg_1 (pc' := 115) (fun _ _ _ _ _ hl w => lv_dup hx hb zd_M_init_114 rfl w) ?_
  refine zg_1 (pc' := 116) (fun _ _ _ _ _ hl w => lv_iconst (v := (5 : Int32)) hx hb zd_M_init_115 (by decide) w) ?_
  refine zg_1 (pc' := 119) (fun _ _ _ _ _ hl w => lv_ldc2 (v := (11 : Int64)) hx hb hown (htT _ zt_796) zd_M_init_116 w) ?_
  obtain ⟨h_52, hf⟩ := zx_ck hf
  obtain ⟨s_51, e_s_51, hf⟩ := zx_l hf
  refine zg_last (pc' := 120) hx hb hK h_52 e_s_51 zd_M_init_119 rfl ?_
  obtain ⟨h_54, hf⟩ := zx_ck hf
  obtain ⟨s_53, e_s_53, hf⟩ := zx_l hf
  refine zg_putR (pc' := 123) (ci := 8) (ty := (.array .long)) hx hb htT zi_M zy_M zo_M zj_M hown hK h_54 rfl rfl 7 (by decide) (htT _ zt_812) (fun _ h9 => h9) (Or.inr ⟨rfl, hnm, rfl⟩) (by decide +kernel) rfl rfl rfl e_s_53 zd_M_init_120 rfl ?_
  refine zg_1 (pc' := 124) (fun _ _ _ _ _ hl w => lv_aload_n hx hb zd_M_init_123 rfl (lv_at hl 0 rfl) w) ?_
  refine zg_1 (pc' := 126) (fun _ _ _ _ _ hl w => lv_bipush (v := (6 : Int32)) hx hb zd_M_init_124 (by decide) w) ?_
  obtain ⟨h_57, hf⟩ := zx_ck hf
  obtain ⟨a_56, e_a_56, hf⟩ := zx_l hf
  obtain ⟨s_55, e_s_55, hf⟩ := zx_l hf
  refine zg_newl (pc' := 128) hx hb (htT _ zt_125) hK hR h_57 e_s_55 e_a_56 zd_M_init_126 rfl ?_
  refine zg_1 (pc' := 129) (fun _ _ _ _ _ hl w => lv_dup hx hb zd_M_init_128 rfl w) ?_
  refine zg_1 (pc' := 130) (fun _ _ _ _ _ hl w => lv_iconst (v := (0 : Int32)) hx hb zd_M_init_129 (by decide) w) ?_
  refine zg_1 (pc' := 133) (fun _ _ _ _ _ hl w => lv_ldc2 (v := (800000031466666827 : Int64)) hx hb hown (htT _ zt_797) zd_M_init_130 w) ?_
  obtain ⟨h_59, hf⟩ := zx_ck hf
  obtain ⟨s_58, e_s_58, hf⟩ := zx_l hf
  refine zg_last (pc' := 134) hx hb hK h_59 e_s_58 zd_M_init_133 rfl ?_
  refine zg_1 (pc' := 135) (fun _ _ _ _ _ hl w => lv_dup hx hb zd_M_init_134 rfl w) ?_
  refine zg_1 (pc' := 136) (fun _ _ _ _ _ hl w => lv_iconst (v := (1 : Int32)) hx hb zd_M_init_135 (by decide) w) ?_
  refine zg_1 (pc' := 139) (fun _ _ _ _ _ hl w => lv_ldc2 (v := (84117675800002153 : Int64)) hx hb hown (htT _ zt_798) zd_M_init_136 w) ?_
  obtain ⟨h_61, hf⟩ := zx_ck hf
  obtain ⟨s_60, e_s_60, hf⟩ := zx_l hf
  refine zg_last (pc' := 140) hx hb hK h_61 e_s_60 zd_M_init_139 rfl ?_
  refine zg_1 (pc' := 141) (fun _ _ _ _ _ hl w => lv_dup hx hb zd_M_init_140 rfl w) ?_
  refine zg_1 (pc' := 142) (fun _ _ _ _ _ hl w => lv_iconst (v := (2 : Int32)) hx hb zd_M_init_141 (by decide) w) ?_
  refine zg_1 (pc' := 145) (fun _ _ _ _ _ hl w => lv_ldc2 (v := (579867958021467505 : Int64)) hx hb hown (htT _ zt_799) zd_M_init_142 w) ?_
  obtain ⟨h_63, hf⟩ := zx_ck hf
  obtain ⟨s_62, e_s_62, hf⟩ := zx_l hf
  refine zg_last (pc' := 146) hx hb hK h_63 e_s_62 zd_M_init_145 rfl ?_
  refine zg_1 (pc' := 147) (fun _ _ _ _ _ hl w => lv_dup hx hb zd_M_init_146 rfl w) ?_
  refine zg_1 (pc' := 148) (fun _ _ _ _ _ hl w => lv_iconst (v := (3 : Int32)) hx hb zd_M_init_147 (by decide) w) ?_
  refine zg_1 (pc' := 151) (fun _ _ _ _ _ hl w => lv_ldc2 (v := (1604812069470515813 : Int64)) hx hb hown (htT _ zt_800) zd_M_init_148 w) ?_
  obtain ⟨h_65, hf⟩ := zx_ck hf
  obtain ⟨s_64, e_s_64, hf⟩ := zx_l hf
  refine zg_last (pc' := 152) hx hb hK h_65 e_s_64 zd_M_init_151 rfl ?_
  refine zg_1 (pc' := 153) (fun _ _ _ _ _ hl w => lv_dup hx hb zd_M_init_152 rfl w) ?_
  refine zg_1 (pc' := 154) (fun _ _ _ _ _ hl w => lv_iconst (v := (4 : Int32)) hx hb zd_M_init_153 (by decide) w) ?_
  refine zg_1 (pc' := 157) (fun _ _ _ _ _ hl w => lv_ldc2 (v := (339557197186246361 : Int64)) hx hb hown (htT _ zt_801) zd_M_init_154 w) ?_
  obtain ⟨h_67, hf⟩ := zx_ck hf
  obtain ⟨s_66, e_s_66, hf⟩ := zx_l hf
  refine zg_last (pc' := 158) hx hb hK h_67 e_s_66 zd_M_init_157 rfl ?_
  refine zg_1 (pc' := 159) (fun _ _ _ _ _ hl w => lv_dup hx hb zd_M_init_158 rfl w) ?_
  refine zg_1 (pc' := 160) (fun _ _ _ _ _ hl w => lv_iconst (v := (5 : Int32)) hx hb zd_M_init_159 (by decide) w) ?_
  refine zg_1 (pc' := 163) (fun _ _ _ _ _ hl w => lv_ldc2 (v := (1161811034953791779 : Int64)) hx hb hown (htT _ zt_802) zd_M_init_160 w) ?_
  obtain ⟨h_69, hf⟩ := zx_ck hf
  obtain ⟨s_68, e_s_68, hf⟩ := zx_l hf
  refine zg_last (pc' := 164) hx hb hK h_69 e_s_68 zd_M_init_163 rfl ?_
  obtain ⟨h_71, hf⟩ := zx_ck hf
  obtain ⟨s_70, e_s_70, hf⟩ := zx_l hf
  refine zg_putR (pc' := 167) (ci := 8) (ty := (.array .long)) hx hb htT zi_M zy_M zo_M zj_M hown hK h_71 rfl rfl 8 (by decide) (htT _ zt_813) (fun _ h9 => h9) (Or.inr ⟨rfl, hnm, rfl⟩) (by decide +kernel) rfl rfl rfl e_s_70 zd_M_init_164 rfl ?_
  refine zg_1 (pc' := 168) (fun _ _ _ _ _ hl w => lv_aload_n hx hb zd_M_init_167 rfl (lv_at hl 0 rfl) w) ?_
  refine zg_1 (pc' := 170) (fun _ _ _ _ _ hl w => lv_bipush (v := (15 : Int32)) hx hb zd_M_init_168 (by decide) w) ?_
  obtain ⟨h_74, hf⟩ := zx_ck hf
  obtain ⟨a_73, e_a_73, hf⟩ := zx_l hf
  obtain ⟨s_72, e_s_72, hf⟩ := zx_l hf
  refine zg_newl (pc' := 172) hx hb (htT _ zt_125) hK hR h_74 e_s_72 e_a_73 zd_M_init_170 rfl ?_
  obtain ⟨h_76, hf⟩ := zx_ck hf
  obtain ⟨s_75, e_s_75, hf⟩ := zx_l hf
  refine zg_putR (pc' := 175) (ci := 8) (ty := (.array .long)) hx hb htT zi_M zy_M zo_M zj_M hown hK h_76 rfl rfl 11 (by decide) (htT _ zt_816) (fun _ h9 => h9) (Or.inr ⟨rfl, hnm, rfl⟩) (by decide +kernel) rfl rfl rfl e_s_75 zd_M_init_172 rfl ?_
  refine zg_1 (pc' := 176) (fun _ _ _ _ _ hl w => lv_aload_n hx hb zd_M_init_175 rfl (lv_at hl 0 rfl) w) ?_
  refine zg_1 (pc' := 177) (fun _ _ _ _ _ hl w => lv_iconst (v := (4 : Int32)) hx hb zd_M_init_176 (by decide) w) ?_
  obtain ⟨h_79, hf⟩ := zx_ck hf
  obtain ⟨a_78, e_a_78, hf⟩ := zx_l hf
  obtain ⟨s_77, e_s_77, hf⟩ := zx_l hf
  refine zg_newl (pc' := 179) hx hb (htT _ zt_125) hK hR h_79 e_s_77 e_a_78 zd_M_init_177 rfl ?_
  obtain ⟨h_81, hf⟩ := zx_ck hf
  obtain ⟨s_80, e_s_80, hf⟩ := zx_l hf
  refine zg_putR (pc' := 182) (ci := 8) (ty := (.array .long)) hx hb htT zi_M zy_M zo_M zj_M hown hK h_81 rfl rfl 13 (by decide) (htT _ zt_818) (fun _ h9 => h9) (Or.inr ⟨rfl, hnm, rfl⟩) (by decide +kernel) rfl rfl rfl e_s_80 zd_M_init_179 rfl ?_
  refine zg_1 (pc' := 183) (fun _ _ _ _ _ hl w => lv_aload_n hx hb zd_M_init_182 rfl (lv_at hl 0 rfl) w) ?_
  refine zg_1 (pc' := 184) (fun _ _ _ _ _ hl w => lv_iconst (v := (4 : Int32)) hx hb zd_M_init_183 (by decide) w) ?_
  obtain ⟨h_84, hf⟩ := zx_ck hf
  obtain ⟨a_83, e_a_83, hf⟩ := zx_l hf
  obtain ⟨s_82, e_s_82, hf⟩ := zx_l hf
  refine zg_newl (pc' := 186) hx hb (htT _ zt_125) hK hR h_84 e_s_82 e_a_83 zd_M_init_184 rfl ?_
  obtain ⟨h_86, hf⟩ := zx_ck hf
  obtain ⟨s_85, e_s_85, hf⟩ := zx_l hf
  refine zg_putR (pc' := 189) (ci := 8) (ty := (.array .long)) hx hb htT zi_M zy_M zo_M zj_M hown hK h_86 rfl rfl 14 (by decide) (htT _ zt_819) (fun _ h9 => h9) (Or.inr ⟨rfl, hnm, rfl⟩) (by decide +kernel) rfl rfl rfl e_s_85 zd_M_init_186 rfl ?_
  refine zg_1 (pc' := 190) (fun _ _ _ _ _ hl w => lv_aload_n hx hb zd_M_init_189 rfl (lv_at hl 0 rfl) w) ?_
  refine zg_1 (pc' := 193) (fun _ _ _ _ _ hl w => lv_sipush (v := (180 : Int32)) hx hb zd_M_init_190 (by decide) w) ?_
  obtain ⟨h_89, hf⟩ := zx_ck hf
  obtain ⟨a_88, e_a_88, hf⟩ := zx_l hf
  obtain ⟨s_87, e_s_87, hf⟩ := zx_l hf
  refine zg_newl (pc' := 195) hx hb (htT _ zt_125) hK hR h_89 e_s_87 e_a_88 zd_M_init_193 rfl ?_
  obtain ⟨h_91, hf⟩ := zx_ck hf
  obtain ⟨s_90, e_s_90, hf⟩ := zx_l hf
  refine zg_putR (pc' := 198) (ci := 8) (ty := (.array .long)) hx hb htT zi_M zy_M zo_M zj_M hown hK h_91 rfl rfl 16 (by decide) (htT _ zt_821) (fun _ h9 => h9) (Or.inr ⟨rfl, hnm, rfl⟩) (by decide +kernel) rfl rfl rfl e_s_90 zd_M_init_195 rfl ?_
  refine zg_1 (pc' := 199) (fun _ _ _ _ _ hl w => lv_aload_n hx hb zd_M_init_198 rfl (lv_at hl 0 rfl) w) ?_
  refine zg_1 (pc' := 201) (fun _ _ _ _ _ hl w => lv_bipush (v := (36 : Int32)) hx hb zd_M_init_199 (by decide) w) ?_
  obtain ⟨h_94, hf⟩ := zx_ck hf
  obtain ⟨a_93, e_a_93, hf⟩ := zx_l hf
  obtain ⟨s_92, e_s_92, hf⟩ := zx_l hf
  refine zg_newl (pc' := 203) hx hb (htT _ zt_125) hK hR h_94 e_s_92 e_a_93 zd_M_init_201 rfl ?_
  obtain ⟨h_96, hf⟩ := zx_ck hf
  obtain ⟨s_95, e_s_95, hf⟩ := zx_l hf
  refine zg_putR (pc' := 206) (ci := 8) (ty := (.array .long)) hx hb htT zi_M zy_M zo_M zj_M hown hK h_96 rfl rfl 18 (by decide) (htT _ zt_823) (fun _ h9 => h9) (Or.inr ⟨rfl, hnm, rfl⟩) (by decide +kernel) rfl rfl rfl e_s_95 zd_M_init_203 rfl ?_
  refine zg_1 (pc' := 207) (fun _ _ _ _ _ hl w => lv_aload_n hx hb zd_M_init_206 rfl (lv_at hl 0 rfl) w) ?_
  refine zg_1 (pc' := 209) (fun _ _ _ _ _ hl w => lv_bipush (v := (24 : Int32)) hx hb zd_M_init_207 (by decide) w) ?_
  obtain ⟨h_99, hf⟩ := zx_ck hf
  obtain ⟨a_98, e_a_98, hf⟩ := zx_l hf
  obtain ⟨s_97, e_s_97, hf⟩ := zx_l hf
  refine zg_newl (pc' := 211) hx hb (htT _ zt_125) hK hR h_99 e_s_97 e_a_98 zd_M_init_209 rfl ?_
  obtain ⟨h_101, hf⟩ := zx_ck hf
  obtain ⟨s_100, e_s_100, hf⟩ := zx_l hf
  refine zg_putR (pc' := 214) (ci := 8) (ty := (.array .long)) hx hb htT zi_M zy_M zo_M zj_M hown hK h_101 rfl rfl 19 (by decide) (htT _ zt_824) (fun _ h9 => h9) (Or.inr ⟨rfl, hnm, rfl⟩) (by decide +kernel) rfl rfl rfl e_s_100 zd_M_init_211 rfl ?_
  refine zg_1 (pc' := 215) (fun _ _ _ _ _ hl w => lv_aload_n hx hb zd_M_init_214 rfl (lv_at hl 0 rfl) w) ?_
  refine zg_1 (pc' := 217) (fun _ _ _ _ _ hl w => lv_bipush (v := (24 : Int32)) hx hb zd_M_init_215 (by decide) w) ?_
  obtain ⟨h_104, hf⟩ := zx_ck hf
  obtain ⟨a_103, e_a_103, hf⟩ := zx_l hf
  obtain ⟨s_102, e_s_102, hf⟩ := zx_l hf
  refine zg_newl (pc' := 219) hx hb (htT _ zt_125) hK hR h_104 e_s_102 e_a_103 zd_M_init_217 rfl ?_
  obtain ⟨h_106, hf⟩ := zx_ck hf
  obtain ⟨s_105, e_s_105, hf⟩ := zx_l hf
  refine zg_putR (pc' := 222) (ci := 8) (ty := (.array .long)) hx hb htT zi_M zy_M zo_M zj_M hown hK h_106 rfl rfl 20 (by decide) (htT _ zt_825) (fun _ h9 => h9) (Or.inr ⟨rfl, hnm, rfl⟩) (by decide +kernel) rfl rfl rfl e_s_105 zd_M_init_219 rfl ?_
  refine zg_1 (pc' := 223) (fun _ _ _ _ _ hl w => lv_aload_n hx hb zd_M_init_222 rfl (lv_at hl 0 rfl) w) ?_
  refine zg_1 (pc' := 224) (fun _ _ _ _ _ hl w => lv_iconst (v := (5 : Int32)) hx hb zd_M_init_223 (by decide) w) ?_
  obtain ⟨h_109, hf⟩ := zx_ck hf
  obtain ⟨a_108, e_a_108, hf⟩ := zx_l hf
  obtain ⟨s_107, e_s_107, hf⟩ := zx_l hf
  refine zg_newi (pc' := 226) hx hb (htT _ zt_103) hK hR h_109 e_s_107 e_a_108 zd_M_init_224 rfl ?_
  obtain ⟨h_111, hf⟩ := zx_ck hf
  obtain ⟨s_110, e_s_110, hf⟩ := zx_l hf
  refine zg_putR (pc' := 229) (ci := 8) (ty := (.array .int)) hx hb htT zi_M zy_M zo_M zj_M hown hK h_111 rfl rfl 21 (by decide) (htT _ zt_826) (fun _ h9 => h9) (Or.inr ⟨rfl, hnm, rfl⟩) (by decide +kernel) rfl rfl rfl e_s_110 zd_M_init_226 rfl ?_
  refine zg_1 (pc' := 230) (fun _ _ _ _ _ hl w => lv_aload_n hx hb zd_M_init_229 rfl (lv_at hl 0 rfl) w) ?_
  refine zg_1 (pc' := 231) (fun _ _ _ _ _ hl w => lv_iconst (v := (5 : Int32)) hx hb zd_M_init_230 (by decide) w) ?_
  obtain ⟨h_114, hf⟩ := zx_ck hf
  obtain ⟨a_113, e_a_113, hf⟩ := zx_l hf
  obtain ⟨s_112, e_s_112, hf⟩ := zx_l hf
  refine zg_newi (pc' := 233) hx hb (htT _ zt_103) hK hR h_114 e_s_112 e_a_113 zd_M_init_231 rfl ?_
  obtain ⟨h_116, hf⟩ := zx_ck hf
  obtain ⟨s_115, e_s_115, hf⟩ := zx_l hf
  refine zg_putR (pc' := 236) (ci := 8) (ty := (.array .int)) hx hb htT zi_M zy_M zo_M zj_M hown hK h_116 rfl rfl 22 (by decide) (htT _ zt_827) (fun _ h9 => h9) (Or.inr ⟨rfl, hnm, rfl⟩) (by decide +kernel) rfl rfl rfl e_s_115 zd_M_init_233 rfl ?_
  refine zg_1 (pc' := 237) (fun _ _ _ _ _ hl w => lv_aload_n hx hb zd_M_init_236 rfl (lv_at hl 0 rfl) w) ?_
  refine zg_1 (pc' := 238) (fun _ _ _ _ _ hl w => lv_iconst (v := (5 : Int32)) hx hb zd_M_init_237 (by decide) w) ?_
  obtain ⟨h_119, hf⟩ := zx_ck hf
  obtain ⟨a_118, e_a_118, hf⟩ := zx_l hf
  obtain ⟨s_117, e_s_117, hf⟩ := zx_l hf
  refine zg_newi (pc' := 240) hx hb (htT _ zt_103) hK hR h_119 e_s_117 e_a_118 zd_M_init_238 rfl ?_
  obtain ⟨h_121, hf⟩ := zx_ck hf
  obtain ⟨s_120, e_s_120, hf⟩ := zx_l hf
  refine zg_putR (pc' := 243) (ci := 8) (ty := (.array .int)) hx hb htT zi_M zy_M zo_M zj_M hown hK h_121 rfl rfl 23 (by decide) (htT _ zt_828) (fun _ h9 => h9) (Or.inr ⟨rfl, hnm, rfl⟩) (by decide +kernel) rfl rfl rfl e_s_120 zd_M_init_240 rfl ?_
  refine zg_1 (pc' := 244) (fun _ _ _ _ _ hl w => lv_aload_n hx hb zd_M_init_243 rfl (lv_at hl 0 rfl) w) ?_
  obtain ⟨a_122, h_123, hf⟩ := zx_p hf
  refine zg_get (pc' := 247) (ci := 8) hx hb htT zi_M hown hK (zx_oR e_s_120 h_121) rfl rfl 2 (by decide) (htT _ zt_807) (fun _ h9 => h9) (zx_hv h_123) zd_M_init_244 rfl ?_
  refine zg_1 (pc' := 248) (fun _ _ _ _ _ hl w => lv_iconst (v := (0 : Int32)) hx hb zd_M_init_247 (by decide) w) ?_
  refine zg_1 (pc' := 249) (fun _ _ _ _ _ hl w => lv_lconst (v := (1 : Int64)) hx hb zd_M_init_248 (by decide) w) ?_
  obtain ⟨h_125, hf⟩ := zx_ck hf
  obtain ⟨s_124, e_s_124, hf⟩ := zx_l hf
  refine zg_last (pc' := 250) hx hb hK h_125 e_s_124 zd_M_init_249 rfl ?_
  refine zg_1 (pc' := 251) (fun _ _ _ _ _ hl w => lv_aload_n hx hb zd_M_init_250 rfl (lv_at hl 0 rfl) w) ?_
  obtain ⟨h_126, hf⟩ := zx_ck hf
  obtain ⟨a_127, h_128, hf⟩ := zx_p hf
  refine zg_get (pc' := 254) (ci := 8) hx hb htT zi_M hown hK h_126 rfl rfl 2 (by decide) (htT _ zt_807) (fun _ h9 => h9) (zx_hv h_128) zd_M_init_251 rfl ?_
  refine zg_1 (pc' := 255) (fun _ _ _ _ _ hl w => lv_iconst (v := (1 : Int32)) hx hb zd_M_init_254 (by decide) w) ?_
  refine zg_1 (pc' := 256) (fun _ _ _ _ _ hl w => lv_lconst (v := (1 : Int64)) hx hb zd_M_init_255 (by decide) w) ?_
  obtain ⟨h_130, hf⟩ := zx_ck hf
  obtain ⟨s_129, e_s_129, hf⟩ := zx_l hf
  refine zg_last (pc' := 257) hx hb hK h_130 e_s_129 zd_M_init_256 rfl ?_
  refine zg_1 (pc' := 258) (fun _ _ _ _ _ hl w => lv_aload_n hx hb zd_M_init_257 rfl (lv_at hl 0 rfl) w) ?_
  obtain ⟨h_131, hf⟩ := zx_ck hf
  obtain ⟨a_132, h_133, hf⟩ := zx_p hf
  refine zg_get (pc' := 261) (ci := 8) hx hb htT zi_M hown hK h_131 rfl rfl 2 (by decide) (htT _ zt_807) (fun _ h9 => h9) (zx_hv h_133) zd_M_init_258 rfl ?_
  refine zg_1 (pc' := 262) (fun _ _ _ _ _ hl w => lv_iconst (v := (3 : Int32)) hx hb zd_M_init_261 (by decide) w) ?_
  refine zg_1 (pc' := 265) (fun _ _ _ _ _ hl w => lv_ldc2 (v := (1000 : Int64)) hx hb hown (htT _ zt_803) zd_M_init_262 w) ?_
  obtain ⟨h_135, hf⟩ := zx_ck hf
  obtain ⟨s_134, e_s_134, hf⟩ := zx_l hf
  refine zg_last (pc' := 266) hx hb hK h_135 e_s_134 zd_M_init_265 rfl ?_
  refine zg_1 (pc' := 267) (fun _ _ _ _ _ hl w => lv_aload_n hx hb zd_M_init_266 rfl (lv_at hl 0 rfl) w) ?_
  obtain ⟨h_136, hf⟩ := zx_ck hf
  obtain ⟨a_137, h_138, hf⟩ := zx_p hf
  refine zg_get (pc' := 270) (ci := 8) hx hb htT zi_M hown hK h_136 rfl rfl 2 (by decide) (htT _ zt_807) (fun _ h9 => h9) (zx_hv h_138) zd_M_init_267 rfl ?_
  refine zg_1 (pc' := 271) (fun _ _ _ _ _ hl w => lv_iconst (v := (4 : Int32)) hx hb zd_M_init_270 (by decide) w) ?_
  refine zg_1 (pc' := 272) (fun _ _ _ _ _ hl w => lv_lconst (v := (1 : Int64)) hx hb zd_M_init_271 (by decide) w) ?_
  obtain ⟨h_140, hf⟩ := zx_ck hf
  obtain ⟨s_139, e_s_139, hf⟩ := zx_l hf
  refine zg_last (pc' := 273) hx hb hK h_140 e_s_139 zd_M_init_272 rfl ?_
  refine zg_1 (pc' := 274) (fun _ _ _ _ _ hl w => lv_aload_n hx hb zd_M_init_273 rfl (lv_at hl 0 rfl) w) ?_
  obtain ⟨h_141, hf⟩ := zx_ck hf
  obtain ⟨a_142, h_143, hf⟩ := zx_p hf
  refine zg_get (pc' := 277) (ci := 8) hx hb htT zi_M hown hK h_141 rfl rfl 2 (by decide) (htT _ zt_807) (fun _ h9 => h9) (zx_hv h_143) zd_M_init_274 rfl ?_
  refine zg_1 (pc' := 279) (fun _ _ _ _ _ hl w => lv_bipush (v := (6 : Int32)) hx hb zd_M_init_277 (by decide) w) ?_
  refine zg_1 (pc' := 282) (fun _ _ _ _ _ hl w => lv_ldc2 (v := (-1 : Int64)) hx hb hown (htT _ zt_804) zd_M_init_279 w) ?_
  obtain ⟨h_145, hf⟩ := zx_ck hf
  obtain ⟨s_144, e_s_144, hf⟩ := zx_l hf
  refine zg_last (pc' := 283) hx hb hK h_145 e_s_144 zd_M_init_282 rfl ?_
  refine zg_1 (pc' := 284) (fun _ _ _ _ _ hl w => lv_aload_n hx hb zd_M_init_283 rfl (lv_at hl 0 rfl) w) ?_
  obtain ⟨h_146, hf⟩ := zx_ck hf
  obtain ⟨a_147, h_148, hf⟩ := zx_p hf
  refine zg_get (pc' := 287) (ci := 8) hx hb htT zi_M hown hK h_146 rfl rfl 2 (by decide) (htT _ zt_807) (fun _ h9 => h9) (zx_hv h_148) zd_M_init_284 rfl ?_
  refine zg_1 (pc' := 289) (fun _ _ _ _ _ hl w => lv_bipush (v := (7 : Int32)) hx hb zd_M_init_287 (by decide) w) ?_
  refine zg_1 (pc' := 292) (fun _ _ _ _ _ hl w => lv_ldc2 (v := (-1 : Int64)) hx hb hown (htT _ zt_804) zd_M_init_289 w) ?_
  obtain ⟨h_150, hf⟩ := zx_ck hf
  obtain ⟨s_149, e_s_149, hf⟩ := zx_l hf
  refine zg_last (pc' := 293) hx hb hK h_150 e_s_149 zd_M_init_292 rfl ?_
  refine zg_1 (pc' := 294) (fun _ _ _ _ _ hl w => lv_aload_n hx hb zd_M_init_293 rfl (lv_at hl 0 rfl) w) ?_
  obtain ⟨h_151, hf⟩ := zx_ck hf
  obtain ⟨a_152, h_153, hf⟩ := zx_p hf
  refine zg_get (pc' := 297) (ci := 8) hx hb htT zi_M hown hK h_151 rfl rfl 2 (by decide) (htT _ zt_807) (fun _ h9 => h9) (zx_hv h_153) zd_M_init_294 rfl ?_
  refine zg_1 (pc' := 299) (fun _ _ _ _ _ hl w => lv_bipush (v := (8 : Int32)) hx hb zd_M_init_297 (by decide) w) ?_
  refine zg_1 (pc' := 302) (fun _ _ _ _ _ hl w => lv_ldc2 (v := (-1 : Int64)) hx hb hown (htT _ zt_804) zd_M_init_299 w) ?_
  obtain ⟨h_155, hf⟩ := zx_ck hf
  obtain ⟨s_154, e_s_154, hf⟩ := zx_l hf
  refine zg_last (pc' := 303) hx hb hK h_155 e_s_154 zd_M_init_302 rfl ?_
  obtain rfl := zx_r1 hf
  exact hret _ _ zd_M_init_303
set_option maxHeartbeats 4000000 in
theorem zc_Numbers_lift (l : Launch) (h0 : Nat) (D : va_G) (dA : Nat → ClassId) (tb : Nat → Nat) (n : Nat) {s0 : zh_S} {j0 : Int64} {j2 : Int64} {r : Int64} (hf : zf_Numbers_lift n j0 j2 = some r) : zc_M l zn_Numbers_lift zs_Numbers_lift 0 0 h0 D dA tb [.long j0, .long j2] s0 (some (.long r)) s0 := by
  rw [zf_Numbers_lift] at hf
  refine zc_of (cc := ze_Numbers_lift) (maxL := 6) (ret := (some .long)) (lv := [(0, .long j0), (2, .long j2)]) (by decide) rfl (Nat.le_of_ble_eq_true rfl) rfl ?_
  intro p e s m args below meth c X hnm
  obtain ⟨hx, hb, hml, hown, htT, hrt, hlk, x00, hIn⟩ := id X
  have hK := hIn.2.1
  have hT := hIn.2.2.1
  have hNe := hIn.2.2.2
  have hR : zg_R { frames := 0, cells := zh_N s0 - zh_N s0, slots := zh_M s0 - zh_M s0, locals := 0 } (zh_N s0) (zh_M s0) s0 := ⟨by show zh_N s0 ≤ zh_N s0 + (zh_N s0 - zh_N s0); omega, by show zh_M s0 ≤ zh_M s0 + (zh_M s0 - zh_M s0); omega⟩
  have hF : 0 ≤ ({ frames := 0, cells := zh_N s0 - zh_N s0, slots := zh_M s0 - zh_M s0, locals := 0 } : Room).frames ∧ 0 ≤ ({ frames := 0, cells := zh_N s0 - zh_N s0, slots := zh_M s0 - zh_M s0, locals := 0 } : Room).locals := ⟨Nat.le_refl _, Nat.le_refl _⟩
  have hret := fun (pc : Nat) (lv : List (Nat × Value)) (hd : decode ze_Numbers_lift pc = .ok (.lreturn, 1)) => zg_lret (R := { frames := 0, cells := zh_N s0 - zh_N s0, slots := zh_M s0 - zh_M s0, locals := 0 }) (l := l) (e := e) (below := below) (c0 := zh_N s0) (s0 := zh_M s0) (z := s0) (lv := lv) (v := r) X hd
  refine zg_1 (pc' := 1) (fun _ _ _ _ _ hl w => lv_lload_n hx hb zd_Numbers_lift_0 rfl (lv_at hl 0 rfl) w) ?_
  refine zg_1 (pc' := 2) (fun _ _ _ _ _ hl w => lv_lload_n hx hb zd_Numbers_lift_1 rfl (lv_at hl 1 rfl) w) ?_
  refine zg_1 (pc' := 4) (fun _ _ _ _ _ hl w => lv_bipush (v := (31 : Int32)) hx hb zd_Numbers_lift_2 (by decide) w) ?_
  refine zg_1 (pc' := 5) (fun _ _ _ _ _ hl w => lv_lshr (v := (j2 >>> ((31 : Int32).toInt64 &&& 63))) hx hb zd_Numbers_lift_4 rfl w) ?_
  refine zg_1 (pc' := 6) (fun _ _ _ _ _ hl w => lv_lconst (v := (1 : Int64)) hx hb zd_Numbers_lift_5 (by decide) w) ?_
  refine zg_1 (pc' := 7) (fun _ _ _ _ _ hl w => lv_ladd hx hb zd_Numbers_lift_6 w) ?_
  obtain ⟨h_1, hf⟩ := zx_ck hf
  refine zg_1 (pc' := 8) (fun _ _ _ _ _ hl w => lv_ldiv hx hb zd_Numbers_lift_7 h_1 w) ?_
  obtain ⟨j_2, e_j_2, hf⟩ := zx_l hf
  refine zg_tl e_j_2 ?_
  refine zg_s (pc' := 10) (lv' := [(4, .long j_2), (0, .long j0), (2, .long j2)]) (fun _ _ _ _ _ hl w => lv_lstore hx hb zd_Numbers_lift_8 hl (by decide) rfl w) ?_
  refine zg_1 (pc' := 11) (fun _ _ _ _ _ hl w => lv_lload_n hx hb zd_Numbers_lift_10 rfl (lv_at hl 1 rfl) w) ?_
  refine zg_1 (pc' := 13) (fun _ _ _ _ _ hl w => lv_bipush (v := (31 : Int32)) hx hb zd_Numbers_lift_11 (by decide) w) ?_
  refine zg_1 (pc' := 14) (fun _ _ _ _ _ hl w => lv_lshl (v := (j0 <<< ((31 : Int32).toInt64 &&& 63))) hx hb zd_Numbers_lift_13 rfl w) ?_
  refine zg_1 (pc' := 16) (fun _ _ _ _ _ hl w => lv_lload hx hb zd_Numbers_lift_14 (lv_at hl 0 rfl) w) ?_
  refine zg_1 (pc' := 17) (fun _ _ _ _ _ hl w => lv_lload_n hx hb zd_Numbers_lift_16 rfl (lv_at hl 2 rfl) w) ?_
  refine zg_1 (pc' := 18) (fun _ _ _ _ _ hl w => lv_lmul hx hb zd_Numbers_lift_17 w) ?_
  refine zg_1 (pc' := 19) (fun _ _ _ _ _ hl w => lv_lsub hx hb zd_Numbers_lift_18 w) ?_
  refine zg_1 (pc' := 20) (fun _ _ _ _ _ hl w => lv_lload_n hx hb zd_Numbers_lift_19 rfl (lv_at hl 2 rfl) w) ?_
  obtain ⟨h_3, hf⟩ := zx_ck hf
  refine zg_1 (pc' := 21) (fun _ _ _ _ _ hl w => lv_lrem hx hb zd_Numbers_lift_20 h_3 w) ?_
  obtain rfl := zx_r1 hf
  exact hret _ _ zd_Numbers_lift_21
set_option maxHeartbeats 4000000 in
theorem zc_Numbers_times (l : Launch) (h0 : Nat) (D : va_G) (dA : Nat → ClassId) (tb : Nat → Nat) (n : Nat) {s0 : zh_S} {j0 : Int64} {j2 : Int64} {j4 : Int64} {r : Int64} (hf : zf_Numbers_times n j0 j2 j4 = some r) : zc_M l zn_Numbers_times zs_Numbers_times 1 25 h0 D dA tb [.long j0, .long j2, .long j4] s0 (some (.long r)) s0 := by
  rw [zf_Numbers_times] at hf
  refine zc_of (cc := ze_Numbers_times) (maxL := 20) (ret := (some .long)) (lv := [(0, .long j0), (2, .long j2), (4, .long j4)]) (by decide) rfl (Nat.le_of_ble_eq_true rfl) rfl ?_
  intro p e s m args below meth c X hnm
  obtain ⟨hx, hb, hml, hown, htT, hrt, hlk, x00, hIn⟩ := id X
  have hK := hIn.2.1
  have hT := hIn.2.2.1
  have hNe := hIn.2.2.2
  have hR : zg_R { frames := 1, cells := zh_N s0 - zh_N s0, slots := zh_M s0 - zh_M s0, locals := 25 } (zh_N s0) (zh_M s0) s0 := ⟨by show zh_N s0 ≤ zh_N s0 + (zh_N s0 - zh_N s0); omega, by show zh_M s0 ≤ zh_M s0 + (zh_M s0 - zh_M s0); omega⟩
  have hF : 1 ≤ ({ frames := 1, cells := zh_N s0 - zh_N s0, slots := zh_M s0 - zh_M s0, locals := 25 } : Room).frames ∧ 25 ≤ ({ frames := 1, cells := zh_N s0 - zh_N s0, slots := zh_M s0 - zh_M s0, locals := 25 } : Room).locals := ⟨Nat.le_refl _, Nat.le_refl _⟩
  have hret := fun (pc : Nat) (lv : List (Nat × Value)) (hd : decode ze_Numbers_times pc = .ok (.lreturn, 1)) => zg_lret (R := { frames := 1, cells := zh_N s0 - zh_N s0, slots := zh_M s0 - zh_M s0, locals := 25 }) (l := l) (e := e) (below := below) (c0 := zh_N s0) (s0 := zh_M s0) (z := s0) (lv := lv) (v := r) X hd
  refine zg_1 (pc' := 1) (fun _ _ _ _ _ hl w => lv_lload_n hx hb zd_Numbers_times_0 rfl (lv_at hl 0 rfl) w) ?_
  refine zg_1 (pc' := 3) (fun _ _ _ _ _ hl w => lv_bipush (v := (31 : Int32)) hx hb zd_Numbers_times_1 (by decide) w) ?_
  refine zg_1 (pc' := 4) (fun _ _ _ _ _ hl w => lv_lshr (v := (j0 >>> ((31 : Int32).toInt64 &&& 63))) hx hb zd_Numbers_times_3 rfl w) ?_
  obtain ⟨j_1, e_j_1, hf⟩ := zx_l hf
  refine zg_tl e_j_1 ?_
  refine zg_s (pc' := 6) (lv' := [(6, .long j_1), (0, .long j0), (2, .long j2), (4, .long j4)]) (fun _ _ _ _ _ hl w => lv_lstore hx hb zd_Numbers_times_4 hl (by decide) rfl w) ?_
  refine zg_1 (pc' := 7) (fun _ _ _ _ _ hl w => lv_lload_n hx hb zd_Numbers_times_6 rfl (lv_at hl 1 rfl) w) ?_
  refine zg_1 (pc' := 10) (fun _ _ _ _ _ hl w => lv_ldc2 (v := (2147483647 : Int64)) hx hb hown (htT _ zt_474) zd_Numbers_times_7 w) ?_
  refine zg_1 (pc' := 11) (fun _ _ _ _ _ hl w => lv_land hx hb zd_Numbers_times_10 w) ?_
  obtain ⟨j_2, e_j_2, hf⟩ := zx_l hf
  refine zg_tl e_j_2 ?_
  refine zg_s (pc' := 13) (lv' := [(8, .long j_2), (6, .long j_1), (0, .long j0), (2, .long j2), (4, .long j4)]) (fun _ _ _ _ _ hl w => lv_lstore hx hb zd_Numbers_times_11 hl (by decide) rfl w) ?_
  refine zg_1 (pc' := 14) (fun _ _ _ _ _ hl w => lv_lload_n hx hb zd_Numbers_times_13 rfl (lv_at hl 3 rfl) w) ?_
  refine zg_1 (pc' := 16) (fun _ _ _ _ _ hl w => lv_bipush (v := (31 : Int32)) hx hb zd_Numbers_times_14 (by decide) w) ?_
  refine zg_1 (pc' := 17) (fun _ _ _ _ _ hl w => lv_lshr (v := (j2 >>> ((31 : Int32).toInt64 &&& 63))) hx hb zd_Numbers_times_16 rfl w) ?_
  obtain ⟨j_3, e_j_3, hf⟩ := zx_l hf
  refine zg_tl e_j_3 ?_
  refine zg_s (pc' := 19) (lv' := [(10, .long j_3), (8, .long j_2), (6, .long j_1), (0, .long j0), (2, .long j2), (4, .long j4)]) (fun _ _ _ _ _ hl w => lv_lstore hx hb zd_Numbers_times_17 hl (by decide) rfl w) ?_
  refine zg_1 (pc' := 20) (fun _ _ _ _ _ hl w => lv_lload_n hx hb zd_Numbers_times_19 rfl (lv_at hl 4 rfl) w) ?_
  refine zg_1 (pc' := 23) (fun _ _ _ _ _ hl w => lv_ldc2 (v := (2147483647 : Int64)) hx hb hown (htT _ zt_474) zd_Numbers_times_20 w) ?_
  refine zg_1 (pc' := 24) (fun _ _ _ _ _ hl w => lv_land hx hb zd_Numbers_times_23 w) ?_
  obtain ⟨j_4, e_j_4, hf⟩ := zx_l hf
  refine zg_tl e_j_4 ?_
  refine zg_s (pc' := 26) (lv' := [(12, .long j_4), (10, .long j_3), (8, .long j_2), (6, .long j_1), (0, .long j0), (2, .long j2), (4, .long j4)]) (fun _ _ _ _ _ hl w => lv_lstore hx hb zd_Numbers_times_24 hl (by decide) rfl w) ?_
  refine zg_1 (pc' := 28) (fun _ _ _ _ _ hl w => lv_lload hx hb zd_Numbers_times_26 (lv_at hl 3 rfl) w) ?_
  refine zg_1 (pc' := 30) (fun _ _ _ _ _ hl w => lv_lload hx hb zd_Numbers_times_28 (lv_at hl 1 rfl) w) ?_
  refine zg_1 (pc' := 31) (fun _ _ _ _ _ hl w => lv_lmul hx hb zd_Numbers_times_30 w) ?_
  refine zg_1 (pc' := 33) (fun _ _ _ _ _ hl w => lv_lload hx hb zd_Numbers_times_31 (lv_at hl 6 rfl) w) ?_
  obtain ⟨h_5, hf⟩ := zx_ck hf
  refine zg_1 (pc' := 34) (fun _ _ _ _ _ hl w => lv_lrem hx hb zd_Numbers_times_33 h_5 w) ?_
  refine zg_1 (pc' := 36) (fun _ _ _ _ _ hl w => lv_lload hx hb zd_Numbers_times_34 (lv_at hl 6 rfl) w) ?_
  obtain ⟨j_6, hq, hf⟩ := zx_p hf
  refine zg_call (pc' := 39) (y := s0) (rv := (some (.long j_6))) (rest := []) X hR ⟨Nat.le_refl _, Nat.le_refl _⟩ (fun H locs ls k j hsz hI hU hk => va_runS (As := [.long ((j_1 * j_3) - (j_1 * j_3) / j4 * j4), .long j4]) (rest := []) ⟨hx, hb, hml, hown, htT⟩ (zc_Numbers_lift l h0 D dA tb n hq) (va_cwS 2 htT (zw_gS zt_475 zt_476 zt_73 zt_477) rfl rfl rfl (by decide +kernel) ⟨Nat.le_trans (Nat.le_of_ble_eq_true rfl) hF.1, Nat.le_trans (Nat.le_of_ble_eq_true rfl) hF.2⟩) (zg_pre hU) rfl rfl hsz rfl (lv_room (Nat.le_of_ble_eq_true rfl)) zd_Numbers_times_36 hk) rfl ?_
  refine zg_s (pc' := 41) (lv' := [(14, .long j_6), (12, .long j_4), (10, .long j_3), (8, .long j_2), (6, .long j_1), (0, .long j0), (2, .long j2), (4, .long j4)]) (fun _ _ _ _ _ hl w => lv_lstore hx hb zd_Numbers_times_39 hl (by decide) rfl w) ?_
  refine zg_1 (pc' := 43) (fun _ _ _ _ _ hl w => lv_lload hx hb zd_Numbers_times_41 (lv_at hl 4 rfl) w) ?_
  refine zg_1 (pc' := 45) (fun _ _ _ _ _ hl w => lv_lload hx hb zd_Numbers_times_43 (lv_at hl 1 rfl) w) ?_
  refine zg_1 (pc' := 46) (fun _ _ _ _ _ hl w => lv_lmul hx hb zd_Numbers_times_45 w) ?_
  refine zg_1 (pc' := 48) (fun _ _ _ _ _ hl w => lv_lload hx hb zd_Numbers_times_46 (lv_at hl 3 rfl) w) ?_
  refine zg_1 (pc' := 50) (fun _ _ _ _ _ hl w => lv_lload hx hb zd_Numbers_times_48 (lv_at hl 2 rfl) w) ?_
  refine zg_1 (pc' := 51) (fun _ _ _ _ _ hl w => lv_lmul hx hb zd_Numbers_times_50 w) ?_
  refine zg_1 (pc' := 52) (fun _ _ _ _ _ hl w => lv_ladd hx hb zd_Numbers_times_51 w) ?_
  refine zg_1 (pc' := 54) (fun _ _ _ _ _ hl w => lv_lload hx hb zd_Numbers_times_52 (lv_at hl 7 rfl) w) ?_
  obtain ⟨h_7, hf⟩ := zx_ck hf
  refine zg_1 (pc' := 55) (fun _ _ _ _ _ hl w => lv_lrem hx hb zd_Numbers_times_54 h_7 w) ?_
  obtain ⟨j_8, e_j_8, hf⟩ := zx_l hf
  refine zg_tl e_j_8 ?_
  refine zg_s (pc' := 57) (lv' := [(16, .long j_8), (14, .long j_6), (12, .long j_4), (10, .long j_3), (8, .long j_2), (6, .long j_1), (0, .long j0), (2, .long j2), (4, .long j4)]) (fun _ _ _ _ _ hl w => lv_lstore hx hb zd_Numbers_times_55 hl (by decide) rfl w) ?_
  refine zg_1 (pc' := 59) (fun _ _ _ _ _ hl w => lv_lload hx hb zd_Numbers_times_57 (lv_at hl 1 rfl) w) ?_
  refine zg_1 (pc' := 61) (fun _ _ _ _ _ hl w => lv_lload hx hb zd_Numbers_times_59 (lv_at hl 0 rfl) w) ?_
  refine zg_1 (pc' := 62) (fun _ _ _ _ _ hl w => lv_ladd hx hb zd_Numbers_times_61 w) ?_
  refine zg_1 (pc' := 64) (fun _ _ _ _ _ hl w => lv_lload hx hb zd_Numbers_times_62 (lv_at hl 8 rfl) w) ?_
  obtain ⟨h_9, hf⟩ := zx_ck hf
  refine zg_1 (pc' := 65) (fun _ _ _ _ _ hl w => lv_lrem hx hb zd_Numbers_times_64 h_9 w) ?_
  refine zg_1 (pc' := 67) (fun _ _ _ _ _ hl w => lv_lload hx hb zd_Numbers_times_65 (lv_at hl 8 rfl) w) ?_
  obtain ⟨j_10, hq, hf⟩ := zx_p hf
  refine zg_call (pc' := 70) (y := s0) (rv := (some (.long j_10))) (rest := []) X hR ⟨Nat.le_refl _, Nat.le_refl _⟩ (fun H locs ls k j hsz hI hU hk => va_runS (As := [.long ((j_6 + j_8) - (j_6 + j_8) / j4 * j4), .long j4]) (rest := []) ⟨hx, hb, hml, hown, htT⟩ (zc_Numbers_lift l h0 D dA tb n hq) (va_cwS 2 htT (zw_gS zt_475 zt_476 zt_73 zt_477) rfl rfl rfl (by decide +kernel) ⟨Nat.le_trans (Nat.le_of_ble_eq_true rfl) hF.1, Nat.le_trans (Nat.le_of_ble_eq_true rfl) hF.2⟩) (zg_pre hU) rfl rfl hsz rfl (lv_room (Nat.le_of_ble_eq_true rfl)) zd_Numbers_times_67 hk) rfl ?_
  refine zg_s (pc' := 72) (lv' := [(18, .long j_10), (16, .long j_8), (14, .long j_6), (12, .long j_4), (10, .long j_3), (8, .long j_2), (6, .long j_1), (0, .long j0), (2, .long j2), (4, .long j4)]) (fun _ _ _ _ _ hl w => lv_lstore hx hb zd_Numbers_times_70 hl (by decide) rfl w) ?_
  refine zg_1 (pc' := 74) (fun _ _ _ _ _ hl w => lv_lload hx hb zd_Numbers_times_72 (lv_at hl 0 rfl) w) ?_
  refine zg_1 (pc' := 76) (fun _ _ _ _ _ hl w => lv_lload hx hb zd_Numbers_times_74 (lv_at hl 5 rfl) w) ?_
  refine zg_1 (pc' := 78) (fun _ _ _ _ _ hl w => lv_lload hx hb zd_Numbers_times_76 (lv_at hl 3 rfl) w) ?_
  refine zg_1 (pc' := 79) (fun _ _ _ _ _ hl w => lv_lmul hx hb zd_Numbers_times_78 w) ?_
  refine zg_1 (pc' := 81) (fun _ _ _ _ _ hl w => lv_lload hx hb zd_Numbers_times_79 (lv_at hl 9 rfl) w) ?_
  obtain ⟨h_11, hf⟩ := zx_ck hf
  refine zg_1 (pc' := 82) (fun _ _ _ _ _ hl w => lv_lrem hx hb zd_Numbers_times_81 h_11 w) ?_
  refine zg_1 (pc' := 83) (fun _ _ _ _ _ hl w => lv_ladd hx hb zd_Numbers_times_82 w) ?_
  refine zg_1 (pc' := 85) (fun _ _ _ _ _ hl w => lv_lload hx hb zd_Numbers_times_83 (lv_at hl 9 rfl) w) ?_
  obtain ⟨h_12, hf⟩ := zx_ck hf
  refine zg_1 (pc' := 86) (fun _ _ _ _ _ hl w => lv_lrem hx hb zd_Numbers_times_85 h_12 w) ?_
  obtain rfl := zx_r1 hf
  exact hret _ _ zd_Numbers_times_86
set_option maxHeartbeats 4000000 in
theorem zw_Numbers_power_36 {p : Program} {l : Launch} {e : Env} {R : Room} {s : State} {m : MethodId} {args : Array Value} {below : List Frame} {meth : Method} {c : Code} {Q : State → Prop} {h0 : Nat} {D : va_G} {dA : Nat → ClassId} {tb : Nat → Nat} {c0 k0 : Nat} {s0 : zh_S} {r : Int64} (X : zg_X p s m args meth c ze_Numbers_power 12 zr_Numbers (some .long) h0 D dA tb) (hR : zg_R R c0 k0 s0) (hF : 2 ≤ R.frames ∧ 64 ≤ R.locals) (hret : ∀ (pc : Nat) (lv : List (Nat × Value)), decode ze_Numbers_power pc = .ok (.lreturn, 1) → zg_G p l e R s m args below meth c Q h0 D dA 12 c0 k0 s0 s0 pc lv [.long r]) (n : Nat) (r9 : Int64 → Int64 → Int64 → Int64 → Option Int64) (hr9 : ∀ (j4 : Int64) (j6 : Int64) (j8 : Int64) (j10 : Int64), r9 j4 j6 j8 j10 = some r → zg_G p l e R s m args below meth c Q h0 D dA 12 c0 k0 s0 s0 9 [(4, .long j4), (6, .long j6), (8, .long j8), (10, .long j10)] []) : ∀ (j4 : Int64) (j6 : Int64) (j8 : Int64) (j10 : Int64), zb_Numbers_power_36 n r9 j4 j6 j8 j10 = some r → zg_G p l e R s m args below meth c Q h0 D dA 12 c0 k0 s0 s0 36 [(4, .long j4), (6, .long j6), (8, .long j8), (10, .long j10)] [] := by
  obtain ⟨hx, hb, hml, hown, htT, hrt, hlk, x00, hIn⟩ := id X
  have hK := hIn.2.1
  have hT := hIn.2.2.1
  have hNe := hIn.2.2.2
  intro j4 j6 j8 j10 hf
  rw [zb_Numbers_power_36] at hf
  refine zg_1 (pc' := 38) (fun _ _ _ _ _ hl w => lv_lload hx hb zd_Numbers_power_36 (lv_at hl 2 rfl) w) ?_
  refine zg_1 (pc' := 40) (fun _ _ _ _ _ hl w => lv_lload hx hb zd_Numbers_power_38 (lv_at hl 2 rfl) w) ?_
  refine zg_1 (pc' := 42) (fun _ _ _ _ _ hl w => lv_lload hx hb zd_Numbers_power_40 (lv_at hl 0 rfl) w) ?_
  obtain ⟨j_1, hq, hf⟩ := zx_p hf
  refine zg_call (pc' := 45) (y := s0) (rv := (some (.long j_1))) (rest := []) X hR ⟨Nat.le_refl _, Nat.le_refl _⟩ (fun H locs ls k j hsz hI hU hk => va_runS (As := [.long j8, .long j8, .long j4]) (rest := []) ⟨hx, hb, hml, hown, htT⟩ (zc_Numbers_times l h0 D dA tb n hq) (va_cwS 3 htT (zw_gS zt_471 zt_472 zt_73 zt_473) rfl rfl rfl (by decide +kernel) ⟨Nat.le_trans (Nat.le_of_ble_eq_true rfl) hF.1, Nat.le_trans (Nat.le_of_ble_eq_true rfl) hF.2⟩) (zg_pre hU) rfl rfl hsz rfl (lv_room (Nat.le_of_ble_eq_true rfl)) zd_Numbers_power_42 hk) rfl ?_
  refine zg_s (pc' := 47) (lv' := [(8, .long j_1), (4, .long j4), (6, .long j6), (10, .long j10)]) (fun _ _ _ _ _ hl w => lv_lstore hx hb zd_Numbers_power_45 hl (by decide) rfl w) ?_
  refine zg_1 (pc' := 49) (fun _ _ _ _ _ hl w => lv_lload hx hb zd_Numbers_power_47 (lv_at hl 3 rfl) w) ?_
  refine zg_1 (pc' := 50) (fun _ _ _ _ _ hl w => lv_iconst (v := (1 : Int32)) hx hb zd_Numbers_power_49 (by decide) w) ?_
  refine zg_1 (pc' := 51) (fun _ _ _ _ _ hl w => lv_lshr (v := (j10 >>> ((1 : Int32).toInt64 &&& 63))) hx hb zd_Numbers_power_50 rfl w) ?_
  obtain ⟨j_2, e_j_2, hf⟩ := zx_l hf
  refine zg_tl e_j_2 ?_
  refine zg_s (pc' := 53) (lv' := [(10, .long j_2), (8, .long j_1), (4, .long j4), (6, .long j6)]) (fun _ _ _ _ _ hl w => lv_lstore hx hb zd_Numbers_power_51 hl (by decide) rfl w) ?_
  refine zg_1 (pc' := 9) (fun _ _ _ _ _ hl w => lv_goto hx hb zd_Numbers_power_53 (by decide) w) ?_
  refine zg_v [2, 3, 1, 0] rfl ?_
  exact hr9 j4 j6 j_1 j_2 hf
set_option maxHeartbeats 4000000 in
theorem zw_Numbers_power_9 {p : Program} {l : Launch} {e : Env} {R : Room} {s : State} {m : MethodId} {args : Array Value} {below : List Frame} {meth : Method} {c : Code} {Q : State → Prop} {h0 : Nat} {D : va_G} {dA : Nat → ClassId} {tb : Nat → Nat} {c0 k0 : Nat} {s0 : zh_S} {r : Int64} (X : zg_X p s m args meth c ze_Numbers_power 12 zr_Numbers (some .long) h0 D dA tb) (hR : zg_R R c0 k0 s0) (hF : 2 ≤ R.frames ∧ 64 ≤ R.locals) (hret : ∀ (pc : Nat) (lv : List (Nat × Value)), decode ze_Numbers_power pc = .ok (.lreturn, 1) → zg_G p l e R s m args below meth c Q h0 D dA 12 c0 k0 s0 s0 pc lv [.long r]) (n : Nat) (k : Nat) : ∀ (j4 : Int64) (j6 : Int64) (j8 : Int64) (j10 : Int64), zl_Numbers_power_9 n k j4 j6 j8 j10 = some r → zg_G p l e R s m args below meth c Q h0 D dA 12 c0 k0 s0 s0 9 [(4, .long j4), (6, .long j6), (8, .long j8), (10, .long j10)] [] := by
  obtain ⟨hx, hb, hml, hown, htT, hrt, hlk, x00, hIn⟩ := id X
  have hK := hIn.2.1
  have hT := hIn.2.2.1
  have hNe := hIn.2.2.2
  induction k with
  | zero => intro j4 j6 j8 j10 hf; cases hf
  | succ k ih =>
    intro j4 j6 j8 j10 hf
    rw [zl_Numbers_power_9] at hf
    refine zg_1 (pc' := 11) (fun _ _ _ _ _ hl w => lv_lload hx hb zd_Numbers_power_9 (lv_at hl 3 rfl) w) ?_
    refine zg_1 (pc' := 12) (fun _ _ _ _ _ hl w => lv_lconst (v := (0 : Int64)) hx hb zd_Numbers_power_11 (by decide) w) ?_
    refine zg_1 (pc' := 13) (fun _ _ _ _ _ hl w => W.lcmp hx hb zd_Numbers_power_12 w) ?_
    refine zg_2 (pc1 := 56) (pc2 := 16) (Classical.em _) (fun _ _ _ _ _ w1 w2 => lv_if_le hx hb zd_Numbers_power_13 (by decide) w1 w2) (fun hc => ?_) (fun hc => ?_)
    · rw [if_pos hc] at hf
      refine zg_1 (pc' := 58) (fun _ _ _ _ _ hl w => lv_lload hx hb zd_Numbers_power_56 (lv_at hl 1 rfl) w) ?_
      obtain rfl := zx_r1 hf
      exact hret _ _ zd_Numbers_power_58
    · rw [if_neg hc] at hf
      refine zg_1 (pc' := 18) (fun _ _ _ _ _ hl w => lv_lload hx hb zd_Numbers_power_16 (lv_at hl 3 rfl) w) ?_
      refine zg_1 (pc' := 19) (fun _ _ _ _ _ hl w => lv_lconst (v := (1 : Int64)) hx hb zd_Numbers_power_18 (by decide) w) ?_
      refine zg_1 (pc' := 20) (fun _ _ _ _ _ hl w => lv_land hx hb zd_Numbers_power_19 w) ?_
      refine zg_1 (pc' := 21) (fun _ _ _ _ _ hl w => lv_lconst (v := (1 : Int64)) hx hb zd_Numbers_power_20 (by decide) w) ?_
      refine zg_1 (pc' := 22) (fun _ _ _ _ _ hl w => W.lcmp hx hb zd_Numbers_power_21 w) ?_
      refine zg_2 (pc1 := 36) (pc2 := 25) (Classical.em _).symm (fun _ _ _ _ _ w1 w2 => lv_if_ne hx hb zd_Numbers_power_22 (by decide) w1 w2) (fun hc => ?_) (fun hc => ?_)
      · rw [if_neg hc] at hf
        exact zw_Numbers_power_36 X hR hF hret n _ ih j4 j6 j8 j10 hf
      · rw [if_pos hc] at hf
        refine zg_1 (pc' := 27) (fun _ _ _ _ _ hl w => lv_lload hx hb zd_Numbers_power_25 (lv_at hl 1 rfl) w) ?_
        refine zg_1 (pc' := 29) (fun _ _ _ _ _ hl w => lv_lload hx hb zd_Numbers_power_27 (lv_at hl 2 rfl) w) ?_
        refine zg_1 (pc' := 31) (fun _ _ _ _ _ hl w => lv_lload hx hb zd_Numbers_power_29 (lv_at hl 0 rfl) w) ?_
        obtain ⟨j_1, hq, hf⟩ := zx_p hf
        refine zg_call (pc' := 34) (y := s0) (rv := (some (.long j_1))) (rest := []) X hR ⟨Nat.le_refl _, Nat.le_refl _⟩ (fun H locs ls k j hsz hI hU hk => va_runS (As := [.long j6, .long j8, .long j4]) (rest := []) ⟨hx, hb, hml, hown, htT⟩ (zc_Numbers_times l h0 D dA tb n hq) (va_cwS 3 htT (zw_gS zt_471 zt_472 zt_73 zt_473) rfl rfl rfl (by decide +kernel) ⟨Nat.le_trans (Nat.le_of_ble_eq_true rfl) hF.1, Nat.le_trans (Nat.le_of_ble_eq_true rfl) hF.2⟩) (zg_pre hU) rfl rfl hsz rfl (lv_room (Nat.le_of_ble_eq_true rfl)) zd_Numbers_power_31 hk) rfl ?_
        refine zg_s (pc' := 36) (lv' := [(6, .long j_1), (4, .long j4), (8, .long j8), (10, .long j10)]) (fun _ _ _ _ _ hl w => lv_lstore hx hb zd_Numbers_power_34 hl (by decide) rfl w) ?_
        refine zg_v [1, 0, 2, 3] rfl ?_
        exact zw_Numbers_power_36 X hR hF hret n _ ih j4 j_1 j8 j10 hf
set_option maxHeartbeats 4000000 in
theorem zc_Numbers_power (l : Launch) (h0 : Nat) (D : va_G) (dA : Nat → ClassId) (tb : Nat → Nat) (n : Nat) {s0 : zh_S} {j0 : Int64} {j2 : Int64} {j4 : Int64} {r : Int64} (hf : zf_Numbers_power n j0 j2 j4 = some r) : zc_M l zn_Numbers_power zs_Numbers_power 2 64 h0 D dA tb [.long j0, .long j2, .long j4] s0 (some (.long r)) s0 := by
  rw [zf_Numbers_power] at hf
  refine zc_of (cc := ze_Numbers_power) (maxL := 12) (ret := (some .long)) (lv := [(0, .long j0), (2, .long j2), (4, .long j4)]) (by decide) rfl (Nat.le_of_ble_eq_true rfl) rfl ?_
  intro p e s m args below meth c X hnm
  obtain ⟨hx, hb, hml, hown, htT, hrt, hlk, x00, hIn⟩ := id X
  have hK := hIn.2.1
  have hT := hIn.2.2.1
  have hNe := hIn.2.2.2
  have hR : zg_R { frames := 2, cells := zh_N s0 - zh_N s0, slots := zh_M s0 - zh_M s0, locals := 64 } (zh_N s0) (zh_M s0) s0 := ⟨by show zh_N s0 ≤ zh_N s0 + (zh_N s0 - zh_N s0); omega, by show zh_M s0 ≤ zh_M s0 + (zh_M s0 - zh_M s0); omega⟩
  have hF : 2 ≤ ({ frames := 2, cells := zh_N s0 - zh_N s0, slots := zh_M s0 - zh_M s0, locals := 64 } : Room).frames ∧ 64 ≤ ({ frames := 2, cells := zh_N s0 - zh_N s0, slots := zh_M s0 - zh_M s0, locals := 64 } : Room).locals := ⟨Nat.le_refl _, Nat.le_refl _⟩
  have hret := fun (pc : Nat) (lv : List (Nat × Value)) (hd : decode ze_Numbers_power pc = .ok (.lreturn, 1)) => zg_lret (R := { frames := 2, cells := zh_N s0 - zh_N s0, slots := zh_M s0 - zh_M s0, locals := 64 }) (l := l) (e := e) (below := below) (c0 := zh_N s0) (s0 := zh_M s0) (z := s0) (lv := lv) (v := r) X hd
  refine zg_1 (pc' := 1) (fun _ _ _ _ _ hl w => lv_lconst (v := (1 : Int64)) hx hb zd_Numbers_power_0 (by decide) w) ?_
  refine zg_s (pc' := 3) (lv' := [(6, .long (1 : Int64)), (0, .long j0), (2, .long j2), (4, .long j4)]) (fun _ _ _ _ _ hl w => lv_lstore hx hb zd_Numbers_power_1 hl (by decide) rfl w) ?_
  refine zg_1 (pc' := 4) (fun _ _ _ _ _ hl w => lv_lload_n hx hb zd_Numbers_power_3 rfl (lv_at hl 1 rfl) w) ?_
  refine zg_s (pc' := 6) (lv' := [(8, .long j0), (6, .long (1 : Int64)), (0, .long j0), (2, .long j2), (4, .long j4)]) (fun _ _ _ _ _ hl w => lv_lstore hx hb zd_Numbers_power_4 hl (by decide) rfl w) ?_
  refine zg_1 (pc' := 7) (fun _ _ _ _ _ hl w => lv_lload_n hx hb zd_Numbers_power_6 rfl (lv_at hl 3 rfl) w) ?_
  refine zg_s (pc' := 9) (lv' := [(10, .long j2), (8, .long j0), (6, .long (1 : Int64)), (0, .long j0), (2, .long j2), (4, .long j4)]) (fun _ _ _ _ _ hl w => lv_lstore hx hb zd_Numbers_power_7 hl (by decide) rfl w) ?_
  refine zg_v [5, 2, 1, 0] rfl ?_
  exact zw_Numbers_power_9 X hR hF hret n n j4 (1 : Int64) j0 j2 hf
set_option maxHeartbeats 4000000 in
theorem zc_Numbers_block (l : Launch) (h0 : Nat) (D : va_G) (dA : Nat → ClassId) (tb : Nat → Nat) (n : Nat) {s0 : zh_S} {i0 : Int32} {r : Int64} (hf : zf_Numbers_block n i0 = some r) : zc_M l zn_Numbers_block zs_Numbers_block 0 0 h0 D dA tb [.int i0] s0 (some (.long r)) s0 := by
  rw [zf_Numbers_block] at hf
  refine zc_of (cc := ze_Numbers_block) (maxL := 1) (ret := (some .long)) (lv := [(0, .int i0)]) (by decide) rfl (Nat.le_of_ble_eq_true rfl) rfl ?_
  intro p e s m args below meth c X hnm
  obtain ⟨hx, hb, hml, hown, htT, hrt, hlk, x00, hIn⟩ := id X
  have hK := hIn.2.1
  have hT := hIn.2.2.1
  have hNe := hIn.2.2.2
  have hR : zg_R { frames := 0, cells := zh_N s0 - zh_N s0, slots := zh_M s0 - zh_M s0, locals := 0 } (zh_N s0) (zh_M s0) s0 := ⟨by show zh_N s0 ≤ zh_N s0 + (zh_N s0 - zh_N s0); omega, by show zh_M s0 ≤ zh_M s0 + (zh_M s0 - zh_M s0); omega⟩
  have hF : 0 ≤ ({ frames := 0, cells := zh_N s0 - zh_N s0, slots := zh_M s0 - zh_M s0, locals := 0 } : Room).frames ∧ 0 ≤ ({ frames := 0, cells := zh_N s0 - zh_N s0, slots := zh_M s0 - zh_M s0, locals := 0 } : Room).locals := ⟨Nat.le_refl _, Nat.le_refl _⟩
  have hret := fun (pc : Nat) (lv : List (Nat × Value)) (hd : decode ze_Numbers_block pc = .ok (.lreturn, 1)) => zg_lret (R := { frames := 0, cells := zh_N s0 - zh_N s0, slots := zh_M s0 - zh_M s0, locals := 0 }) (l := l) (e := e) (below := below) (c0 := zh_N s0) (s0 := zh_M s0) (z := s0) (lv := lv) (v := r) X hd
  refine zg_1 (pc' := 3) (fun _ _ _ _ _ hl w => lv_ldc2 (v := (561850441793536 : Int64)) hx hb hown (htT _ zt_464) zd_Numbers_block_0 w) ?_
  refine zg_1 (pc' := 4) (fun _ _ _ _ _ hl w => lv_iload_n hx hb zd_Numbers_block_3 rfl (lv_at hl 0 rfl) w) ?_
  refine zg_1 (pc' := 5) (fun _ _ _ _ _ hl w => lv_i2l (v := i0.toInt64) hx hb zd_Numbers_block_4 rfl w) ?_
  refine zg_1 (pc' := 8) (fun _ _ _ _ _ hl w => lv_ldc2 (v := (4294967295 : Int64)) hx hb hown (htT _ zt_465) zd_Numbers_block_5 w) ?_
  refine zg_1 (pc' := 9) (fun _ _ _ _ _ hl w => lv_land hx hb zd_Numbers_block_8 w) ?_
  refine zg_1 (pc' := 10) (fun _ _ _ _ _ hl w => lv_ladd hx hb zd_Numbers_block_9 w) ?_
  obtain rfl := zx_r1 hf
  exact hret _ _ zd_Numbers_block_10
set_option maxHeartbeats 4000000 in
theorem zc_Numbers_isGood (l : Launch) (h0 : Nat) (D : va_G) (dA : Nat → ClassId) (tb : Nat → Nat) (n : Nat) {s0 : zh_S} {j0 : Int64} {j2 : Int64} {j4 : Int64} {i6 : Int32} {r : Int32} (hf : zf_Numbers_isGood n j0 j2 j4 i6 = some r) : zc_M l zn_Numbers_isGood zs_Numbers_isGood 3 95 h0 D dA tb [.long j0, .long j2, .long j4, .int i6] s0 (some (.int r)) s0 := by
  rw [zf_Numbers_isGood] at hf
  refine zc_of (cc := ze_Numbers_isGood) (maxL := 7) (ret := (some .boolean)) (lv := [(0, .long j0), (2, .long j2), (4, .long j4), (6, .int i6)]) (by decide) rfl (Nat.le_of_ble_eq_true rfl) rfl ?_
  intro p e s m args below meth c X hnm
  obtain ⟨hx, hb, hml, hown, htT, hrt, hlk, x00, hIn⟩ := id X
  have hK := hIn.2.1
  have hT := hIn.2.2.1
  have hNe := hIn.2.2.2
  have hR : zg_R { frames := 3, cells := zh_N s0 - zh_N s0, slots := zh_M s0 - zh_M s0, locals := 95 } (zh_N s0) (zh_M s0) s0 := ⟨by show zh_N s0 ≤ zh_N s0 + (zh_N s0 - zh_N s0); omega, by show zh_M s0 ≤ zh_M s0 + (zh_M s0 - zh_M s0); omega⟩
  have hF : 3 ≤ ({ frames := 3, cells := zh_N s0 - zh_N s0, slots := zh_M s0 - zh_M s0, locals := 95 } : Room).frames ∧ 95 ≤ ({ frames := 3, cells := zh_N s0 - zh_N s0, slots := zh_M s0 - zh_M s0, locals := 95 } : Room).locals := ⟨Nat.le_refl _, Nat.le_refl _⟩
  have hret := fun (hz : r = 0 ∨ r = 1) (pc : Nat) (lv : List (Nat × Value)) (hd : decode ze_Numbers_isGood pc = .ok (.ireturn, 1)) => zg_iret (R := { frames := 3, cells := zh_N s0 - zh_N s0, slots := zh_M s0 - zh_M s0, locals := 95 }) (l := l) (e := e) (below := below) (c0 := zh_N s0) (s0 := zh_M s0) (z := s0) (lv := lv) (v := r) X (zx_nz hz) hd
  refine zg_1 (pc' := 1) (fun _ _ _ _ _ hl w => lv_lload_n hx hb zd_Numbers_isGood_0 rfl (lv_at hl 1 rfl) w) ?_
  refine zg_1 (pc' := 4) (fun _ _ _ _ _ hl w => lv_ldc2 (v := (144115188075855872 : Int64)) hx hb hown (htT _ zt_613) zd_Numbers_isGood_1 w) ?_
  refine zg_1 (pc' := 5) (fun _ _ _ _ _ hl w => W.lcmp hx hb zd_Numbers_isGood_4 w) ?_
  refine zg_2 (pc1 := 74) (pc2 := 8) (Classical.em _) (fun _ _ _ _ _ w1 w2 => lv_if_lt hx hb zd_Numbers_isGood_5 (by decide) w1 w2) (fun hc => ?_) (fun hc => ?_)
  · rw [if_pos hc] at hf
    refine zg_1 (pc' := 75) (fun _ _ _ _ _ hl w => lv_iconst (v := (0 : Int32)) hx hb zd_Numbers_isGood_74 (by decide) w) ?_
    obtain rfl := zx_r1 hf
    exact hret (Or.inl rfl) _ _ zd_Numbers_isGood_75
  · rw [if_neg hc] at hf
    refine zg_1 (pc' := 9) (fun _ _ _ _ _ hl w => lv_lload_n hx hb zd_Numbers_isGood_8 rfl (lv_at hl 1 rfl) w) ?_
    refine zg_1 (pc' := 12) (fun _ _ _ _ _ hl w => lv_ldc2 (v := (4611686018427387903 : Int64)) hx hb hown (htT _ zt_614) zd_Numbers_isGood_9 w) ?_
    refine zg_1 (pc' := 13) (fun _ _ _ _ _ hl w => W.lcmp hx hb zd_Numbers_isGood_12 w) ?_
    refine zg_2 (pc1 := 74) (pc2 := 16) (Classical.em _) (fun _ _ _ _ _ w1 w2 => lv_if_gt hx hb zd_Numbers_isGood_13 (by decide) w1 w2) (fun hc => ?_) (fun hc => ?_)
    · rw [if_pos hc] at hf
      refine zg_1 (pc' := 75) (fun _ _ _ _ _ hl w => lv_iconst (v := (0 : Int32)) hx hb zd_Numbers_isGood_74 (by decide) w) ?_
      obtain rfl := zx_r1 hf
      exact hret (Or.inl rfl) _ _ zd_Numbers_isGood_75
    · rw [if_neg hc] at hf
      refine zg_1 (pc' := 17) (fun _ _ _ _ _ hl w => lv_lload_n hx hb zd_Numbers_isGood_16 rfl (lv_at hl 1 rfl) w) ?_
      refine zg_1 (pc' := 18) (fun _ _ _ _ _ hl w => lv_lconst (v := (1 : Int64)) hx hb zd_Numbers_isGood_17 (by decide) w) ?_
      refine zg_1 (pc' := 19) (fun _ _ _ _ _ hl w => lv_land hx hb zd_Numbers_isGood_18 w) ?_
      refine zg_1 (pc' := 20) (fun _ _ _ _ _ hl w => lv_lconst (v := (1 : Int64)) hx hb zd_Numbers_isGood_19 (by decide) w) ?_
      refine zg_1 (pc' := 21) (fun _ _ _ _ _ hl w => W.lcmp hx hb zd_Numbers_isGood_20 w) ?_
      refine zg_2 (pc1 := 74) (pc2 := 24) (Classical.em _).symm (fun _ _ _ _ _ w1 w2 => lv_if_ne hx hb zd_Numbers_isGood_21 (by decide) w1 w2) (fun hc => ?_) (fun hc => ?_)
      · rw [if_neg hc] at hf
        refine zg_1 (pc' := 75) (fun _ _ _ _ _ hl w => lv_iconst (v := (0 : Int32)) hx hb zd_Numbers_isGood_74 (by decide) w) ?_
        obtain rfl := zx_r1 hf
        exact hret (Or.inl rfl) _ _ zd_Numbers_isGood_75
      · rw [if_pos hc] at hf
        refine zg_1 (pc' := 26) (fun _ _ _ _ _ hl w => lv_lload hx hb zd_Numbers_isGood_24 (lv_at hl 2 rfl) w) ?_
        refine zg_1 (pc' := 29) (fun _ _ _ _ _ hl w => lv_ldc2 (v := (3 : Int64)) hx hb hown (htT _ zt_615) zd_Numbers_isGood_26 w) ?_
        refine zg_1 (pc' := 30) (fun _ _ _ _ _ hl w => W.lcmp hx hb zd_Numbers_isGood_29 w) ?_
        refine zg_2 (pc1 := 74) (pc2 := 33) (Classical.em _) (fun _ _ _ _ _ w1 w2 => lv_if_lt hx hb zd_Numbers_isGood_30 (by decide) w1 w2) (fun hc => ?_) (fun hc => ?_)
        · rw [if_pos hc] at hf
          refine zg_1 (pc' := 75) (fun _ _ _ _ _ hl w => lv_iconst (v := (0 : Int32)) hx hb zd_Numbers_isGood_74 (by decide) w) ?_
          obtain rfl := zx_r1 hf
          exact hret (Or.inl rfl) _ _ zd_Numbers_isGood_75
        · rw [if_neg hc] at hf
          refine zg_1 (pc' := 35) (fun _ _ _ _ _ hl w => lv_lload hx hb zd_Numbers_isGood_33 (lv_at hl 2 rfl) w) ?_
          refine zg_1 (pc' := 38) (fun _ _ _ _ _ hl w => lv_ldc2 (v := (2147483647 : Int64)) hx hb hown (htT _ zt_474) zd_Numbers_isGood_35 w) ?_
          refine zg_1 (pc' := 39) (fun _ _ _ _ _ hl w => W.lcmp hx hb zd_Numbers_isGood_38 w) ?_
          refine zg_2 (pc1 := 74) (pc2 := 42) (Classical.em _) (fun _ _ _ _ _ w1 w2 => lv_if_gt hx hb zd_Numbers_isGood_39 (by decide) w1 w2) (fun hc => ?_) (fun hc => ?_)
          · rw [if_pos hc] at hf
            refine zg_1 (pc' := 75) (fun _ _ _ _ _ hl w => lv_iconst (v := (0 : Int32)) hx hb zd_Numbers_isGood_74 (by decide) w) ?_
            obtain rfl := zx_r1 hf
            exact hret (Or.inl rfl) _ _ zd_Numbers_isGood_75
          · rw [if_neg hc] at hf
            refine zg_1 (pc' := 43) (fun _ _ _ _ _ hl w => lv_lload_n hx hb zd_Numbers_isGood_42 rfl (lv_at hl 0 rfl) w) ?_
            refine zg_1 (pc' := 44) (fun _ _ _ _ _ hl w => lv_lconst (v := (0 : Int64)) hx hb zd_Numbers_isGood_43 (by decide) w) ?_
            refine zg_1 (pc' := 45) (fun _ _ _ _ _ hl w => W.lcmp hx hb zd_Numbers_isGood_44 w) ?_
            refine zg_2 (pc1 := 74) (pc2 := 48) (Classical.em _) (fun _ _ _ _ _ w1 w2 => lv_if_lt hx hb zd_Numbers_isGood_45 (by decide) w1 w2) (fun hc => ?_) (fun hc => ?_)
            · rw [if_pos hc] at hf
              refine zg_1 (pc' := 75) (fun _ _ _ _ _ hl w => lv_iconst (v := (0 : Int32)) hx hb zd_Numbers_isGood_74 (by decide) w) ?_
              obtain rfl := zx_r1 hf
              exact hret (Or.inl rfl) _ _ zd_Numbers_isGood_75
            · rw [if_neg hc] at hf
              refine zg_1 (pc' := 49) (fun _ _ _ _ _ hl w => lv_lload_n hx hb zd_Numbers_isGood_48 rfl (lv_at hl 0 rfl) w) ?_
              refine zg_1 (pc' := 50) (fun _ _ _ _ _ hl w => lv_lload_n hx hb zd_Numbers_isGood_49 rfl (lv_at hl 1 rfl) w) ?_
              refine zg_1 (pc' := 51) (fun _ _ _ _ _ hl w => W.lcmp hx hb zd_Numbers_isGood_50 w) ?_
              refine zg_2 (pc1 := 74) (pc2 := 54) (Classical.em _) (fun _ _ _ _ _ w1 w2 => lv_if_ge hx hb zd_Numbers_isGood_51 (by decide) w1 w2) (fun hc => ?_) (fun hc => ?_)
              · rw [if_pos hc] at hf
                refine zg_1 (pc' := 75) (fun _ _ _ _ _ hl w => lv_iconst (v := (0 : Int32)) hx hb zd_Numbers_isGood_74 (by decide) w) ?_
                obtain rfl := zx_r1 hf
                exact hret (Or.inl rfl) _ _ zd_Numbers_isGood_75
              · rw [if_neg hc] at hf
                refine zg_1 (pc' := 55) (fun _ _ _ _ _ hl w => lv_lload_n hx hb zd_Numbers_isGood_54 rfl (lv_at hl 0 rfl) w) ?_
                refine zg_1 (pc' := 57) (fun _ _ _ _ _ hl w => lv_lload hx hb zd_Numbers_isGood_55 (lv_at hl 2 rfl) w) ?_
                refine zg_1 (pc' := 58) (fun _ _ _ _ _ hl w => lv_lload_n hx hb zd_Numbers_isGood_57 rfl (lv_at hl 1 rfl) w) ?_
                obtain ⟨j_1, hq, hf⟩ := zx_p hf
                refine zg_call (pc' := 61) (y := s0) (rv := (some (.long j_1))) (rest := []) X hR ⟨Nat.le_refl _, Nat.le_refl _⟩ (fun H locs ls k j hsz hI hU hk => va_runS (As := [.long j0, .long j4, .long j2]) (rest := []) ⟨hx, hb, hml, hown, htT⟩ (zc_Numbers_power l h0 D dA tb n hq) (va_cwS 3 htT (zw_gS zt_468 zt_469 zt_73 zt_470) rfl rfl rfl (by decide +kernel) ⟨Nat.le_trans (Nat.le_of_ble_eq_true rfl) hF.1, Nat.le_trans (Nat.le_of_ble_eq_true rfl) hF.2⟩) (zg_pre hU) rfl rfl hsz rfl (lv_room (Nat.le_of_ble_eq_true rfl)) zd_Numbers_isGood_58 hk) rfl ?_
                refine zg_1 (pc' := 63) (fun _ _ _ _ _ hl w => lv_iload hx hb zd_Numbers_isGood_61 (lv_at hl 3 rfl) w) ?_
                obtain ⟨j_2, hq, hf⟩ := zx_p hf
                refine zg_call (pc' := 66) (y := s0) (rv := (some (.long j_2))) (rest := [.long j_1]) X hR ⟨Nat.le_refl _, Nat.le_refl _⟩ (fun H locs ls k j hsz hI hU hk => va_runS (As := [.int i6]) (rest := [.long j_1]) ⟨hx, hb, hml, hown, htT⟩ (zc_Numbers_block l h0 D dA tb n hq) (va_cwS 1 htT (zw_gS zt_461 zt_462 zt_73 zt_463) rfl rfl rfl (by decide +kernel) ⟨Nat.le_trans (Nat.le_of_ble_eq_true rfl) hF.1, Nat.le_trans (Nat.le_of_ble_eq_true rfl) hF.2⟩) (zg_pre hU) rfl rfl hsz rfl (lv_room (Nat.le_of_ble_eq_true rfl)) zd_Numbers_isGood_63 hk) rfl ?_
                refine zg_1 (pc' := 67) (fun _ _ _ _ _ hl w => W.lcmp hx hb zd_Numbers_isGood_66 w) ?_
                refine zg_2 (pc1 := 74) (pc2 := 70) (Classical.em _).symm (fun _ _ _ _ _ w1 w2 => lv_if_ne hx hb zd_Numbers_isGood_67 (by decide) w1 w2) (fun hc => ?_) (fun hc => ?_)
                · rw [if_neg hc] at hf
                  refine zg_1 (pc' := 75) (fun _ _ _ _ _ hl w => lv_iconst (v := (0 : Int32)) hx hb zd_Numbers_isGood_74 (by decide) w) ?_
                  obtain rfl := zx_r1 hf
                  exact hret (Or.inl rfl) _ _ zd_Numbers_isGood_75
                · rw [if_pos hc] at hf
                  refine zg_1 (pc' := 71) (fun _ _ _ _ _ hl w => lv_iconst (v := (1 : Int32)) hx hb zd_Numbers_isGood_70 (by decide) w) ?_
                  refine zg_1 (pc' := 75) (fun _ _ _ _ _ hl w => lv_goto hx hb zd_Numbers_isGood_71 (by decide) w) ?_
                  obtain rfl := zx_r1 hf
                  exact hret (Or.inr rfl) _ _ zd_Numbers_isGood_75
set_option maxHeartbeats 4000000 in
theorem zc_V_good (l : Launch) (h0 : Nat) (D : va_G) (dA : Nat → ClassId) (tb : Nat → Nat) (n : Nat) {s0 : zh_S} {a0 : Nat} {j1 : Int64} {j3 : Int64} {j5 : Int64} {i7 : Int32} {r : Int32} (hf : zf_V_good n a0 j1 j3 j5 i7 = some r) : zc_M l zn_V_good zs_V_good 4 121 h0 D dA tb [.ref (h0 + a0), .long j1, .long j3, .long j5, .int i7] s0 (some (.int r)) s0 := by
  rw [zf_V_good] at hf
  refine zc_of (cc := ze_V_good) (maxL := 8) (ret := (some .boolean)) (lv := [(0, .ref (h0 + a0)), (1, .long j1), (3, .long j3), (5, .long j5), (7, .int i7)]) (by decide) rfl (Nat.le_of_ble_eq_true rfl) rfl ?_
  intro p e s m args below meth c X hnm
  obtain ⟨hx, hb, hml, hown, htT, hrt, hlk, x00, hIn⟩ := id X
  have hK := hIn.2.1
  have hT := hIn.2.2.1
  have hNe := hIn.2.2.2
  have hR : zg_R { frames := 4, cells := zh_N s0 - zh_N s0, slots := zh_M s0 - zh_M s0, locals := 121 } (zh_N s0) (zh_M s0) s0 := ⟨by show zh_N s0 ≤ zh_N s0 + (zh_N s0 - zh_N s0); omega, by show zh_M s0 ≤ zh_M s0 + (zh_M s0 - zh_M s0); omega⟩
  have hF : 4 ≤ ({ frames := 4, cells := zh_N s0 - zh_N s0, slots := zh_M s0 - zh_M s0, locals := 121 } : Room).frames ∧ 121 ≤ ({ frames := 4, cells := zh_N s0 - zh_N s0, slots := zh_M s0 - zh_M s0, locals := 121 } : Room).locals := ⟨Nat.le_refl _, Nat.le_refl _⟩
  have hret := fun (hz : r = 0 ∨ r = 1) (pc : Nat) (lv : List (Nat × Value)) (hd : decode ze_V_good pc = .ok (.ireturn, 1)) => zg_iret (R := { frames := 4, cells := zh_N s0 - zh_N s0, slots := zh_M s0 - zh_M s0, locals := 121 }) (l := l) (e := e) (below := below) (c0 := zh_N s0) (s0 := zh_M s0) (z := s0) (lv := lv) (v := r) X (zx_nz hz) hd
  refine zg_1 (pc' := 1) (fun _ _ _ _ _ hl w => lv_lload_n hx hb zd_V_good_0 rfl (lv_at hl 1 rfl) w) ?_
  refine zg_1 (pc' := 2) (fun _ _ _ _ _ hl w => lv_lload_n hx hb zd_V_good_1 rfl (lv_at hl 2 rfl) w) ?_
  refine zg_1 (pc' := 4) (fun _ _ _ _ _ hl w => lv_lload hx hb zd_V_good_2 (lv_at hl 3 rfl) w) ?_
  refine zg_1 (pc' := 6) (fun _ _ _ _ _ hl w => lv_iload hx hb zd_V_good_4 (lv_at hl 4 rfl) w) ?_
  obtain ⟨i_1, hq, hf⟩ := zx_p hf
  refine zg_call (pc' := 9) (y := s0) (rv := (some (.int i_1))) (rest := []) X hR ⟨Nat.le_refl _, Nat.le_refl _⟩ (fun H locs ls k j hsz hI hU hk => va_runS (As := [.long j1, .long j3, .long j5, .int i7]) (rest := []) ⟨hx, hb, hml, hown, htT⟩ (zc_Numbers_isGood l h0 D dA tb n hq) (va_cwS 4 htT (zw_gS zt_778 zt_611 zt_73 zt_612) rfl rfl rfl (by decide +kernel) ⟨Nat.le_trans (Nat.le_of_ble_eq_true rfl) hF.1, Nat.le_trans (Nat.le_of_ble_eq_true rfl) hF.2⟩) (zg_pre hU) rfl rfl hsz rfl (lv_room (Nat.le_of_ble_eq_true rfl)) zd_V_good_6 hk) rfl ?_
  obtain ⟨h_2, hf⟩ := zx_ck hf
  obtain rfl := zx_r1 hf
  exact hret h_2 _ _ zd_V_good_9
set_option maxHeartbeats 4000000 in
theorem zc_M_in (l : Launch) (h0 : Nat) (D : va_G) (dA : Nat → ClassId) (tb : Nat → Nat) (n : Nat) {s0 : zh_S} {j0 : Int64} {j2 : Int64} {j4 : Int64} {r : Int32} (hf : zf_M_in n j0 j2 j4 = some r) : zc_M l zn_M_in zs_M_in 0 0 h0 D dA tb [.long j0, .long j2, .long j4] s0 (some (.int r)) s0 := by
  rw [zf_M_in] at hf
  refine zc_of (cc := ze_M_in) (maxL := 6) (ret := (some .boolean)) (lv := [(0, .long j0), (2, .long j2), (4, .long j4)]) (by decide) rfl (Nat.le_of_ble_eq_true rfl) rfl ?_
  intro p e s m args below meth c X hnm
  obtain ⟨hx, hb, hml, hown, htT, hrt, hlk, x00, hIn⟩ := id X
  have hK := hIn.2.1
  have hT := hIn.2.2.1
  have hNe := hIn.2.2.2
  have hR : zg_R { frames := 0, cells := zh_N s0 - zh_N s0, slots := zh_M s0 - zh_M s0, locals := 0 } (zh_N s0) (zh_M s0) s0 := ⟨by show zh_N s0 ≤ zh_N s0 + (zh_N s0 - zh_N s0); omega, by show zh_M s0 ≤ zh_M s0 + (zh_M s0 - zh_M s0); omega⟩
  have hF : 0 ≤ ({ frames := 0, cells := zh_N s0 - zh_N s0, slots := zh_M s0 - zh_M s0, locals := 0 } : Room).frames ∧ 0 ≤ ({ frames := 0, cells := zh_N s0 - zh_N s0, slots := zh_M s0 - zh_M s0, locals := 0 } : Room).locals := ⟨Nat.le_refl _, Nat.le_refl _⟩
  have hret := fun (hz : r = 0 ∨ r = 1) (pc : Nat) (lv : List (Nat × Value)) (hd : decode ze_M_in pc = .ok (.ireturn, 1)) => zg_iret (R := { frames := 0, cells := zh_N s0 - zh_N s0, slots := zh_M s0 - zh_M s0, locals := 0 }) (l := l) (e := e) (below := below) (c0 := zh_N s0) (s0 := zh_M s0) (z := s0) (lv := lv) (v := r) X (zx_nz hz) hd
  refine zg_1 (pc' := 1) (fun _ _ _ _ _ hl w => lv_lload_n hx hb zd_M_in_0 rfl (lv_at hl 0 rfl) w) ?_
  refine zg_1 (pc' := 2) (fun _ _ _ _ _ hl w => lv_lload_n hx hb zd_M_in_1 rfl (lv_at hl 1 rfl) w) ?_
  refine zg_1 (pc' := 3) (fun _ _ _ _ _ hl w => W.lcmp hx hb zd_M_in_2 w) ?_
  refine zg_2 (pc1 := 17) (pc2 := 6) (Classical.em _) (fun _ _ _ _ _ w1 w2 => lv_if_lt hx hb zd_M_in_3 (by decide) w1 w2) (fun hc => ?_) (fun hc => ?_)
  · rw [if_pos hc] at hf
    refine zg_1 (pc' := 18) (fun _ _ _ _ _ hl w => lv_iconst (v := (0 : Int32)) hx hb zd_M_in_17 (by decide) w) ?_
    obtain rfl := zx_r1 hf
    exact hret (Or.inl rfl) _ _ zd_M_in_18
  · rw [if_neg hc] at hf
    refine zg_1 (pc' := 7) (fun _ _ _ _ _ hl w => lv_lload_n hx hb zd_M_in_6 rfl (lv_at hl 0 rfl) w) ?_
    refine zg_1 (pc' := 9) (fun _ _ _ _ _ hl w => lv_lload hx hb zd_M_in_7 (lv_at hl 2 rfl) w) ?_
    refine zg_1 (pc' := 10) (fun _ _ _ _ _ hl w => W.lcmp hx hb zd_M_in_9 w) ?_
    refine zg_2 (pc1 := 17) (pc2 := 13) (Classical.em _) (fun _ _ _ _ _ w1 w2 => lv_if_gt hx hb zd_M_in_10 (by decide) w1 w2) (fun hc => ?_) (fun hc => ?_)
    · rw [if_pos hc] at hf
      refine zg_1 (pc' := 18) (fun _ _ _ _ _ hl w => lv_iconst (v := (0 : Int32)) hx hb zd_M_in_17 (by decide) w) ?_
      obtain rfl := zx_r1 hf
      exact hret (Or.inl rfl) _ _ zd_M_in_18
    · rw [if_neg hc] at hf
      refine zg_1 (pc' := 14) (fun _ _ _ _ _ hl w => lv_iconst (v := (1 : Int32)) hx hb zd_M_in_13 (by decide) w) ?_
      refine zg_1 (pc' := 18) (fun _ _ _ _ _ hl w => lv_goto hx hb zd_M_in_14 (by decide) w) ?_
      obtain rfl := zx_r1 hf
      exact hret (Or.inr rfl) _ _ zd_M_in_18
set_option maxHeartbeats 4000000 in
theorem zc_M_block (l : Launch) (h0 : Nat) (D : va_G) (dA : Nat → ClassId) (tb : Nat → Nat) (n : Nat) {s0 : zh_S} {i0 : Int32} {r : Int64} (hf : zf_M_block n i0 = some r) : zc_M l zn_M_block zs_M_block 0 0 h0 D dA tb [.int i0] s0 (some (.long r)) s0 := by
  rw [zf_M_block] at hf
  refine zc_of (cc := ze_M_block) (maxL := 1) (ret := (some .long)) (lv := [(0, .int i0)]) (by decide) rfl (Nat.le_of_ble_eq_true rfl) rfl ?_
  intro p e s m args below meth c X hnm
  obtain ⟨hx, hb, hml, hown, htT, hrt, hlk, x00, hIn⟩ := id X
  have hK := hIn.2.1
  have hT := hIn.2.2.1
  have hNe := hIn.2.2.2
  have hR : zg_R { frames := 0, cells := zh_N s0 - zh_N s0, slots := zh_M s0 - zh_M s0, locals := 0 } (zh_N s0) (zh_M s0) s0 := ⟨by show zh_N s0 ≤ zh_N s0 + (zh_N s0 - zh_N s0); omega, by show zh_M s0 ≤ zh_M s0 + (zh_M s0 - zh_M s0); omega⟩
  have hF : 0 ≤ ({ frames := 0, cells := zh_N s0 - zh_N s0, slots := zh_M s0 - zh_M s0, locals := 0 } : Room).frames ∧ 0 ≤ ({ frames := 0, cells := zh_N s0 - zh_N s0, slots := zh_M s0 - zh_M s0, locals := 0 } : Room).locals := ⟨Nat.le_refl _, Nat.le_refl _⟩
  have hret := fun (pc : Nat) (lv : List (Nat × Value)) (hd : decode ze_M_block pc = .ok (.lreturn, 1)) => zg_lret (R := { frames := 0, cells := zh_N s0 - zh_N s0, slots := zh_M s0 - zh_M s0, locals := 0 }) (l := l) (e := e) (below := below) (c0 := zh_N s0) (s0 := zh_M s0) (z := s0) (lv := lv) (v := r) X hd
  refine zg_1 (pc' := 3) (fun _ _ _ _ _ hl w => lv_ldc2 (v := (561850441793536 : Int64)) hx hb hown (htT _ zt_894) zd_M_block_0 w) ?_
  refine zg_1 (pc' := 4) (fun _ _ _ _ _ hl w => lv_iload_n hx hb zd_M_block_3 rfl (lv_at hl 0 rfl) w) ?_
  refine zg_1 (pc' := 5) (fun _ _ _ _ _ hl w => lv_i2l (v := i0.toInt64) hx hb zd_M_block_4 rfl w) ?_
  refine zg_1 (pc' := 8) (fun _ _ _ _ _ hl w => lv_ldc2 (v := (4294967295 : Int64)) hx hb hown (htT _ zt_895) zd_M_block_5 w) ?_
  refine zg_1 (pc' := 9) (fun _ _ _ _ _ hl w => lv_land hx hb zd_M_block_8 w) ?_
  refine zg_1 (pc' := 10) (fun _ _ _ _ _ hl w => lv_ladd hx hb zd_M_block_9 w) ?_
  obtain rfl := zx_r1 hf
  exact hret _ _ zd_M_block_10
set_option maxHeartbeats 4000000 in
theorem zw_M_times_38 {p : Program} {l : Launch} {e : Env} {R : Room} {s : State} {m : MethodId} {args : Array Value} {below : List Frame} {meth : Method} {c : Code} {Q : State → Prop} {h0 : Nat} {D : va_G} {dA : Nat → ClassId} {tb : Nat → Nat} {c0 k0 : Nat} {s0 : zh_S} {r : Int64} (X : zg_X p s m args meth c ze_M_times 12 zr_M (some .long) h0 D dA tb) (hR : zg_R R c0 k0 s0) (hF : 0 ≤ R.frames ∧ 0 ≤ R.locals) (hret : ∀ (pc : Nat) (lv : List (Nat × Value)), decode ze_M_times pc = .ok (.lreturn, 1) → zg_G p l e R s m args below meth c Q h0 D dA 12 c0 k0 s0 s0 pc lv [.long r]) (n : Nat) (r12 : Int64 → Int64 → Int64 → Int64 → Option Int64) (hr12 : ∀ (j4 : Int64) (j6 : Int64) (j8 : Int64) (j10 : Int64), r12 j4 j6 j8 j10 = some r → zg_G p l e R s m args below meth c Q h0 D dA 12 c0 k0 s0 s0 12 [(4, .long j4), (6, .long j6), (8, .long j8), (10, .long j10)] []) : ∀ (j4 : Int64) (j6 : Int64) (j8 : Int64) (j10 : Int64), zb_M_times_38 n r12 j4 j6 j8 j10 = some r → zg_G p l e R s m args below meth c Q h0 D dA 12 c0 k0 s0 s0 38 [(4, .long j4), (6, .long j6), (8, .long j8), (10, .long j10)] [] := by
  obtain ⟨hx, hb, hml, hown, htT, hrt, hlk, x00, hIn⟩ := id X
  have hK := hIn.2.1
  have hT := hIn.2.2.1
  have hNe := hIn.2.2.2
  intro j4 j6 j8 j10 hf
  rw [zb_M_times_38] at hf
  refine zg_1 (pc' := 40) (fun _ _ _ _ _ hl w => lv_lload hx hb zd_M_times_38 (lv_at hl 2 rfl) w) ?_
  refine zg_1 (pc' := 42) (fun _ _ _ _ _ hl w => lv_lload hx hb zd_M_times_40 (lv_at hl 2 rfl) w) ?_
  refine zg_1 (pc' := 43) (fun _ _ _ _ _ hl w => lv_ladd hx hb zd_M_times_42 w) ?_
  refine zg_1 (pc' := 45) (fun _ _ _ _ _ hl w => lv_lload hx hb zd_M_times_43 (lv_at hl 0 rfl) w) ?_
  obtain ⟨h_1, hf⟩ := zx_ck hf
  refine zg_1 (pc' := 46) (fun _ _ _ _ _ hl w => lv_lrem hx hb zd_M_times_45 h_1 w) ?_
  obtain ⟨j_2, e_j_2, hf⟩ := zx_l hf
  refine zg_tl e_j_2 ?_
  refine zg_s (pc' := 48) (lv' := [(8, .long j_2), (4, .long j4), (6, .long j6), (10, .long j10)]) (fun _ _ _ _ _ hl w => lv_lstore hx hb zd_M_times_46 hl (by decide) rfl w) ?_
  refine zg_1 (pc' := 50) (fun _ _ _ _ _ hl w => lv_lload hx hb zd_M_times_48 (lv_at hl 3 rfl) w) ?_
  refine zg_1 (pc' := 51) (fun _ _ _ _ _ hl w => lv_iconst (v := (1 : Int32)) hx hb zd_M_times_50 (by decide) w) ?_
  refine zg_1 (pc' := 52) (fun _ _ _ _ _ hl w => lv_lshr (v := (j10 >>> ((1 : Int32).toInt64 &&& 63))) hx hb zd_M_times_51 rfl w) ?_
  obtain ⟨j_3, e_j_3, hf⟩ := zx_l hf
  refine zg_tl e_j_3 ?_
  refine zg_s (pc' := 54) (lv' := [(10, .long j_3), (8, .long j_2), (4, .long j4), (6, .long j6)]) (fun _ _ _ _ _ hl w => lv_lstore hx hb zd_M_times_52 hl (by decide) rfl w) ?_
  refine zg_1 (pc' := 12) (fun _ _ _ _ _ hl w => lv_goto hx hb zd_M_times_54 (by decide) w) ?_
  refine zg_v [2, 3, 1, 0] rfl ?_
  exact hr12 j4 j6 j_2 j_3 hf
set_option maxHeartbeats 4000000 in
theorem zw_M_times_12 {p : Program} {l : Launch} {e : Env} {R : Room} {s : State} {m : MethodId} {args : Array Value} {below : List Frame} {meth : Method} {c : Code} {Q : State → Prop} {h0 : Nat} {D : va_G} {dA : Nat → ClassId} {tb : Nat → Nat} {c0 k0 : Nat} {s0 : zh_S} {r : Int64} (X : zg_X p s m args meth c ze_M_times 12 zr_M (some .long) h0 D dA tb) (hR : zg_R R c0 k0 s0) (hF : 0 ≤ R.frames ∧ 0 ≤ R.locals) (hret : ∀ (pc : Nat) (lv : List (Nat × Value)), decode ze_M_times pc = .ok (.lreturn, 1) → zg_G p l e R s m args below meth c Q h0 D dA 12 c0 k0 s0 s0 pc lv [.long r]) (n : Nat) (k : Nat) : ∀ (j4 : Int64) (j6 : Int64) (j8 : Int64) (j10 : Int64), zl_M_times_12 n k j4 j6 j8 j10 = some r → zg_G p l e R s m args below meth c Q h0 D dA 12 c0 k0 s0 s0 12 [(4, .long j4), (6, .long j6), (8, .long j8), (10, .long j10)] [] := by
  obtain ⟨hx, hb, hml, hown, htT, hrt, hlk, x00, hIn⟩ := id X
  have hK := hIn.2.1
  have hT := hIn.2.2.1
  have hNe := hIn.2.2.2
  induction k with
  | zero => intro j4 j6 j8 j10 hf; cases hf
  | succ k ih =>
    intro j4 j6 j8 j10 hf
    rw [zl_M_times_12] at hf
    refine zg_1 (pc' := 14) (fun _ _ _ _ _ hl w => lv_lload hx hb zd_M_times_12 (lv_at hl 3 rfl) w) ?_
    refine zg_1 (pc' := 15) (fun _ _ _ _ _ hl w => lv_lconst (v := (0 : Int64)) hx hb zd_M_times_14 (by decide) w) ?_
    refine zg_1 (pc' := 16) (fun _ _ _ _ _ hl w => W.lcmp hx hb zd_M_times_15 w) ?_
    refine zg_2 (pc1 := 57) (pc2 := 19) (Classical.em _) (fun _ _ _ _ _ w1 w2 => lv_if_le hx hb zd_M_times_16 (by decide) w1 w2) (fun hc => ?_) (fun hc => ?_)
    · rw [if_pos hc] at hf
      refine zg_1 (pc' := 59) (fun _ _ _ _ _ hl w => lv_lload hx hb zd_M_times_57 (lv_at hl 1 rfl) w) ?_
      obtain rfl := zx_r1 hf
      exact hret _ _ zd_M_times_59
    · rw [if_neg hc] at hf
      refine zg_1 (pc' := 21) (fun _ _ _ _ _ hl w => lv_lload hx hb zd_M_times_19 (lv_at hl 3 rfl) w) ?_
      refine zg_1 (pc' := 22) (fun _ _ _ _ _ hl w => lv_lconst (v := (1 : Int64)) hx hb zd_M_times_21 (by decide) w) ?_
      refine zg_1 (pc' := 23) (fun _ _ _ _ _ hl w => lv_land hx hb zd_M_times_22 w) ?_
      refine zg_1 (pc' := 24) (fun _ _ _ _ _ hl w => lv_lconst (v := (1 : Int64)) hx hb zd_M_times_23 (by decide) w) ?_
      refine zg_1 (pc' := 25) (fun _ _ _ _ _ hl w => W.lcmp hx hb zd_M_times_24 w) ?_
      refine zg_2 (pc1 := 38) (pc2 := 28) (Classical.em _).symm (fun _ _ _ _ _ w1 w2 => lv_if_ne hx hb zd_M_times_25 (by decide) w1 w2) (fun hc => ?_) (fun hc => ?_)
      · rw [if_neg hc] at hf
        exact zw_M_times_38 X hR hF hret n _ ih j4 j6 j8 j10 hf
      · rw [if_pos hc] at hf
        refine zg_1 (pc' := 30) (fun _ _ _ _ _ hl w => lv_lload hx hb zd_M_times_28 (lv_at hl 1 rfl) w) ?_
        refine zg_1 (pc' := 32) (fun _ _ _ _ _ hl w => lv_lload hx hb zd_M_times_30 (lv_at hl 2 rfl) w) ?_
        refine zg_1 (pc' := 33) (fun _ _ _ _ _ hl w => lv_ladd hx hb zd_M_times_32 w) ?_
        refine zg_1 (pc' := 35) (fun _ _ _ _ _ hl w => lv_lload hx hb zd_M_times_33 (lv_at hl 0 rfl) w) ?_
        obtain ⟨h_1, hf⟩ := zx_ck hf
        refine zg_1 (pc' := 36) (fun _ _ _ _ _ hl w => lv_lrem hx hb zd_M_times_35 h_1 w) ?_
        obtain ⟨j_2, e_j_2, hf⟩ := zx_l hf
        refine zg_tl e_j_2 ?_
        refine zg_s (pc' := 38) (lv' := [(6, .long j_2), (4, .long j4), (8, .long j8), (10, .long j10)]) (fun _ _ _ _ _ hl w => lv_lstore hx hb zd_M_times_36 hl (by decide) rfl w) ?_
        refine zg_v [1, 0, 2, 3] rfl ?_
        exact zw_M_times_38 X hR hF hret n _ ih j4 j_2 j8 j10 hf
set_option maxHeartbeats 4000000 in
theorem zc_M_times (l : Launch) (h0 : Nat) (D : va_G) (dA : Nat → ClassId) (tb : Nat → Nat) (n : Nat) {s0 : zh_S} {j0 : Int64} {j2 : Int64} {j4 : Int64} {r : Int64} (hf : zf_M_times n j0 j2 j4 = some r) : zc_M l zn_M_times zs_M_times 0 0 h0 D dA tb [.long j0, .long j2, .long j4] s0 (some (.long r)) s0 := by
  rw [zf_M_times] at hf
  refine zc_of (cc := ze_M_times) (maxL := 12) (ret := (some .long)) (lv := [(0, .long j0), (2, .long j2), (4, .long j4)]) (by decide) rfl (Nat.le_of_ble_eq_true rfl) rfl ?_
  intro p e s m args below meth c X hnm
  obtain ⟨hx, hb, hml, hown, htT, hrt, hlk, x00, hIn⟩ := id X
  have hK := hIn.2.1
  have hT := hIn.2.2.1
  have hNe := hIn.2.2.2
  have hR : zg_R { frames := 0, cells := zh_N s0 - zh_N s0, slots := zh_M s0 - zh_M s0, locals := 0 } (zh_N s0) (zh_M s0) s0 := ⟨by show zh_N s0 ≤ zh_N s0 + (zh_N s0 - zh_N s0); omega, by show zh_M s0 ≤ zh_M s0 + (zh_M s0 - zh_M s0); omega⟩
  have hF : 0 ≤ ({ frames := 0, cells := zh_N s0 - zh_N s0, slots := zh_M s0 - zh_M s0, locals := 0 } : Room).frames ∧ 0 ≤ ({ frames := 0, cells := zh_N s0 - zh_N s0, slots := zh_M s0 - zh_M s0, locals := 0 } : Room).locals := ⟨Nat.le_refl _, Nat.le_refl _⟩
  have hret := fun (pc : Nat) (lv : List (Nat × Value)) (hd : decode ze_M_times pc = .ok (.lreturn, 1)) => zg_lret (R := { frames := 0, cells := zh_N s0 - zh_N s0, slots := zh_M s0 - zh_M s0, locals := 0 }) (l := l) (e := e) (below := below) (c0 := zh_N s0) (s0 := zh_M s0) (z := s0) (lv := lv) (v := r) X hd
  refine zg_1 (pc' := 1) (fun _ _ _ _ _ hl w => lv_lconst (v := (0 : Int64)) hx hb zd_M_times_0 (by decide) w) ?_
  refine zg_s (pc' := 3) (lv' := [(6, .long (0 : Int64)), (0, .long j0), (2, .long j2), (4, .long j4)]) (fun _ _ _ _ _ hl w => lv_lstore hx hb zd_M_times_1 hl (by decide) rfl w) ?_
  refine zg_1 (pc' := 4) (fun _ _ _ _ _ hl w => lv_lload_n hx hb zd_M_times_3 rfl (lv_at hl 1 rfl) w) ?_
  refine zg_1 (pc' := 6) (fun _ _ _ _ _ hl w => lv_lload hx hb zd_M_times_4 (lv_at hl 3 rfl) w) ?_
  obtain ⟨h_1, hf⟩ := zx_ck hf
  refine zg_1 (pc' := 7) (fun _ _ _ _ _ hl w => lv_lrem hx hb zd_M_times_6 h_1 w) ?_
  obtain ⟨j_2, e_j_2, hf⟩ := zx_l hf
  refine zg_tl e_j_2 ?_
  refine zg_s (pc' := 9) (lv' := [(8, .long j_2), (6, .long (0 : Int64)), (0, .long j0), (2, .long j2), (4, .long j4)]) (fun _ _ _ _ _ hl w => lv_lstore hx hb zd_M_times_7 hl (by decide) rfl w) ?_
  refine zg_1 (pc' := 10) (fun _ _ _ _ _ hl w => lv_lload_n hx hb zd_M_times_9 rfl (lv_at hl 3 rfl) w) ?_
  refine zg_s (pc' := 12) (lv' := [(10, .long j2), (8, .long j_2), (6, .long (0 : Int64)), (0, .long j0), (2, .long j2), (4, .long j4)]) (fun _ _ _ _ _ hl w => lv_lstore hx hb zd_M_times_10 hl (by decide) rfl w) ?_
  refine zg_v [5, 2, 1, 0] rfl ?_
  exact zw_M_times_12 X hR hF hret n n j4 (0 : Int64) j_2 j2 hf
set_option maxHeartbeats 4000000 in
theorem zw_M_power_42 {p : Program} {l : Launch} {e : Env} {R : Room} {s : State} {m : MethodId} {args : Array Value} {below : List Frame} {meth : Method} {c : Code} {Q : State → Prop} {h0 : Nat} {D : va_G} {dA : Nat → ClassId} {tb : Nat → Nat} {c0 k0 : Nat} {s0 : zh_S} {r : Int64} (X : zg_X p s m args meth c ze_M_power 12 zr_M (some .long) h0 D dA tb) (hR : zg_R R c0 k0 s0) (hF : 1 ≤ R.frames ∧ 31 ≤ R.locals) (hret : ∀ (pc : Nat) (lv : List (Nat × Value)), decode ze_M_power pc = .ok (.lreturn, 1) → zg_G p l e R s m args below meth c Q h0 D dA 12 c0 k0 s0 s0 pc lv [.long r]) (n : Nat) (r15 : Int64 → Int64 → Int64 → Int64 → Option Int64) (hr15 : ∀ (j4 : Int64) (j6 : Int64) (j8 : Int64) (j10 : Int64), r15 j4 j6 j8 j10 = some r → zg_G p l e R s m args below meth c Q h0 D dA 12 c0 k0 s0 s0 15 [(4, .long j4), (6, .long j6), (8, .long j8), (10, .long j10)] []) : ∀ (j4 : Int64) (j6 : Int64) (j8 : Int64) (j10 : Int64), zb_M_power_42 n r15 j4 j6 j8 j10 = some r → zg_G p l e R s m args below meth c Q h0 D dA 12 c0 k0 s0 s0 42 [(4, .long j4), (6, .long j6), (8, .long j8), (10, .long j10)] [] := by
  obtain ⟨hx, hb, hml, hown, htT, hrt, hlk, x00, hIn⟩ := id X
  have hK := hIn.2.1
  have hT := hIn.2.2.1
  have hNe := hIn.2.2.2
  intro j4 j6 j8 j10 hf
  rw [zb_M_power_42] at hf
  refine zg_1 (pc' := 44) (fun _ _ _ _ _ hl w => lv_lload hx hb zd_M_power_42 (lv_at hl 2 rfl) w) ?_
  refine zg_1 (pc' := 46) (fun _ _ _ _ _ hl w => lv_lload hx hb zd_M_power_44 (lv_at hl 2 rfl) w) ?_
  refine zg_1 (pc' := 48) (fun _ _ _ _ _ hl w => lv_lload hx hb zd_M_power_46 (lv_at hl 0 rfl) w) ?_
  obtain ⟨j_1, hq, hf⟩ := zx_p hf
  refine zg_call (pc' := 51) (y := s0) (rv := (some (.long j_1))) (rest := []) X hR ⟨Nat.le_refl _, Nat.le_refl _⟩ (fun H locs ls k j hsz hI hU hk => va_runS (As := [.long j8, .long j8, .long j4]) (rest := []) ⟨hx, hb, hml, hown, htT⟩ (zc_M_times l h0 D dA tb n hq) (va_cwS 3 htT (zw_gS zt_899 zt_900 zt_71 zt_901) rfl rfl rfl (by decide +kernel) ⟨Nat.le_trans (Nat.le_of_ble_eq_true rfl) hF.1, Nat.le_trans (Nat.le_of_ble_eq_true rfl) hF.2⟩) (zg_pre hU) rfl rfl hsz rfl (lv_room (Nat.le_of_ble_eq_true rfl)) zd_M_power_48 hk) rfl ?_
  refine zg_s (pc' := 53) (lv' := [(8, .long j_1), (4, .long j4), (6, .long j6), (10, .long j10)]) (fun _ _ _ _ _ hl w => lv_lstore hx hb zd_M_power_51 hl (by decide) rfl w) ?_
  refine zg_1 (pc' := 55) (fun _ _ _ _ _ hl w => lv_lload hx hb zd_M_power_53 (lv_at hl 3 rfl) w) ?_
  refine zg_1 (pc' := 56) (fun _ _ _ _ _ hl w => lv_iconst (v := (1 : Int32)) hx hb zd_M_power_55 (by decide) w) ?_
  refine zg_1 (pc' := 57) (fun _ _ _ _ _ hl w => lv_lshr (v := (j10 >>> ((1 : Int32).toInt64 &&& 63))) hx hb zd_M_power_56 rfl w) ?_
  obtain ⟨j_2, e_j_2, hf⟩ := zx_l hf
  refine zg_tl e_j_2 ?_
  refine zg_s (pc' := 59) (lv' := [(10, .long j_2), (8, .long j_1), (4, .long j4), (6, .long j6)]) (fun _ _ _ _ _ hl w => lv_lstore hx hb zd_M_power_57 hl (by decide) rfl w) ?_
  refine zg_1 (pc' := 15) (fun _ _ _ _ _ hl w => lv_goto hx hb zd_M_power_59 (by decide) w) ?_
  refine zg_v [2, 3, 1, 0] rfl ?_
  exact hr15 j4 j6 j_1 j_2 hf
set_option maxHeartbeats 4000000 in
theorem zw_M_power_15 {p : Program} {l : Launch} {e : Env} {R : Room} {s : State} {m : MethodId} {args : Array Value} {below : List Frame} {meth : Method} {c : Code} {Q : State → Prop} {h0 : Nat} {D : va_G} {dA : Nat → ClassId} {tb : Nat → Nat} {c0 k0 : Nat} {s0 : zh_S} {r : Int64} (X : zg_X p s m args meth c ze_M_power 12 zr_M (some .long) h0 D dA tb) (hR : zg_R R c0 k0 s0) (hF : 1 ≤ R.frames ∧ 31 ≤ R.locals) (hret : ∀ (pc : Nat) (lv : List (Nat × Value)), decode ze_M_power pc = .ok (.lreturn, 1) → zg_G p l e R s m args below meth c Q h0 D dA 12 c0 k0 s0 s0 pc lv [.long r]) (n : Nat) (k : Nat) : ∀ (j4 : Int64) (j6 : Int64) (j8 : Int64) (j10 : Int64), zl_M_power_15 n k j4 j6 j8 j10 = some r → zg_G p l e R s m args below meth c Q h0 D dA 12 c0 k0 s0 s0 15 [(4, .long j4), (6, .long j6), (8, .long j8), (10, .long j10)] [] := by
  obtain ⟨hx, hb, hml, hown, htT, hrt, hlk, x00, hIn⟩ := id X
  have hK := hIn.2.1
  have hT := hIn.2.2.1
  have hNe := hIn.2.2.2
  induction k with
  | zero => intro j4 j6 j8 j10 hf; cases hf
  | succ k ih =>
    intro j4 j6 j8 j10 hf
    rw [zl_M_power_15] at hf
    refine zg_1 (pc' := 17) (fun _ _ _ _ _ hl w => lv_lload hx hb zd_M_power_15 (lv_at hl 3 rfl) w) ?_
    refine zg_1 (pc' := 18) (fun _ _ _ _ _ hl w => lv_lconst (v := (0 : Int64)) hx hb zd_M_power_17 (by decide) w) ?_
    refine zg_1 (pc' := 19) (fun _ _ _ _ _ hl w => W.lcmp hx hb zd_M_power_18 w) ?_
    refine zg_2 (pc1 := 62) (pc2 := 22) (Classical.em _) (fun _ _ _ _ _ w1 w2 => lv_if_le hx hb zd_M_power_19 (by decide) w1 w2) (fun hc => ?_) (fun hc => ?_)
    · rw [if_pos hc] at hf
      refine zg_1 (pc' := 64) (fun _ _ _ _ _ hl w => lv_lload hx hb zd_M_power_62 (lv_at hl 1 rfl) w) ?_
      obtain rfl := zx_r1 hf
      exact hret _ _ zd_M_power_64
    · rw [if_neg hc] at hf
      refine zg_1 (pc' := 24) (fun _ _ _ _ _ hl w => lv_lload hx hb zd_M_power_22 (lv_at hl 3 rfl) w) ?_
      refine zg_1 (pc' := 25) (fun _ _ _ _ _ hl w => lv_lconst (v := (1 : Int64)) hx hb zd_M_power_24 (by decide) w) ?_
      refine zg_1 (pc' := 26) (fun _ _ _ _ _ hl w => lv_land hx hb zd_M_power_25 w) ?_
      refine zg_1 (pc' := 27) (fun _ _ _ _ _ hl w => lv_lconst (v := (1 : Int64)) hx hb zd_M_power_26 (by decide) w) ?_
      refine zg_1 (pc' := 28) (fun _ _ _ _ _ hl w => W.lcmp hx hb zd_M_power_27 w) ?_
      refine zg_2 (pc1 := 42) (pc2 := 31) (Classical.em _).symm (fun _ _ _ _ _ w1 w2 => lv_if_ne hx hb zd_M_power_28 (by decide) w1 w2) (fun hc => ?_) (fun hc => ?_)
      · rw [if_neg hc] at hf
        exact zw_M_power_42 X hR hF hret n _ ih j4 j6 j8 j10 hf
      · rw [if_pos hc] at hf
        refine zg_1 (pc' := 33) (fun _ _ _ _ _ hl w => lv_lload hx hb zd_M_power_31 (lv_at hl 1 rfl) w) ?_
        refine zg_1 (pc' := 35) (fun _ _ _ _ _ hl w => lv_lload hx hb zd_M_power_33 (lv_at hl 2 rfl) w) ?_
        refine zg_1 (pc' := 37) (fun _ _ _ _ _ hl w => lv_lload hx hb zd_M_power_35 (lv_at hl 0 rfl) w) ?_
        obtain ⟨j_1, hq, hf⟩ := zx_p hf
        refine zg_call (pc' := 40) (y := s0) (rv := (some (.long j_1))) (rest := []) X hR ⟨Nat.le_refl _, Nat.le_refl _⟩ (fun H locs ls k j hsz hI hU hk => va_runS (As := [.long j6, .long j8, .long j4]) (rest := []) ⟨hx, hb, hml, hown, htT⟩ (zc_M_times l h0 D dA tb n hq) (va_cwS 3 htT (zw_gS zt_899 zt_900 zt_71 zt_901) rfl rfl rfl (by decide +kernel) ⟨Nat.le_trans (Nat.le_of_ble_eq_true rfl) hF.1, Nat.le_trans (Nat.le_of_ble_eq_true rfl) hF.2⟩) (zg_pre hU) rfl rfl hsz rfl (lv_room (Nat.le_of_ble_eq_true rfl)) zd_M_power_37 hk) rfl ?_
        refine zg_s (pc' := 42) (lv' := [(6, .long j_1), (4, .long j4), (8, .long j8), (10, .long j10)]) (fun _ _ _ _ _ hl w => lv_lstore hx hb zd_M_power_40 hl (by decide) rfl w) ?_
        refine zg_v [1, 0, 2, 3] rfl ?_
        exact zw_M_power_42 X hR hF hret n _ ih j4 j_1 j8 j10 hf
set_option maxHeartbeats 4000000 in
theorem zc_M_power (l : Launch) (h0 : Nat) (D : va_G) (dA : Nat → ClassId) (tb : Nat → Nat) (n : Nat) {s0 : zh_S} {j0 : Int64} {j2 : Int64} {j4 : Int64} {r : Int64} (hf : zf_M_power n j0 j2 j4 = some r) : zc_M l zn_M_power zs_M_power 1 31 h0 D dA tb [.long j0, .long j2, .long j4] s0 (some (.long r)) s0 := by
  rw [zf_M_power] at hf
  refine zc_of (cc := ze_M_power) (maxL := 12) (ret := (some .long)) (lv := [(0, .long j0), (2, .long j2), (4, .long j4)]) (by decide) rfl (Nat.le_of_ble_eq_true rfl) rfl ?_
  intro p e s m args below meth c X hnm
  obtain ⟨hx, hb, hml, hown, htT, hrt, hlk, x00, hIn⟩ := id X
  have hK := hIn.2.1
  have hT := hIn.2.2.1
  have hNe := hIn.2.2.2
  have hR : zg_R { frames := 1, cells := zh_N s0 - zh_N s0, slots := zh_M s0 - zh_M s0, locals := 31 } (zh_N s0) (zh_M s0) s0 := ⟨by show zh_N s0 ≤ zh_N s0 + (zh_N s0 - zh_N s0); omega, by show zh_M s0 ≤ zh_M s0 + (zh_M s0 - zh_M s0); omega⟩
  have hF : 1 ≤ ({ frames := 1, cells := zh_N s0 - zh_N s0, slots := zh_M s0 - zh_M s0, locals := 31 } : Room).frames ∧ 31 ≤ ({ frames := 1, cells := zh_N s0 - zh_N s0, slots := zh_M s0 - zh_M s0, locals := 31 } : Room).locals := ⟨Nat.le_refl _, Nat.le_refl _⟩
  have hret := fun (pc : Nat) (lv : List (Nat × Value)) (hd : decode ze_M_power pc = .ok (.lreturn, 1)) => zg_lret (R := { frames := 1, cells := zh_N s0 - zh_N s0, slots := zh_M s0 - zh_M s0, locals := 31 }) (l := l) (e := e) (below := below) (c0 := zh_N s0) (s0 := zh_M s0) (z := s0) (lv := lv) (v := r) X hd
  refine zg_1 (pc' := 1) (fun _ _ _ _ _ hl w => lv_lconst (v := (1 : Int64)) hx hb zd_M_power_0 (by decide) w) ?_
  refine zg_1 (pc' := 3) (fun _ _ _ _ _ hl w => lv_lload hx hb zd_M_power_1 (lv_at hl 2 rfl) w) ?_
  obtain ⟨h_1, hf⟩ := zx_ck hf
  refine zg_1 (pc' := 4) (fun _ _ _ _ _ hl w => lv_lrem hx hb zd_M_power_3 h_1 w) ?_
  obtain ⟨j_2, e_j_2, hf⟩ := zx_l hf
  refine zg_tl e_j_2 ?_
  refine zg_s (pc' := 6) (lv' := [(6, .long j_2), (0, .long j0), (2, .long j2), (4, .long j4)]) (fun _ _ _ _ _ hl w => lv_lstore hx hb zd_M_power_4 hl (by decide) rfl w) ?_
  refine zg_1 (pc' := 7) (fun _ _ _ _ _ hl w => lv_lload_n hx hb zd_M_power_6 rfl (lv_at hl 1 rfl) w) ?_
  refine zg_1 (pc' := 9) (fun _ _ _ _ _ hl w => lv_lload hx hb zd_M_power_7 (lv_at hl 3 rfl) w) ?_
  obtain ⟨h_3, hf⟩ := zx_ck hf
  refine zg_1 (pc' := 10) (fun _ _ _ _ _ hl w => lv_lrem hx hb zd_M_power_9 h_3 w) ?_
  obtain ⟨j_4, e_j_4, hf⟩ := zx_l hf
  refine zg_tl e_j_4 ?_
  refine zg_s (pc' := 12) (lv' := [(8, .long j_4), (6, .long j_2), (0, .long j0), (2, .long j2), (4, .long j4)]) (fun _ _ _ _ _ hl w => lv_lstore hx hb zd_M_power_10 hl (by decide) rfl w) ?_
  refine zg_1 (pc' := 13) (fun _ _ _ _ _ hl w => lv_lload_n hx hb zd_M_power_12 rfl (lv_at hl 3 rfl) w) ?_
  refine zg_s (pc' := 15) (lv' := [(10, .long j2), (8, .long j_4), (6, .long j_2), (0, .long j0), (2, .long j2), (4, .long j4)]) (fun _ _ _ _ _ hl w => lv_lstore hx hb zd_M_power_13 hl (by decide) rfl w) ?_
  refine zg_v [5, 2, 1, 0] rfl ?_
  exact zw_M_power_15 X hR hF hret n n j4 j_2 j_4 j2 hf
set_option maxHeartbeats 4000000 in
theorem zc_M_good (l : Launch) (h0 : Nat) (D : va_G) (dA : Nat → ClassId) (tb : Nat → Nat) (n : Nat) {s0 : zh_S} {a0 : Nat} {j1 : Int64} {j3 : Int64} {j5 : Int64} {i7 : Int32} {r : Int32} (hf : zf_M_good n a0 j1 j3 j5 i7 = some r) : zc_M l zn_M_good zs_M_good 2 62 h0 D dA tb [.ref (h0 + a0), .long j1, .long j3, .long j5, .int i7] s0 (some (.int r)) s0 := by
  rw [zf_M_good] at hf
  refine zc_of (cc := ze_M_good) (maxL := 10) (ret := (some .boolean)) (lv := [(0, .ref (h0 + a0)), (1, .long j1), (3, .long j3), (5, .long j5), (7, .int i7)]) (by decide) rfl (Nat.le_of_ble_eq_true rfl) rfl ?_
  intro p e s m args below meth c X hnm
  obtain ⟨hx, hb, hml, hown, htT, hrt, hlk, x00, hIn⟩ := id X
  have hK := hIn.2.1
  have hT := hIn.2.2.1
  have hNe := hIn.2.2.2
  have hR : zg_R { frames := 2, cells := zh_N s0 - zh_N s0, slots := zh_M s0 - zh_M s0, locals := 62 } (zh_N s0) (zh_M s0) s0 := ⟨by show zh_N s0 ≤ zh_N s0 + (zh_N s0 - zh_N s0); omega, by show zh_M s0 ≤ zh_M s0 + (zh_M s0 - zh_M s0); omega⟩
  have hF : 2 ≤ ({ frames := 2, cells := zh_N s0 - zh_N s0, slots := zh_M s0 - zh_M s0, locals := 62 } : Room).frames ∧ 62 ≤ ({ frames := 2, cells := zh_N s0 - zh_N s0, slots := zh_M s0 - zh_M s0, locals := 62 } : Room).locals := ⟨Nat.le_refl _, Nat.le_refl _⟩
  have hret := fun (hz : r = 0 ∨ r = 1) (pc : Nat) (lv : List (Nat × Value)) (hd : decode ze_M_good pc = .ok (.ireturn, 1)) => zg_iret (R := { frames := 2, cells := zh_N s0 - zh_N s0, slots := zh_M s0 - zh_M s0, locals := 62 }) (l := l) (e := e) (below := below) (c0 := zh_N s0) (s0 := zh_M s0) (z := s0) (lv := lv) (v := r) X (zx_nz hz) hd
  refine zg_1 (pc' := 1) (fun _ _ _ _ _ hl w => lv_lload_n hx hb zd_M_good_0 rfl (lv_at hl 1 rfl) w) ?_
  refine zg_1 (pc' := 2) (fun _ _ _ _ _ hl w => lv_lconst (v := (0 : Int64)) hx hb zd_M_good_1 (by decide) w) ?_
  refine zg_1 (pc' := 3) (fun _ _ _ _ _ hl w => W.lcmp hx hb zd_M_good_2 w) ?_
  refine zg_2 (pc1 := 49) (pc2 := 6) (Classical.em _) (fun _ _ _ _ _ w1 w2 => lv_if_lt hx hb zd_M_good_3 (by decide) w1 w2) (fun hc => ?_) (fun hc => ?_)
  · rw [if_pos hc] at hf
    refine zg_1 (pc' := 50) (fun _ _ _ _ _ hl w => lv_iconst (v := (0 : Int32)) hx hb zd_M_good_49 (by decide) w) ?_
    obtain rfl := zx_r1 hf
    exact hret (Or.inl rfl) _ _ zd_M_good_50
  · rw [if_neg hc] at hf
    refine zg_1 (pc' := 7) (fun _ _ _ _ _ hl w => lv_lload_n hx hb zd_M_good_6 rfl (lv_at hl 2 rfl) w) ?_
    refine zg_1 (pc' := 10) (fun _ _ _ _ _ hl w => lv_ldc2 (v := (2 : Int64)) hx hb hown (htT _ zt_906) zd_M_good_7 w) ?_
    obtain ⟨h_1, hf⟩ := zx_ck hf
    refine zg_1 (pc' := 11) (fun _ _ _ _ _ hl w => lv_lrem hx hb zd_M_good_10 h_1 w) ?_
    refine zg_1 (pc' := 12) (fun _ _ _ _ _ hl w => lv_lconst (v := (1 : Int64)) hx hb zd_M_good_11 (by decide) w) ?_
    refine zg_1 (pc' := 13) (fun _ _ _ _ _ hl w => W.lcmp hx hb zd_M_good_12 w) ?_
    refine zg_2 (pc1 := 49) (pc2 := 16) (Classical.em _).symm (fun _ _ _ _ _ w1 w2 => lv_if_ne hx hb zd_M_good_13 (by decide) w1 w2) (fun hc => ?_) (fun hc => ?_)
    · rw [if_neg hc] at hf
      refine zg_1 (pc' := 50) (fun _ _ _ _ _ hl w => lv_iconst (v := (0 : Int32)) hx hb zd_M_good_49 (by decide) w) ?_
      obtain rfl := zx_r1 hf
      exact hret (Or.inl rfl) _ _ zd_M_good_50
    · rw [if_pos hc] at hf
      refine zg_1 (pc' := 17) (fun _ _ _ _ _ hl w => lv_lload_n hx hb zd_M_good_16 rfl (lv_at hl 2 rfl) w) ?_
      refine zg_1 (pc' := 20) (fun _ _ _ _ _ hl w => lv_ldc2 (v := (144115188075855872 : Int64)) hx hb hown (htT _ zt_907) zd_M_good_17 w) ?_
      refine zg_1 (pc' := 23) (fun _ _ _ _ _ hl w => lv_ldc2 (v := (4611686018427387903 : Int64)) hx hb hown (htT _ zt_908) zd_M_good_20 w) ?_
      obtain ⟨i_2, hq, hf⟩ := zx_p hf
      refine zg_call (pc' := 26) (y := s0) (rv := (some (.int i_2))) (rest := []) X hR ⟨Nat.le_refl _, Nat.le_refl _⟩ (fun H locs ls k j hsz hI hU hk => va_runS (As := [.long j3, .long (144115188075855872 : Int64), .long (4611686018427387903 : Int64)]) (rest := []) ⟨hx, hb, hml, hown, htT⟩ (zc_M_in l h0 D dA tb n hq) (va_cwS 3 htT (zw_gS zt_909 zt_910 zt_71 zt_911) rfl rfl rfl (by decide +kernel) ⟨Nat.le_trans (Nat.le_of_ble_eq_true rfl) hF.1, Nat.le_trans (Nat.le_of_ble_eq_true rfl) hF.2⟩) (zg_pre hU) rfl rfl hsz rfl (lv_room (Nat.le_of_ble_eq_true rfl)) zd_M_good_23 hk) rfl ?_
      refine zg_2 (pc1 := 49) (pc2 := 29) (Classical.em _) (fun _ _ _ _ _ w1 w2 => lv_if_eq hx hb zd_M_good_26 (by decide) w1 w2) (fun hc => ?_) (fun hc => ?_)
      · rw [if_pos hc] at hf
        refine zg_1 (pc' := 50) (fun _ _ _ _ _ hl w => lv_iconst (v := (0 : Int32)) hx hb zd_M_good_49 (by decide) w) ?_
        obtain rfl := zx_r1 hf
        exact hret (Or.inl rfl) _ _ zd_M_good_50
      · rw [if_neg hc] at hf
        refine zg_1 (pc' := 31) (fun _ _ _ _ _ hl w => lv_lload hx hb zd_M_good_29 (lv_at hl 3 rfl) w) ?_
        refine zg_1 (pc' := 34) (fun _ _ _ _ _ hl w => lv_ldc2 (v := (3 : Int64)) hx hb hown (htT _ zt_791) zd_M_good_31 w) ?_
        refine zg_1 (pc' := 37) (fun _ _ _ _ _ hl w => lv_ldc2 (v := (2147483647 : Int64)) hx hb hown (htT _ zt_912) zd_M_good_34 w) ?_
        obtain ⟨i_3, hq, hf⟩ := zx_p hf
        refine zg_call (pc' := 40) (y := s0) (rv := (some (.int i_3))) (rest := []) X hR ⟨Nat.le_refl _, Nat.le_refl _⟩ (fun H locs ls k j hsz hI hU hk => va_runS (As := [.long j5, .long (3 : Int64), .long (2147483647 : Int64)]) (rest := []) ⟨hx, hb, hml, hown, htT⟩ (zc_M_in l h0 D dA tb n hq) (va_cwS 3 htT (zw_gS zt_909 zt_910 zt_71 zt_911) rfl rfl rfl (by decide +kernel) ⟨Nat.le_trans (Nat.le_of_ble_eq_true rfl) hF.1, Nat.le_trans (Nat.le_of_ble_eq_true rfl) hF.2⟩) (zg_pre hU) rfl rfl hsz rfl (lv_room (Nat.le_of_ble_eq_true rfl)) zd_M_good_37 hk) rfl ?_
        refine zg_2 (pc1 := 49) (pc2 := 43) (Classical.em _) (fun _ _ _ _ _ w1 w2 => lv_if_eq hx hb zd_M_good_40 (by decide) w1 w2) (fun hc => ?_) (fun hc => ?_)
        · rw [if_pos hc] at hf
          refine zg_1 (pc' := 50) (fun _ _ _ _ _ hl w => lv_iconst (v := (0 : Int32)) hx hb zd_M_good_49 (by decide) w) ?_
          obtain rfl := zx_r1 hf
          exact hret (Or.inl rfl) _ _ zd_M_good_50
        · rw [if_neg hc] at hf
          refine zg_1 (pc' := 44) (fun _ _ _ _ _ hl w => lv_lload_n hx hb zd_M_good_43 rfl (lv_at hl 1 rfl) w) ?_
          refine zg_1 (pc' := 45) (fun _ _ _ _ _ hl w => lv_lload_n hx hb zd_M_good_44 rfl (lv_at hl 2 rfl) w) ?_
          refine zg_1 (pc' := 46) (fun _ _ _ _ _ hl w => W.lcmp hx hb zd_M_good_45 w) ?_
          refine zg_2 (pc1 := 51) (pc2 := 49) (Classical.em _) (fun _ _ _ _ _ w1 w2 => lv_if_lt hx hb zd_M_good_46 (by decide) w1 w2) (fun hc => ?_) (fun hc => ?_)
          · rw [if_pos hc] at hf
            refine zg_1 (pc' := 53) (fun _ _ _ _ _ hl w => lv_iload hx hb zd_M_good_51 (lv_at hl 4 rfl) w) ?_
            obtain ⟨j_4, hq, hf⟩ := zx_p hf
            refine zg_call (pc' := 56) (y := s0) (rv := (some (.long j_4))) (rest := []) X hR ⟨Nat.le_refl _, Nat.le_refl _⟩ (fun H locs ls k j hsz hI hU hk => va_runS (As := [.int i7]) (rest := []) ⟨hx, hb, hml, hown, htT⟩ (zc_M_block l h0 D dA tb n hq) (va_cwS 1 htT (zw_gS zt_891 zt_892 zt_71 zt_893) rfl rfl rfl (by decide +kernel) ⟨Nat.le_trans (Nat.le_of_ble_eq_true rfl) hF.1, Nat.le_trans (Nat.le_of_ble_eq_true rfl) hF.2⟩) (zg_pre hU) rfl rfl hsz rfl (lv_room (Nat.le_of_ble_eq_true rfl)) zd_M_good_53 hk) rfl ?_
            refine zg_s (pc' := 58) (lv' := [(8, .long j_4), (0, .ref (h0 + a0)), (1, .long j1), (3, .long j3), (5, .long j5), (7, .int i7)]) (fun _ _ _ _ _ hl w => lv_lstore hx hb zd_M_good_56 hl (by decide) rfl w) ?_
            refine zg_1 (pc' := 59) (fun _ _ _ _ _ hl w => lv_lload_n hx hb zd_M_good_58 rfl (lv_at hl 2 rfl) w) ?_
            refine zg_1 (pc' := 61) (fun _ _ _ _ _ hl w => lv_lload hx hb zd_M_good_59 (lv_at hl 4 rfl) w) ?_
            refine zg_1 (pc' := 62) (fun _ _ _ _ _ hl w => lv_lload_n hx hb zd_M_good_61 rfl (lv_at hl 3 rfl) w) ?_
            obtain ⟨j_5, hq, hf⟩ := zx_p hf
            refine zg_call (pc' := 65) (y := s0) (rv := (some (.long j_5))) (rest := []) X hR ⟨Nat.le_refl _, Nat.le_refl _⟩ (fun H locs ls k j hsz hI hU hk => va_runS (As := [.long j1, .long j5, .long j3]) (rest := []) ⟨hx, hb, hml, hown, htT⟩ (zc_M_power l h0 D dA tb n hq) (va_cwS 3 htT (zw_gS zt_896 zt_897 zt_71 zt_898) rfl rfl rfl (by decide +kernel) ⟨Nat.le_trans (Nat.le_of_ble_eq_true rfl) hF.1, Nat.le_trans (Nat.le_of_ble_eq_true rfl) hF.2⟩) (zg_pre hU) rfl rfl hsz rfl (lv_room (Nat.le_of_ble_eq_true rfl)) zd_M_good_62 hk) rfl ?_
            refine zg_1 (pc' := 67) (fun _ _ _ _ _ hl w => lv_lload hx hb zd_M_good_65 (lv_at hl 0 rfl) w) ?_
            refine zg_1 (pc' := 68) (fun _ _ _ _ _ hl w => W.lcmp hx hb zd_M_good_67 w) ?_
            refine zg_2 (pc1 := 75) (pc2 := 71) (Classical.em _).symm (fun _ _ _ _ _ w1 w2 => lv_if_ne hx hb zd_M_good_68 (by decide) w1 w2) (fun hc => ?_) (fun hc => ?_)
            · rw [if_neg hc] at hf
              refine zg_1 (pc' := 76) (fun _ _ _ _ _ hl w => lv_iconst (v := (0 : Int32)) hx hb zd_M_good_75 (by decide) w) ?_
              obtain rfl := zx_r1 hf
              exact hret (Or.inl rfl) _ _ zd_M_good_76
            · rw [if_pos hc] at hf
              refine zg_1 (pc' := 72) (fun _ _ _ _ _ hl w => lv_iconst (v := (1 : Int32)) hx hb zd_M_good_71 (by decide) w) ?_
              refine zg_1 (pc' := 76) (fun _ _ _ _ _ hl w => lv_goto hx hb zd_M_good_72 (by decide) w) ?_
              obtain rfl := zx_r1 hf
              exact hret (Or.inr rfl) _ _ zd_M_good_76
          · rw [if_neg hc] at hf
            refine zg_1 (pc' := 50) (fun _ _ _ _ _ hl w => lv_iconst (v := (0 : Int32)) hx hb zd_M_good_49 (by decide) w) ?_
            obtain rfl := zx_r1 hf
            exact hret (Or.inl rfl) _ _ zd_M_good_50
set_option maxHeartbeats 4000000 in
theorem zc_Numbers_isKey (l : Launch) (h0 : Nat) (D : va_G) (dA : Nat → ClassId) (tb : Nat → Nat) (n : Nat) {s0 : zh_S} {j0 : Int64} {r : Int32} (hf : zf_Numbers_isKey n j0 = some r) : zc_M l zn_Numbers_isKey zs_Numbers_isKey 0 0 h0 D dA tb [.long j0] s0 (some (.int r)) s0 := by
  rw [zf_Numbers_isKey] at hf
  refine zc_of (cc := ze_Numbers_isKey) (maxL := 2) (ret := (some .boolean)) (lv := [(0, .long j0)]) (by decide) rfl (Nat.le_of_ble_eq_true rfl) rfl ?_
  intro p e s m args below meth c X hnm
  obtain ⟨hx, hb, hml, hown, htT, hrt, hlk, x00, hIn⟩ := id X
  have hK := hIn.2.1
  have hT := hIn.2.2.1
  have hNe := hIn.2.2.2
  have hR : zg_R { frames := 0, cells := zh_N s0 - zh_N s0, slots := zh_M s0 - zh_M s0, locals := 0 } (zh_N s0) (zh_M s0) s0 := ⟨by show zh_N s0 ≤ zh_N s0 + (zh_N s0 - zh_N s0); omega, by show zh_M s0 ≤ zh_M s0 + (zh_M s0 - zh_M s0); omega⟩
  have hF : 0 ≤ ({ frames := 0, cells := zh_N s0 - zh_N s0, slots := zh_M s0 - zh_M s0, locals := 0 } : Room).frames ∧ 0 ≤ ({ frames := 0, cells := zh_N s0 - zh_N s0, slots := zh_M s0 - zh_M s0, locals := 0 } : Room).locals := ⟨Nat.le_refl _, Nat.le_refl _⟩
  have hret := fun (hz : r = 0 ∨ r = 1) (pc : Nat) (lv : List (Nat × Value)) (hd : decode ze_Numbers_isKey pc = .ok (.ireturn, 1)) => zg_iret (R := { frames := 0, cells := zh_N s0 - zh_N s0, slots := zh_M s0 - zh_M s0, locals := 0 }) (l := l) (e := e) (below := below) (c0 := zh_N s0) (s0 := zh_M s0) (z := s0) (lv := lv) (v := r) X (zx_nz hz) hd
  refine zg_1 (pc' := 1) (fun _ _ _ _ _ hl w => lv_lload_n hx hb zd_Numbers_isKey_0 rfl (lv_at hl 0 rfl) w) ?_
  refine zg_1 (pc' := 2) (fun _ _ _ _ _ hl w => lv_lconst (v := (0 : Int64)) hx hb zd_Numbers_isKey_1 (by decide) w) ?_
  refine zg_1 (pc' := 3) (fun _ _ _ _ _ hl w => W.lcmp hx hb zd_Numbers_isKey_2 w) ?_
  refine zg_2 (pc1 := 20) (pc2 := 6) (Classical.em _) (fun _ _ _ _ _ w1 w2 => lv_if_lt hx hb zd_Numbers_isKey_3 (by decide) w1 w2) (fun hc => ?_) (fun hc => ?_)
  · rw [if_pos hc] at hf
    refine zg_1 (pc' := 21) (fun _ _ _ _ _ hl w => lv_iconst (v := (0 : Int32)) hx hb zd_Numbers_isKey_20 (by decide) w) ?_
    obtain rfl := zx_r1 hf
    exact hret (Or.inl rfl) _ _ zd_Numbers_isKey_21
  · rw [if_neg hc] at hf
    refine zg_1 (pc' := 7) (fun _ _ _ _ _ hl w => lv_lload_n hx hb zd_Numbers_isKey_6 rfl (lv_at hl 0 rfl) w) ?_
    refine zg_3 (pc' := 10) (fun _ _ _ _ _ hS hl w => va_gets hx hb hT.1.1 hS hown (htT _ zt_368) (fun _ h9 => h9) zd_Numbers_isKey_7 w) ?_
    refine zg_3 (pc' := 11) (fun _ _ _ _ _ hS hl w => va_tlen hx hb hT.1.2 hS rfl zd_Numbers_isKey_10 w) ?_
    refine zg_1 (pc' := 12) (fun _ _ _ _ _ hl w => lv_i2l (v := (6 : Int32).toInt64) hx hb zd_Numbers_isKey_11 rfl w) ?_
    refine zg_1 (pc' := 13) (fun _ _ _ _ _ hl w => W.lcmp hx hb zd_Numbers_isKey_12 w) ?_
    refine zg_2 (pc1 := 20) (pc2 := 16) (Classical.em _) (fun _ _ _ _ _ w1 w2 => lv_if_ge hx hb zd_Numbers_isKey_13 (by decide) w1 w2) (fun hc => ?_) (fun hc => ?_)
    · rw [if_pos hc] at hf
      refine zg_1 (pc' := 21) (fun _ _ _ _ _ hl w => lv_iconst (v := (0 : Int32)) hx hb zd_Numbers_isKey_20 (by decide) w) ?_
      obtain rfl := zx_r1 hf
      exact hret (Or.inl rfl) _ _ zd_Numbers_isKey_21
    · rw [if_neg hc] at hf
      refine zg_1 (pc' := 17) (fun _ _ _ _ _ hl w => lv_iconst (v := (1 : Int32)) hx hb zd_Numbers_isKey_16 (by decide) w) ?_
      refine zg_1 (pc' := 21) (fun _ _ _ _ _ hl w => lv_goto hx hb zd_Numbers_isKey_17 (by decide) w) ?_
      obtain rfl := zx_r1 hf
      exact hret (Or.inr rfl) _ _ zd_Numbers_isKey_21
set_option maxHeartbeats 4000000 in
theorem zc_Numbers_signature (l : Launch) (h0 : Nat) (D : va_G) (dA : Nat → ClassId) (tb : Nat → Nat) (n : Nat) {s0 : zh_S} {i0 : Int32} {i1 : Int32} {r : Int64} (hf : zf_Numbers_signature n i0 i1 = some r) : zc_M l zn_Numbers_signature zs_Numbers_signature 3 95 h0 D dA tb [.int i0, .int i1] s0 (some (.long r)) s0 := by
  rw [zf_Numbers_signature] at hf
  refine zc_of (cc := ze_Numbers_signature) (maxL := 2) (ret := (some .long)) (lv := [(0, .int i0), (1, .int i1)]) (by decide) rfl (Nat.le_of_ble_eq_true rfl) rfl ?_
  intro p e s m args below meth c X hnm
  obtain ⟨hx, hb, hml, hown, htT, hrt, hlk, x00, hIn⟩ := id X
  have hK := hIn.2.1
  have hT := hIn.2.2.1
  have hNe := hIn.2.2.2
  have hR : zg_R { frames := 3, cells := zh_N s0 - zh_N s0, slots := zh_M s0 - zh_M s0, locals := 95 } (zh_N s0) (zh_M s0) s0 := ⟨by show zh_N s0 ≤ zh_N s0 + (zh_N s0 - zh_N s0); omega, by show zh_M s0 ≤ zh_M s0 + (zh_M s0 - zh_M s0); omega⟩
  have hF : 3 ≤ ({ frames := 3, cells := zh_N s0 - zh_N s0, slots := zh_M s0 - zh_M s0, locals := 95 } : Room).frames ∧ 95 ≤ ({ frames := 3, cells := zh_N s0 - zh_N s0, slots := zh_M s0 - zh_M s0, locals := 95 } : Room).locals := ⟨Nat.le_refl _, Nat.le_refl _⟩
  have hret := fun (pc : Nat) (lv : List (Nat × Value)) (hd : decode ze_Numbers_signature pc = .ok (.lreturn, 1)) => zg_lret (R := { frames := 3, cells := zh_N s0 - zh_N s0, slots := zh_M s0 - zh_M s0, locals := 95 }) (l := l) (e := e) (below := below) (c0 := zh_N s0) (s0 := zh_M s0) (z := s0) (lv := lv) (v := r) X hd
  refine zg_1 (pc' := 1) (fun _ _ _ _ _ hl w => lv_iload_n hx hb zd_Numbers_signature_0 rfl (lv_at hl 1 rfl) w) ?_
  obtain ⟨j_1, hq, hf⟩ := zx_p hf
  refine zg_call (pc' := 4) (y := s0) (rv := (some (.long j_1))) (rest := []) X hR ⟨Nat.le_refl _, Nat.le_refl _⟩ (fun H locs ls k j hsz hI hU hk => va_runS (As := [.int i1]) (rest := []) ⟨hx, hb, hml, hown, htT⟩ (zc_Numbers_block l h0 D dA tb n hq) (va_cwS 1 htT (zw_gS zt_461 zt_462 zt_73 zt_463) rfl rfl rfl (by decide +kernel) ⟨Nat.le_trans (Nat.le_of_ble_eq_true rfl) hF.1, Nat.le_trans (Nat.le_of_ble_eq_true rfl) hF.2⟩) (zg_pre hU) rfl rfl hsz rfl (lv_room (Nat.le_of_ble_eq_true rfl)) zd_Numbers_signature_1 hk) rfl ?_
  refine zg_3 (pc' := 7) (fun _ _ _ _ _ hS hl w => va_gets hx hb hT.2.2.1 hS hown (htT _ zt_466) (fun _ h9 => h9) zd_Numbers_signature_4 w) ?_
  refine zg_1 (pc' := 8) (fun _ _ _ _ _ hl w => lv_iload_n hx hb zd_Numbers_signature_7 rfl (lv_at hl 0 rfl) w) ?_
  obtain ⟨h_2, hf⟩ := zx_ck hf
  refine zg_3 (pc' := 9) (fun _ _ _ _ _ hS hl w => va_tl hx hb hT.2.2.2 hS (zh_in h_2.1 h_2.2) rfl zd_Numbers_signature_8 w) ?_
  refine zg_3 (pc' := 12) (fun _ _ _ _ _ hS hl w => va_gets hx hb hT.1.1 hS hown (htT _ zt_368) (fun _ h9 => h9) zd_Numbers_signature_9 w) ?_
  refine zg_1 (pc' := 13) (fun _ _ _ _ _ hl w => lv_iload_n hx hb zd_Numbers_signature_12 rfl (lv_at hl 0 rfl) w) ?_
  obtain ⟨h_3, hf⟩ := zx_ck hf
  refine zg_3 (pc' := 14) (fun _ _ _ _ _ hS hl w => va_tl hx hb hT.1.2 hS (zh_in h_3.1 h_3.2) rfl zd_Numbers_signature_13 w) ?_
  obtain ⟨j_4, hq, hf⟩ := zx_p hf
  refine zg_call (pc' := 17) (y := s0) (rv := (some (.long j_4))) (rest := []) X hR ⟨Nat.le_refl _, Nat.le_refl _⟩ (fun H locs ls k j hsz hI hU hk => va_runS (As := [.long j_1, .long (zt_PRIVATE_EXPONENTS i0.toNatClampNeg), .long (zt_MODULI i0.toNatClampNeg)]) (rest := []) ⟨hx, hb, hml, hown, htT⟩ (zc_Numbers_power l h0 D dA tb n hq) (va_cwS 3 htT (zw_gS zt_468 zt_469 zt_73 zt_470) rfl rfl rfl (by decide +kernel) ⟨Nat.le_trans (Nat.le_of_ble_eq_true rfl) hF.1, Nat.le_trans (Nat.le_of_ble_eq_true rfl) hF.2⟩) (zg_pre hU) rfl rfl hsz rfl (lv_room (Nat.le_of_ble_eq_true rfl)) zd_Numbers_signature_14 hk) rfl ?_
  obtain rfl := zx_r1 hf
  exact hret _ _ zd_Numbers_signature_17
set_option maxHeartbeats 4000000 in
theorem zc_V_sign (l : Launch) (h0 : Nat) (D : va_G) (dA : Nat → ClassId) (tb : Nat → Nat) (n : Nat) {s0 : zh_S} {a0 : Nat} {i1 : Int32} {i2 : Int32} {r : Int64} (hf : zf_V_sign n a0 i1 i2 = some r) : zc_M l zn_V_sign zs_V_sign 4 116 h0 D dA tb [.ref (h0 + a0), .int i1, .int i2] s0 (some (.long r)) s0 := by
  rw [zf_V_sign] at hf
  refine zc_of (cc := ze_V_sign) (maxL := 3) (ret := (some .long)) (lv := [(0, .ref (h0 + a0)), (1, .int i1), (2, .int i2)]) (by decide) rfl (Nat.le_of_ble_eq_true rfl) rfl ?_
  intro p e s m args below meth c X hnm
  obtain ⟨hx, hb, hml, hown, htT, hrt, hlk, x00, hIn⟩ := id X
  have hK := hIn.2.1
  have hT := hIn.2.2.1
  have hNe := hIn.2.2.2
  have hR : zg_R { frames := 4, cells := zh_N s0 - zh_N s0, slots := zh_M s0 - zh_M s0, locals := 116 } (zh_N s0) (zh_M s0) s0 := ⟨by show zh_N s0 ≤ zh_N s0 + (zh_N s0 - zh_N s0); omega, by show zh_M s0 ≤ zh_M s0 + (zh_M s0 - zh_M s0); omega⟩
  have hF : 4 ≤ ({ frames := 4, cells := zh_N s0 - zh_N s0, slots := zh_M s0 - zh_M s0, locals := 116 } : Room).frames ∧ 116 ≤ ({ frames := 4, cells := zh_N s0 - zh_N s0, slots := zh_M s0 - zh_M s0, locals := 116 } : Room).locals := ⟨Nat.le_refl _, Nat.le_refl _⟩
  have hret := fun (pc : Nat) (lv : List (Nat × Value)) (hd : decode ze_V_sign pc = .ok (.lreturn, 1)) => zg_lret (R := { frames := 4, cells := zh_N s0 - zh_N s0, slots := zh_M s0 - zh_M s0, locals := 116 }) (l := l) (e := e) (below := below) (c0 := zh_N s0) (s0 := zh_M s0) (z := s0) (lv := lv) (v := r) X hd
  refine zg_1 (pc' := 1) (fun _ _ _ _ _ hl w => lv_iload_n hx hb zd_V_sign_0 rfl (lv_at hl 1 rfl) w) ?_
  refine zg_1 (pc' := 2) (fun _ _ _ _ _ hl w => lv_i2l (v := i1.toInt64) hx hb zd_V_sign_1 rfl w) ?_
  obtain ⟨i_1, hq, hf⟩ := zx_p hf
  refine zg_call (pc' := 5) (y := s0) (rv := (some (.int i_1))) (rest := []) X hR ⟨Nat.le_refl _, Nat.le_refl _⟩ (fun H locs ls k j hsz hI hU hk => va_runS (As := [.long (i1.toInt64)]) (rest := []) ⟨hx, hb, hml, hown, htT⟩ (zc_Numbers_isKey l h0 D dA tb n hq) (va_cwS 1 htT (zw_gS zt_772 zt_366 zt_73 zt_367) rfl rfl rfl (by decide +kernel) ⟨Nat.le_trans (Nat.le_of_ble_eq_true rfl) hF.1, Nat.le_trans (Nat.le_of_ble_eq_true rfl) hF.2⟩) (zg_pre hU) rfl rfl hsz rfl (lv_room (Nat.le_of_ble_eq_true rfl)) zd_V_sign_2 hk) rfl ?_
  refine zg_2 (pc1 := 16) (pc2 := 8) (Classical.em _) (fun _ _ _ _ _ w1 w2 => lv_if_eq hx hb zd_V_sign_5 (by decide) w1 w2) (fun hc => ?_) (fun hc => ?_)
  · rw [if_pos hc] at hf
    refine zg_1 (pc' := 19) (fun _ _ _ _ _ hl w => lv_ldc2 (v := (-1 : Int64)) hx hb hown (htT _ zt_635) zd_V_sign_16 w) ?_
    obtain rfl := zx_r1 hf
    exact hret _ _ zd_V_sign_19
  · rw [if_neg hc] at hf
    refine zg_1 (pc' := 9) (fun _ _ _ _ _ hl w => lv_iload_n hx hb zd_V_sign_8 rfl (lv_at hl 1 rfl) w) ?_
    refine zg_1 (pc' := 10) (fun _ _ _ _ _ hl w => lv_iload_n hx hb zd_V_sign_9 rfl (lv_at hl 2 rfl) w) ?_
    obtain ⟨j_2, hq, hf⟩ := zx_p hf
    refine zg_call (pc' := 13) (y := s0) (rv := (some (.long j_2))) (rest := []) X hR ⟨Nat.le_refl _, Nat.le_refl _⟩ (fun H locs ls k j hsz hI hU hk => va_runS (As := [.int i1, .int i2]) (rest := []) ⟨hx, hb, hml, hown, htT⟩ (zc_Numbers_signature l h0 D dA tb n hq) (va_cwS 2 htT (zw_gS zt_773 zt_459 zt_73 zt_460) rfl rfl rfl (by decide +kernel) ⟨Nat.le_trans (Nat.le_of_ble_eq_true rfl) hF.1, Nat.le_trans (Nat.le_of_ble_eq_true rfl) hF.2⟩) (zg_pre hU) rfl rfl hsz rfl (lv_room (Nat.le_of_ble_eq_true rfl)) zd_V_sign_10 hk) rfl ?_
    refine zg_1 (pc' := 19) (fun _ _ _ _ _ hl w => lv_goto hx hb zd_V_sign_13 (by decide) w) ?_
    obtain rfl := zx_r1 hf
    exact hret _ _ zd_V_sign_19
set_option maxHeartbeats 4000000 in
theorem zc_M_sign (l : Launch) (h0 : Nat) (D : va_G) (dA : Nat → ClassId) (tb : Nat → Nat) (n : Nat) {s0 : zh_S} {a0 : Nat} {i1 : Int32} {i2 : Int32} {r : Int64} (hf : zf_M_sign n s0 a0 i1 i2 = some r) : zc_M l zn_M_sign zs_M_sign 2 62 h0 D dA tb [.ref (h0 + a0), .int i1, .int i2] s0 (some (.long r)) s0 := by
  rw [zf_M_sign] at hf
  refine zc_of (cc := ze_M_sign) (maxL := 5) (ret := (some .long)) (lv := [(0, .ref (h0 + a0)), (1, .int i1), (2, .int i2)]) (by decide) rfl (Nat.le_of_ble_eq_true rfl) rfl ?_
  intro p e s m args below meth c X hnm
  obtain ⟨hx, hb, hml, hown, htT, hrt, hlk, x00, hIn⟩ := id X
  have hK := hIn.2.1
  have hT := hIn.2.2.1
  have hNe := hIn.2.2.2
  have hR : zg_R { frames := 2, cells := zh_N s0 - zh_N s0, slots := zh_M s0 - zh_M s0, locals := 62 } (zh_N s0) (zh_M s0) s0 := ⟨by show zh_N s0 ≤ zh_N s0 + (zh_N s0 - zh_N s0); omega, by show zh_M s0 ≤ zh_M s0 + (zh_M s0 - zh_M s0); omega⟩
  have hF : 2 ≤ ({ frames := 2, cells := zh_N s0 - zh_N s0, slots := zh_M s0 - zh_M s0, locals := 62 } : Room).frames ∧ 62 ≤ ({ frames := 2, cells := zh_N s0 - zh_N s0, slots := zh_M s0 - zh_M s0, locals := 62 } : Room).locals := ⟨Nat.le_refl _, Nat.le_refl _⟩
  have hret := fun (pc : Nat) (lv : List (Nat × Value)) (hd : decode ze_M_sign pc = .ok (.lreturn, 1)) => zg_lret (R := { frames := 2, cells := zh_N s0 - zh_N s0, slots := zh_M s0 - zh_M s0, locals := 62 }) (l := l) (e := e) (below := below) (c0 := zh_N s0) (s0 := zh_M s0) (z := s0) (lv := lv) (v := r) X hd
  refine zg_1 (pc' := 1) (fun _ _ _ _ _ hl w => lv_iload_n hx hb zd_M_sign_0 rfl (lv_at hl 1 rfl) w) ?_
  refine zg_2 (pc1 := 9) (pc2 := 4) (Classical.em _) (fun _ _ _ _ _ w1 w2 => lv_if_lt hx hb zd_M_sign_1 (by decide) w1 w2) (fun hc => ?_) (fun hc => ?_)
  · rw [if_pos hc] at hf
    refine zg_1 (pc' := 12) (fun _ _ _ _ _ hl w => lv_ldc2 (v := (-1 : Int64)) hx hb hown (htT _ zt_804) zd_M_sign_9 w) ?_
    obtain rfl := zx_r1 hf
    exact hret _ _ zd_M_sign_12
  · rw [if_neg hc] at hf
    refine zg_1 (pc' := 5) (fun _ _ _ _ _ hl w => lv_iload_n hx hb zd_M_sign_4 rfl (lv_at hl 1 rfl) w) ?_
    refine zg_1 (pc' := 6) (fun _ _ _ _ _ hl w => lv_iconst (v := (5 : Int32)) hx hb zd_M_sign_5 (by decide) w) ?_
    refine zg_2 (pc1 := 13) (pc2 := 9) (Classical.em _) (fun _ _ _ _ _ w1 w2 => lv_icmp_le hx hb zd_M_sign_6 (by decide) w1 w2) (fun hc => ?_) (fun hc => ?_)
    · rw [if_pos hc] at hf
      refine zg_1 (pc' := 14) (fun _ _ _ _ _ hl w => lv_iload_n hx hb zd_M_sign_13 rfl (lv_at hl 2 rfl) w) ?_
      obtain ⟨j_1, hq, hf⟩ := zx_p hf
      refine zg_call (pc' := 17) (y := s0) (rv := (some (.long j_1))) (rest := []) X hR ⟨Nat.le_refl _, Nat.le_refl _⟩ (fun H locs ls k j hsz hI hU hk => va_runS (As := [.int i2]) (rest := []) ⟨hx, hb, hml, hown, htT⟩ (zc_M_block l h0 D dA tb n hq) (va_cwS 1 htT (zw_gS zt_891 zt_892 zt_71 zt_893) rfl rfl rfl (by decide +kernel) ⟨Nat.le_trans (Nat.le_of_ble_eq_true rfl) hF.1, Nat.le_trans (Nat.le_of_ble_eq_true rfl) hF.2⟩) (zg_pre hU) rfl rfl hsz rfl (lv_room (Nat.le_of_ble_eq_true rfl)) zd_M_sign_14 hk) rfl ?_
      refine zg_s (pc' := 18) (lv' := [(3, .long j_1), (0, .ref (h0 + a0)), (1, .int i1), (2, .int i2)]) (fun _ _ _ _ _ hl w => lv_lstore_n hx hb zd_M_sign_17 rfl hl (by decide) rfl w) ?_
      refine zg_1 (pc' := 19) (fun _ _ _ _ _ hl w => lv_lload_n hx hb zd_M_sign_18 rfl (lv_at hl 0 rfl) w) ?_
      refine zg_1 (pc' := 20) (fun _ _ _ _ _ hl w => lv_aload_n hx hb zd_M_sign_19 rfl (lv_at hl 1 rfl) w) ?_
      obtain ⟨h_2, hf⟩ := zx_ck hf
      obtain ⟨a_3, h_4, hf⟩ := zx_p hf
      refine zg_get (pc' := 23) (ci := 8) hx hb htT zi_M hown hK h_2 rfl rfl 8 (by decide) (htT _ zt_813) (fun _ h9 => h9) (zx_hv h_4) zd_M_sign_20 rfl ?_
      refine zg_1 (pc' := 24) (fun _ _ _ _ _ hl w => lv_iload_n hx hb zd_M_sign_23 rfl (lv_at hl 2 rfl) w) ?_
      obtain ⟨h_5, hf⟩ := zx_ck hf
      refine zg_lald (pc' := 25) hx hb hK h_5 zd_M_sign_24 rfl ?_
      refine zg_1 (pc' := 26) (fun _ _ _ _ _ hl w => lv_aload_n hx hb zd_M_sign_25 rfl (lv_at hl 1 rfl) w) ?_
      obtain ⟨a_6, h_7, hf⟩ := zx_p hf
      refine zg_get (pc' := 29) (ci := 8) hx hb htT zi_M hown hK h_2 rfl rfl 6 (by decide) (htT _ zt_811) (fun _ h9 => h9) (zx_hv h_7) zd_M_sign_26 rfl ?_
      refine zg_1 (pc' := 30) (fun _ _ _ _ _ hl w => lv_iload_n hx hb zd_M_sign_29 rfl (lv_at hl 2 rfl) w) ?_
      obtain ⟨h_8, hf⟩ := zx_ck hf
      refine zg_lald (pc' := 31) hx hb hK h_8 zd_M_sign_30 rfl ?_
      obtain ⟨j_9, hq, hf⟩ := zx_p hf
      refine zg_call (pc' := 34) (y := s0) (rv := (some (.long j_9))) (rest := []) X hR ⟨Nat.le_refl _, Nat.le_refl _⟩ (fun H locs ls k j hsz hI hU hk => va_runS (As := [.long j_1, .long (zh_J s0 a_3 (i1.toNatClampNeg)), .long (zh_J s0 a_6 (i1.toNatClampNeg))]) (rest := []) ⟨hx, hb, hml, hown, htT⟩ (zc_M_power l h0 D dA tb n hq) (va_cwS 3 htT (zw_gS zt_896 zt_897 zt_71 zt_898) rfl rfl rfl (by decide +kernel) ⟨Nat.le_trans (Nat.le_of_ble_eq_true rfl) hF.1, Nat.le_trans (Nat.le_of_ble_eq_true rfl) hF.2⟩) (zg_pre hU) rfl rfl hsz rfl (lv_room (Nat.le_of_ble_eq_true rfl)) zd_M_sign_31 hk) rfl ?_
      obtain rfl := zx_r1 hf
      exact hret _ _ zd_M_sign_34
    · rw [if_neg hc] at hf
      refine zg_1 (pc' := 12) (fun _ _ _ _ _ hl w => lv_ldc2 (v := (-1 : Int64)) hx hb hown (htT _ zt_804) zd_M_sign_9 w) ?_
      obtain rfl := zx_r1 hf
      exact hret _ _ zd_M_sign_12
set_option maxHeartbeats 4000000 in
theorem zc_V_candidates (l : Launch) (h0 : Nat) (D : va_G) (dA : Nat → ClassId) (tb : Nat → Nat) (n : Nat) {s0 : zh_S} {a0 : Nat} {r : Int32} (hf : zf_V_candidates n s0 a0 = some r) : zc_M l zn_V_candidates zs_V_candidates 0 0 h0 D dA tb [.ref (h0 + a0)] s0 (some (.int r)) s0 := by
  rw [zf_V_candidates] at hf
  refine zc_of (cc := ze_V_candidates) (maxL := 1) (ret := (some .int)) (lv := [(0, .ref (h0 + a0))]) (by decide) rfl (Nat.le_of_ble_eq_true rfl) rfl ?_
  intro p e s m args below meth c X hnm
  obtain ⟨hx, hb, hml, hown, htT, hrt, hlk, x00, hIn⟩ := id X
  have hK := hIn.2.1
  have hT := hIn.2.2.1
  have hNe := hIn.2.2.2
  have hR : zg_R { frames := 0, cells := zh_N s0 - zh_N s0, slots := zh_M s0 - zh_M s0, locals := 0 } (zh_N s0) (zh_M s0) s0 := ⟨by show zh_N s0 ≤ zh_N s0 + (zh_N s0 - zh_N s0); omega, by show zh_M s0 ≤ zh_M s0 + (zh_M s0 - zh_M s0); omega⟩
  have hF : 0 ≤ ({ frames := 0, cells := zh_N s0 - zh_N s0, slots := zh_M s0 - zh_M s0, locals := 0 } : Room).frames ∧ 0 ≤ ({ frames := 0, cells := zh_N s0 - zh_N s0, slots := zh_M s0 - zh_M s0, locals := 0 } : Room).locals := ⟨Nat.le_refl _, Nat.le_refl _⟩
  have hret := fun (pc : Nat) (lv : List (Nat × Value)) (hd : decode ze_V_candidates pc = .ok (.ireturn, 1)) => zg_iret (R := { frames := 0, cells := zh_N s0 - zh_N s0, slots := zh_M s0 - zh_M s0, locals := 0 }) (l := l) (e := e) (below := below) (c0 := zh_N s0) (s0 := zh_M s0) (z := s0) (lv := lv) (v := r) X rfl hd
  refine zg_1 (pc' := 1) (fun _ _ _ _ _ hl w => lv_aload_n hx hb zd_V_candidates_0 rfl (lv_at hl 0 rfl) w) ?_
  obtain ⟨h_1, hf⟩ := zx_ck hf
  have ho := zx_o hf
  clear hf
  rcases ho with ⟨eo, hf⟩ | ⟨a_2, eo, hf⟩
  · skip
    refine zg_get (pc' := 4) (ci := 7) hx hb htT zi_V hown hK h_1 rfl rfl 3 (by decide) (htT _ zt_305) (fun _ h9 => h9) (zx_hn eo) zd_V_candidates_1 rfl ?_
    refine zg_1 (pc' := 7) (fun _ _ _ _ _ hl w => lv_ifnonnullN hx hb zd_V_candidates_4 w) ?_
    refine zg_1 (pc' := 8) (fun _ _ _ _ _ hl w => lv_iconst (v := (0 : Int32)) hx hb zd_V_candidates_7 (by decide) w) ?_
    refine zg_1 (pc' := 18) (fun _ _ _ _ _ hl w => lv_goto hx hb zd_V_candidates_8 (by decide) w) ?_
    obtain rfl := zx_r1 hf
    exact hret _ _ zd_V_candidates_18
  · skip
    refine zg_get (pc' := 4) (ci := 7) hx hb htT zi_V hown hK h_1 rfl rfl 3 (by decide) (htT _ zt_305) (fun _ h9 => h9) (zx_hv eo) zd_V_candidates_1 rfl ?_
    refine zg_1 (pc' := 11) (fun _ _ _ _ _ hl w => lv_ifnonnull hx hb zd_V_candidates_4 (by decide) w) ?_
    refine zg_1 (pc' := 12) (fun _ _ _ _ _ hl w => lv_aload_n hx hb zd_V_candidates_11 rfl (lv_at hl 0 rfl) w) ?_
    have ho := zx_o hf
    clear hf
    rcases ho with ⟨eo, hf⟩ | ⟨a_3, eo, hf⟩
    · skip
      refine zg_get (pc' := 15) (ci := 7) hx hb htT zi_V hown hK h_1 rfl rfl 3 (by decide) (htT _ zt_305) (fun _ h9 => h9) (zx_hn eo) zd_V_candidates_12 rfl ?_
      cases hf
    · skip
      refine zg_get (pc' := 15) (ci := 7) hx hb htT zi_V hown hK h_1 rfl rfl 3 (by decide) (htT _ zt_305) (fun _ h9 => h9) (zx_hv eo) zd_V_candidates_12 rfl ?_
      obtain ⟨h_4, hf⟩ := zx_ck hf
      refine zg_get (pc' := 18) (ci := 4) hx hb htT zi_Search hown hK h_4 rfl rfl 7 (by decide) (htT _ zt_663) (fun _ h9 => h9) rfl zd_V_candidates_15 rfl ?_
      obtain rfl := zx_r1 hf
      exact hret _ _ zd_V_candidates_18
set_option maxHeartbeats 4000000 in
theorem zc_M_candidates (l : Launch) (h0 : Nat) (D : va_G) (dA : Nat → ClassId) (tb : Nat → Nat) (n : Nat) {s0 : zh_S} {a0 : Nat} {r : Int32} (hf : zf_M_candidates n s0 a0 = some r) : zc_M l zn_M_candidates zs_M_candidates 0 0 h0 D dA tb [.ref (h0 + a0)] s0 (some (.int r)) s0 := by
  rw [zf_M_candidates] at hf
  refine zc_of (cc := ze_M_candidates) (maxL := 1) (ret := (some .int)) (lv := [(0, .ref (h0 + a0))]) (by decide) rfl (Nat.le_of_ble_eq_true rfl) rfl ?_
  intro p e s m args below meth c X hnm
  obtain ⟨hx, hb, hml, hown, htT, hrt, hlk, x00, hIn⟩ := id X
  have hK := hIn.2.1
  have hT := hIn.2.2.1
  have hNe := hIn.2.2.2
  have hR : zg_R { frames := 0, cells := zh_N s0 - zh_N s0, slots := zh_M s0 - zh_M s0, locals := 0 } (zh_N s0) (zh_M s0) s0 := ⟨by show zh_N s0 ≤ zh_N s0 + (zh_N s0 - zh_N s0); omega, by show zh_M s0 ≤ zh_M s0 + (zh_M s0 - zh_M s0); omega⟩
  have hF : 0 ≤ ({ frames := 0, cells := zh_N s0 - zh_N s0, slots := zh_M s0 - zh_M s0, locals := 0 } : Room).frames ∧ 0 ≤ ({ frames := 0, cells := zh_N s0 - zh_N s0, slots := zh_M s0 - zh_M s0, locals := 0 } : Room).locals := ⟨Nat.le_refl _, Nat.le_refl _⟩
  have hret := fun (pc : Nat) (lv : List (Nat × Value)) (hd : decode ze_M_candidates pc = .ok (.ireturn, 1)) => zg_iret (R := { frames := 0, cells := zh_N s0 - zh_N s0, slots := zh_M s0 - zh_M s0, locals := 0 }) (l := l) (e := e) (below := below) (c0 := zh_N s0) (s0 := zh_M s0) (z := s0) (lv := lv) (v := r) X rfl hd
  refine zg_1 (pc' := 1) (fun _ _ _ _ _ hl w => lv_aload_n hx hb zd_M_candidates_0 rfl (lv_at hl 0 rfl) w) ?_
  obtain ⟨h_1, hf⟩ := zx_ck hf
  refine zg_get (pc' := 4) (ci := 8) hx hb htT zi_M hown hK h_1 rfl rfl 25 (by decide) (htT _ zt_830) (fun _ h9 => h9) rfl zd_M_candidates_1 rfl ?_
  obtain rfl := zx_r1 hf
  exact hret _ _ zd_M_candidates_4
set_option maxHeartbeats 4000000 in
theorem zc_Search_foundAt (l : Launch) (h0 : Nat) (D : va_G) (dA : Nat → ClassId) (tb : Nat → Nat) (n : Nat) {s0 : zh_S} {a0 : Nat} {i1 : Int32} {r : Int32} (hf : zf_Search_foundAt n s0 a0 i1 = some r) : zc_M l zn_Search_foundAt zs_Search_foundAt 0 0 h0 D dA tb [.ref (h0 + a0), .int i1] s0 (some (.int r)) s0 := by
  rw [zf_Search_foundAt] at hf
  refine zc_of (cc := ze_Search_foundAt) (maxL := 2) (ret := (some .int)) (lv := [(0, .ref (h0 + a0)), (1, .int i1)]) (by decide) rfl (Nat.le_of_ble_eq_true rfl) rfl ?_
  intro p e s m args below meth c X hnm
  obtain ⟨hx, hb, hml, hown, htT, hrt, hlk, x00, hIn⟩ := id X
  have hK := hIn.2.1
  have hT := hIn.2.2.1
  have hNe := hIn.2.2.2
  have hR : zg_R { frames := 0, cells := zh_N s0 - zh_N s0, slots := zh_M s0 - zh_M s0, locals := 0 } (zh_N s0) (zh_M s0) s0 := ⟨by show zh_N s0 ≤ zh_N s0 + (zh_N s0 - zh_N s0); omega, by show zh_M s0 ≤ zh_M s0 + (zh_M s0 - zh_M s0); omega⟩
  have hF : 0 ≤ ({ frames := 0, cells := zh_N s0 - zh_N s0, slots := zh_M s0 - zh_M s0, locals := 0 } : Room).frames ∧ 0 ≤ ({ frames := 0, cells := zh_N s0 - zh_N s0, slots := zh_M s0 - zh_M s0, locals := 0 } : Room).locals := ⟨Nat.le_refl _, Nat.le_refl _⟩
  have hret := fun (pc : Nat) (lv : List (Nat × Value)) (hd : decode ze_Search_foundAt pc = .ok (.ireturn, 1)) => zg_iret (R := { frames := 0, cells := zh_N s0 - zh_N s0, slots := zh_M s0 - zh_M s0, locals := 0 }) (l := l) (e := e) (below := below) (c0 := zh_N s0) (s0 := zh_M s0) (z := s0) (lv := lv) (v := r) X rfl hd
  refine zg_1 (pc' := 1) (fun _ _ _ _ _ hl w => lv_iload_n hx hb zd_Search_foundAt_0 rfl (lv_at hl 1 rfl) w) ?_
  refine zg_2 (pc1 := 28) (pc2 := 4) (Classical.em _) (fun _ _ _ _ _ w1 w2 => lv_if_lt hx hb zd_Search_foundAt_1 (by decide) w1 w2) (fun hc => ?_) (fun hc => ?_)
  · rw [if_pos hc] at hf
    refine zg_1 (pc' := 29) (fun _ _ _ _ _ hl w => lv_iconst (v := (-1 : Int32)) hx hb zd_Search_foundAt_28 (by decide) w) ?_
    obtain rfl := zx_r1 hf
    exact hret _ _ zd_Search_foundAt_29
  · rw [if_neg hc] at hf
    refine zg_1 (pc' := 5) (fun _ _ _ _ _ hl w => lv_iload_n hx hb zd_Search_foundAt_4 rfl (lv_at hl 1 rfl) w) ?_
    refine zg_1 (pc' := 6) (fun _ _ _ _ _ hl w => lv_aload_n hx hb zd_Search_foundAt_5 rfl (lv_at hl 0 rfl) w) ?_
    obtain ⟨h_1, hf⟩ := zx_ck hf
    refine zg_get (pc' := 9) (ci := 4) hx hb htT zi_Search hown hK h_1 rfl rfl 5 (by decide) (htT _ zt_660) (fun _ h9 => h9) rfl zd_Search_foundAt_6 rfl ?_
    refine zg_2 (pc1 := 28) (pc2 := 12) (Classical.em _) (fun _ _ _ _ _ w1 w2 => lv_icmp_ge hx hb zd_Search_foundAt_9 (by decide) w1 w2) (fun hc => ?_) (fun hc => ?_)
    · rw [if_pos hc] at hf
      refine zg_1 (pc' := 29) (fun _ _ _ _ _ hl w => lv_iconst (v := (-1 : Int32)) hx hb zd_Search_foundAt_28 (by decide) w) ?_
      obtain rfl := zx_r1 hf
      exact hret _ _ zd_Search_foundAt_29
    · rw [if_neg hc] at hf
      refine zg_1 (pc' := 13) (fun _ _ _ _ _ hl w => lv_aload_n hx hb zd_Search_foundAt_12 rfl (lv_at hl 0 rfl) w) ?_
      obtain ⟨a_2, h_3, hf⟩ := zx_p hf
      refine zg_get (pc' := 16) (ci := 4) hx hb htT zi_Search hown hK h_1 rfl rfl 4 (by decide) (htT _ zt_659) (fun _ h9 => h9) (zx_hv h_3) zd_Search_foundAt_13 rfl ?_
      refine zg_1 (pc' := 17) (fun _ _ _ _ _ hl w => lv_aload_n hx hb zd_Search_foundAt_16 rfl (lv_at hl 0 rfl) w) ?_
      refine zg_get (pc' := 20) (ci := 4) hx hb htT zi_Search hown hK h_1 rfl rfl 5 (by decide) (htT _ zt_660) (fun _ h9 => h9) rfl zd_Search_foundAt_17 rfl ?_
      refine zg_1 (pc' := 21) (fun _ _ _ _ _ hl w => lv_iconst (v := (1 : Int32)) hx hb zd_Search_foundAt_20 (by decide) w) ?_
      refine zg_1 (pc' := 22) (fun _ _ _ _ _ hl w => lv_isub hx hb zd_Search_foundAt_21 w) ?_
      refine zg_1 (pc' := 23) (fun _ _ _ _ _ hl w => lv_iload_n hx hb zd_Search_foundAt_22 rfl (lv_at hl 1 rfl) w) ?_
      refine zg_1 (pc' := 24) (fun _ _ _ _ _ hl w => lv_isub hx hb zd_Search_foundAt_23 w) ?_
      obtain ⟨h_4, hf⟩ := zx_ck hf
      refine zg_iald (pc' := 25) hx hb hK h_4 zd_Search_foundAt_24 rfl ?_
      refine zg_1 (pc' := 29) (fun _ _ _ _ _ hl w => lv_goto hx hb zd_Search_foundAt_25 (by decide) w) ?_
      obtain rfl := zx_r1 hf
      exact hret _ _ zd_Search_foundAt_29
set_option maxHeartbeats 4000000 in
theorem zc_V_chain (l : Launch) (h0 : Nat) (D : va_G) (dA : Nat → ClassId) (tb : Nat → Nat) (n : Nat) {s0 : zh_S} {a0 : Nat} {i1 : Int32} {r : Int32} (hf : zf_V_chain n s0 a0 i1 = some r) : zc_M l zn_V_chain zs_V_chain 1 21 h0 D dA tb [.ref (h0 + a0), .int i1] s0 (some (.int r)) s0 := by
  rw [zf_V_chain] at hf
  refine zc_of (cc := ze_V_chain) (maxL := 2) (ret := (some .int)) (lv := [(0, .ref (h0 + a0)), (1, .int i1)]) (by decide) rfl (Nat.le_of_ble_eq_true rfl) rfl ?_
  intro p e s m args below meth c X hnm
  obtain ⟨hx, hb, hml, hown, htT, hrt, hlk, x00, hIn⟩ := id X
  have hK := hIn.2.1
  have hT := hIn.2.2.1
  have hNe := hIn.2.2.2
  have hR : zg_R { frames := 1, cells := zh_N s0 - zh_N s0, slots := zh_M s0 - zh_M s0, locals := 21 } (zh_N s0) (zh_M s0) s0 := ⟨by show zh_N s0 ≤ zh_N s0 + (zh_N s0 - zh_N s0); omega, by show zh_M s0 ≤ zh_M s0 + (zh_M s0 - zh_M s0); omega⟩
  have hF : 1 ≤ ({ frames := 1, cells := zh_N s0 - zh_N s0, slots := zh_M s0 - zh_M s0, locals := 21 } : Room).frames ∧ 21 ≤ ({ frames := 1, cells := zh_N s0 - zh_N s0, slots := zh_M s0 - zh_M s0, locals := 21 } : Room).locals := ⟨Nat.le_refl _, Nat.le_refl _⟩
  have hret := fun (pc : Nat) (lv : List (Nat × Value)) (hd : decode ze_V_chain pc = .ok (.ireturn, 1)) => zg_iret (R := { frames := 1, cells := zh_N s0 - zh_N s0, slots := zh_M s0 - zh_M s0, locals := 21 }) (l := l) (e := e) (below := below) (c0 := zh_N s0) (s0 := zh_M s0) (z := s0) (lv := lv) (v := r) X rfl hd
  refine zg_1 (pc' := 1) (fun _ _ _ _ _ hl w => lv_aload_n hx hb zd_V_chain_0 rfl (lv_at hl 0 rfl) w) ?_
  obtain ⟨h_1, hf⟩ := zx_ck hf
  have ho := zx_o hf
  clear hf
  rcases ho with ⟨eo, hf⟩ | ⟨a_2, eo, hf⟩
  · skip
    refine zg_get (pc' := 4) (ci := 7) hx hb htT zi_V hown hK h_1 rfl rfl 3 (by decide) (htT _ zt_305) (fun _ h9 => h9) (zx_hn eo) zd_V_chain_1 rfl ?_
    refine zg_1 (pc' := 7) (fun _ _ _ _ _ hl w => lv_ifnonnullN hx hb zd_V_chain_4 w) ?_
    refine zg_1 (pc' := 8) (fun _ _ _ _ _ hl w => lv_iconst (v := (-1 : Int32)) hx hb zd_V_chain_7 (by decide) w) ?_
    refine zg_1 (pc' := 19) (fun _ _ _ _ _ hl w => lv_goto hx hb zd_V_chain_8 (by decide) w) ?_
    obtain rfl := zx_r1 hf
    exact hret _ _ zd_V_chain_19
  · skip
    refine zg_get (pc' := 4) (ci := 7) hx hb htT zi_V hown hK h_1 rfl rfl 3 (by decide) (htT _ zt_305) (fun _ h9 => h9) (zx_hv eo) zd_V_chain_1 rfl ?_
    refine zg_1 (pc' := 11) (fun _ _ _ _ _ hl w => lv_ifnonnull hx hb zd_V_chain_4 (by decide) w) ?_
    refine zg_1 (pc' := 12) (fun _ _ _ _ _ hl w => lv_aload_n hx hb zd_V_chain_11 rfl (lv_at hl 0 rfl) w) ?_
    have ho := zx_o hf
    clear hf
    rcases ho with ⟨eo, hf⟩ | ⟨a_3, eo, hf⟩
    · skip
      refine zg_get (pc' := 15) (ci := 7) hx hb htT zi_V hown hK h_1 rfl rfl 3 (by decide) (htT _ zt_305) (fun _ h9 => h9) (zx_hn eo) zd_V_chain_12 rfl ?_
      refine zg_1 (pc' := 16) (fun _ _ _ _ _ hl w => lv_iload_n hx hb zd_V_chain_15 rfl (lv_at hl 1 rfl) w) ?_
      cases hf
    · skip
      refine zg_get (pc' := 15) (ci := 7) hx hb htT zi_V hown hK h_1 rfl rfl 3 (by decide) (htT _ zt_305) (fun _ h9 => h9) (zx_hv eo) zd_V_chain_12 rfl ?_
      refine zg_1 (pc' := 16) (fun _ _ _ _ _ hl w => lv_iload_n hx hb zd_V_chain_15 rfl (lv_at hl 1 rfl) w) ?_
      obtain ⟨h_4, hf⟩ := zx_ck hf
      obtain ⟨i_5, hq, hf⟩ := zx_p hf
      refine zg_call (pc' := 19) (y := s0) (rv := (some (.int i_5))) (rest := []) X hR ⟨Nat.le_refl _, Nat.le_refl _⟩ (fun H locs ls k j hsz hI hU hk => va_runV (As := [.int i1]) (rest := []) ⟨hx, hb, hml, hown, htT⟩ (zc_Search_foundAt l h0 D dA tb n hq) (cwV 1 htT (zw_gV zt_760 zt_761 zt_762 zt_76 zt_763) rfl rfl rfl (by decide +kernel) ⟨Nat.le_trans (Nat.le_of_ble_eq_true rfl) hF.1, Nat.le_trans (Nat.le_of_ble_eq_true rfl) hF.2⟩) ⟨(zg_pre hU).1, zg_recv hK hI h_4 rfl, (zg_pre hU).2⟩ rfl rfl hsz rfl (lv_room (Nat.le_of_ble_eq_true rfl)) zd_V_chain_16 hk) rfl ?_
      obtain rfl := zx_r1 hf
      exact hret _ _ zd_V_chain_19
set_option maxHeartbeats 4000000 in
theorem zc_M_chain (l : Launch) (h0 : Nat) (D : va_G) (dA : Nat → ClassId) (tb : Nat → Nat) (n : Nat) {s0 : zh_S} {a0 : Nat} {i1 : Int32} {r : Int32} (hf : zf_M_chain n s0 a0 i1 = some r) : zc_M l zn_M_chain zs_M_chain 0 0 h0 D dA tb [.ref (h0 + a0), .int i1] s0 (some (.int r)) s0 := by
  rw [zf_M_chain] at hf
  refine zc_of (cc := ze_M_chain) (maxL := 2) (ret := (some .int)) (lv := [(0, .ref (h0 + a0)), (1, .int i1)]) (by decide) rfl (Nat.le_of_ble_eq_true rfl) rfl ?_
  intro p e s m args below meth c X hnm
  obtain ⟨hx, hb, hml, hown, htT, hrt, hlk, x00, hIn⟩ := id X
  have hK := hIn.2.1
  have hT := hIn.2.2.1
  have hNe := hIn.2.2.2
  have hR : zg_R { frames := 0, cells := zh_N s0 - zh_N s0, slots := zh_M s0 - zh_M s0, locals := 0 } (zh_N s0) (zh_M s0) s0 := ⟨by show zh_N s0 ≤ zh_N s0 + (zh_N s0 - zh_N s0); omega, by show zh_M s0 ≤ zh_M s0 + (zh_M s0 - zh_M s0); omega⟩
  have hF : 0 ≤ ({ frames := 0, cells := zh_N s0 - zh_N s0, slots := zh_M s0 - zh_M s0, locals := 0 } : Room).frames ∧ 0 ≤ ({ frames := 0, cells := zh_N s0 - zh_N s0, slots := zh_M s0 - zh_M s0, locals := 0 } : Room).locals := ⟨Nat.le_refl _, Nat.le_refl _⟩
  have hret := fun (pc : Nat) (lv : List (Nat × Value)) (hd : decode ze_M_chain pc = .ok (.ireturn, 1)) => zg_iret (R := { frames := 0, cells := zh_N s0 - zh_N s0, slots := zh_M s0 - zh_M s0, locals := 0 }) (l := l) (e := e) (below := below) (c0 := zh_N s0) (s0 := zh_M s0) (z := s0) (lv := lv) (v := r) X rfl hd
  refine zg_1 (pc' := 1) (fun _ _ _ _ _ hl w => lv_iload_n hx hb zd_M_chain_0 rfl (lv_at hl 1 rfl) w) ?_
  refine zg_2 (pc1 := 12) (pc2 := 4) (Classical.em _) (fun _ _ _ _ _ w1 w2 => lv_if_lt hx hb zd_M_chain_1 (by decide) w1 w2) (fun hc => ?_) (fun hc => ?_)
  · rw [if_pos hc] at hf
    refine zg_1 (pc' := 13) (fun _ _ _ _ _ hl w => lv_iconst (v := (-1 : Int32)) hx hb zd_M_chain_12 (by decide) w) ?_
    refine zg_1 (pc' := 22) (fun _ _ _ _ _ hl w => lv_goto hx hb zd_M_chain_13 (by decide) w) ?_
    obtain rfl := zx_r1 hf
    exact hret _ _ zd_M_chain_22
  · rw [if_neg hc] at hf
    refine zg_1 (pc' := 5) (fun _ _ _ _ _ hl w => lv_iload_n hx hb zd_M_chain_4 rfl (lv_at hl 1 rfl) w) ?_
    refine zg_1 (pc' := 6) (fun _ _ _ _ _ hl w => lv_aload_n hx hb zd_M_chain_5 rfl (lv_at hl 0 rfl) w) ?_
    obtain ⟨h_1, hf⟩ := zx_ck hf
    refine zg_get (pc' := 9) (ci := 8) hx hb htT zi_M hown hK h_1 rfl rfl 24 (by decide) (htT _ zt_829) (fun _ h9 => h9) rfl zd_M_chain_6 rfl ?_
    refine zg_2 (pc1 := 16) (pc2 := 12) (Classical.em _) (fun _ _ _ _ _ w1 w2 => lv_icmp_lt hx hb zd_M_chain_9 (by decide) w1 w2) (fun hc => ?_) (fun hc => ?_)
    · rw [if_pos hc] at hf
      refine zg_1 (pc' := 17) (fun _ _ _ _ _ hl w => lv_aload_n hx hb zd_M_chain_16 rfl (lv_at hl 0 rfl) w) ?_
      obtain ⟨a_2, h_3, hf⟩ := zx_p hf
      refine zg_get (pc' := 20) (ci := 8) hx hb htT zi_M hown hK h_1 rfl rfl 23 (by decide) (htT _ zt_828) (fun _ h9 => h9) (zx_hv h_3) zd_M_chain_17 rfl ?_
      refine zg_1 (pc' := 21) (fun _ _ _ _ _ hl w => lv_iload_n hx hb zd_M_chain_20 rfl (lv_at hl 1 rfl) w) ?_
      obtain ⟨h_4, hf⟩ := zx_ck hf
      refine zg_iald (pc' := 22) hx hb hK h_4 zd_M_chain_21 rfl ?_
      obtain rfl := zx_r1 hf
      exact hret _ _ zd_M_chain_22
    · rw [if_neg hc] at hf
      refine zg_1 (pc' := 13) (fun _ _ _ _ _ hl w => lv_iconst (v := (-1 : Int32)) hx hb zd_M_chain_12 (by decide) w) ?_
      refine zg_1 (pc' := 22) (fun _ _ _ _ _ hl w => lv_goto hx hb zd_M_chain_13 (by decide) w) ?_
      obtain rfl := zx_r1 hf
      exact hret _ _ zd_M_chain_22
set_option maxHeartbeats 4000000 in
theorem zc_Shelf_hasCertificate (l : Launch) (h0 : Nat) (D : va_G) (dA : Nat → ClassId) (tb : Nat → Nat) (n : Nat) {s0 : zh_S} {a0 : Nat} {i1 : Int32} {r : Int32} (hf : zf_Shelf_hasCertificate n s0 a0 i1 = some r) : zc_M l zn_Shelf_hasCertificate zs_Shelf_hasCertificate 0 0 h0 D dA tb [.ref (h0 + a0), .int i1] s0 (some (.int r)) s0 := by
  rw [zf_Shelf_hasCertificate] at hf
  refine zc_of (cc := ze_Shelf_hasCertificate) (maxL := 2) (ret := (some .boolean)) (lv := [(0, .ref (h0 + a0)), (1, .int i1)]) (by decide) rfl (Nat.le_of_ble_eq_true rfl) rfl ?_
  intro p e s m args below meth c X hnm
  obtain ⟨hx, hb, hml, hown, htT, hrt, hlk, x00, hIn⟩ := id X
  have hK := hIn.2.1
  have hT := hIn.2.2.1
  have hNe := hIn.2.2.2
  have hR : zg_R { frames := 0, cells := zh_N s0 - zh_N s0, slots := zh_M s0 - zh_M s0, locals := 0 } (zh_N s0) (zh_M s0) s0 := ⟨by show zh_N s0 ≤ zh_N s0 + (zh_N s0 - zh_N s0); omega, by show zh_M s0 ≤ zh_M s0 + (zh_M s0 - zh_M s0); omega⟩
  have hF : 0 ≤ ({ frames := 0, cells := zh_N s0 - zh_N s0, slots := zh_M s0 - zh_M s0, locals := 0 } : Room).frames ∧ 0 ≤ ({ frames := 0, cells := zh_N s0 - zh_N s0, slots := zh_M s0 - zh_M s0, locals := 0 } : Room).locals := ⟨Nat.le_refl _, Nat.le_refl _⟩
  have hret := fun (hz : r = 0 ∨ r = 1) (pc : Nat) (lv : List (Nat × Value)) (hd : decode ze_Shelf_hasCertificate pc = .ok (.ireturn, 1)) => zg_iret (R := { frames := 0, cells := zh_N s0 - zh_N s0, slots := zh_M s0 - zh_M s0, locals := 0 }) (l := l) (e := e) (below := below) (c0 := zh_N s0) (s0 := zh_M s0) (z := s0) (lv := lv) (v := r) X (zx_nz hz) hd
  refine zg_1 (pc' := 1) (fun _ _ _ _ _ hl w => lv_iload_n hx hb zd_Shelf_hasCertificate_0 rfl (lv_at hl 1 rfl) w) ?_
  refine zg_2 (pc1 := 16) (pc2 := 4) (Classical.em _) (fun _ _ _ _ _ w1 w2 => lv_if_lt hx hb zd_Shelf_hasCertificate_1 (by decide) w1 w2) (fun hc => ?_) (fun hc => ?_)
  · rw [if_pos hc] at hf
    refine zg_1 (pc' := 17) (fun _ _ _ _ _ hl w => lv_iconst (v := (0 : Int32)) hx hb zd_Shelf_hasCertificate_16 (by decide) w) ?_
    obtain rfl := zx_r1 hf
    exact hret (Or.inl rfl) _ _ zd_Shelf_hasCertificate_17
  · rw [if_neg hc] at hf
    refine zg_1 (pc' := 5) (fun _ _ _ _ _ hl w => lv_iload_n hx hb zd_Shelf_hasCertificate_4 rfl (lv_at hl 1 rfl) w) ?_
    refine zg_1 (pc' := 6) (fun _ _ _ _ _ hl w => lv_aload_n hx hb zd_Shelf_hasCertificate_5 rfl (lv_at hl 0 rfl) w) ?_
    obtain ⟨h_1, hf⟩ := zx_ck hf
    refine zg_get (pc' := 9) (ci := 5) hx hb htT zi_Shelf hown hK h_1 rfl rfl 2 (by decide) (htT _ zt_287) (fun _ h9 => h9) rfl zd_Shelf_hasCertificate_6 rfl ?_
    refine zg_2 (pc1 := 16) (pc2 := 12) (Classical.em _) (fun _ _ _ _ _ w1 w2 => lv_icmp_ge hx hb zd_Shelf_hasCertificate_9 (by decide) w1 w2) (fun hc => ?_) (fun hc => ?_)
    · rw [if_pos hc] at hf
      refine zg_1 (pc' := 17) (fun _ _ _ _ _ hl w => lv_iconst (v := (0 : Int32)) hx hb zd_Shelf_hasCertificate_16 (by decide) w) ?_
      obtain rfl := zx_r1 hf
      exact hret (Or.inl rfl) _ _ zd_Shelf_hasCertificate_17
    · rw [if_neg hc] at hf
      refine zg_1 (pc' := 13) (fun _ _ _ _ _ hl w => lv_iconst (v := (1 : Int32)) hx hb zd_Shelf_hasCertificate_12 (by decide) w) ?_
      refine zg_1 (pc' := 17) (fun _ _ _ _ _ hl w => lv_goto hx hb zd_Shelf_hasCertificate_13 (by decide) w) ?_
      obtain rfl := zx_r1 hf
      exact hret (Or.inr rfl) _ _ zd_Shelf_hasCertificate_17
set_option maxHeartbeats 4000000 in
theorem zc_Search_init (l : Launch) (h0 : Nat) (D : va_G) (dA : Nat → ClassId) (tb : Nat → Nat) (n : Nat) {s0 : zh_S} {a0 : Nat} {a1 : Nat} {j2 : Int64} {i4 : Int32} {i5 : Int32} {z : zh_S} (hf : zf_Search_init n s0 a0 a1 j2 i4 i5 = some z) : zc_M l zn_Search_init zs_Search_init 1 16 h0 D dA tb [.ref (h0 + a0), .ref (h0 + a1), .long j2, .int i4, .int i5] s0 none z := by
  rw [zf_Search_init] at hf
  refine zc_of (cc := ze_Search_init) (maxL := 6) (ret := none) (lv := [(0, .ref (h0 + a0)), (1, .ref (h0 + a1)), (2, .long j2), (4, .int i4), (5, .int i5)]) (by decide) rfl (Nat.le_of_ble_eq_true rfl) rfl ?_
  intro p e s m args below meth c X hnm
  obtain ⟨hx, hb, hml, hown, htT, hrt, hlk, x00, hIn⟩ := id X
  have hK := hIn.2.1
  have hT := hIn.2.2.1
  have hNe := hIn.2.2.2
  have hR : zg_R { frames := 1, cells := zh_N z - zh_N s0, slots := zh_M z - zh_M s0, locals := 16 } (zh_N s0) (zh_M s0) z := ⟨by show zh_N z ≤ zh_N s0 + (zh_N z - zh_N s0); omega, by show zh_M z ≤ zh_M s0 + (zh_M z - zh_M s0); omega⟩
  have hF : 1 ≤ ({ frames := 1, cells := zh_N z - zh_N s0, slots := zh_M z - zh_M s0, locals := 16 } : Room).frames ∧ 16 ≤ ({ frames := 1, cells := zh_N z - zh_N s0, slots := zh_M z - zh_M s0, locals := 16 } : Room).locals := ⟨Nat.le_refl _, Nat.le_refl _⟩
  have hret := fun (pc : Nat) (lv : List (Nat × Value)) (hd : decode ze_Search_init pc = .ok (.return_, 1)) => zg_vret (R := { frames := 1, cells := zh_N z - zh_N s0, slots := zh_M z - zh_M s0, locals := 16 }) (l := l) (e := e) (below := below) (c0 := zh_N s0) (s0 := zh_M s0) (z := z) (lv := lv) X hd
  refine zg_1 (pc' := 1) (fun _ _ _ _ _ hl w => lv_aload_n hx hb zd_Search_init_0 rfl (lv_at hl 0 rfl) w) ?_
  refine zg_1 (pc' := 4) (fun _ _ _ _ _ hl w => W.objInit hx hb hown (htT _ zt_654) (htT _ zt_83) (htT _ zt_84) rfl (by rw [hml]; exact hl.1) rfl zd_Search_init_1 (Nat.le_trans (Nat.le_of_ble_eq_true rfl) hF.1) (Nat.le_trans (Nat.le_of_ble_eq_true rfl) hF.2) w) ?_
  refine zg_1 (pc' := 5) (fun _ _ _ _ _ hl w => lv_aload_n hx hb zd_Search_init_4 rfl (lv_at hl 0 rfl) w) ?_
  refine zg_1 (pc' := 6) (fun _ _ _ _ _ hl w => lv_iconst (v := (5 : Int32)) hx hb zd_Search_init_5 (by decide) w) ?_
  obtain ⟨h_3, hf⟩ := zx_ck hf
  obtain ⟨a_2, e_a_2, hf⟩ := zx_l hf
  obtain ⟨s_1, e_s_1, hf⟩ := zx_l hf
  refine zg_newi (pc' := 8) hx hb (htT _ zt_103) hK hR h_3 e_s_1 e_a_2 zd_Search_init_6 rfl ?_
  obtain ⟨h_5, hf⟩ := zx_ck hf
  obtain ⟨s_4, e_s_4, hf⟩ := zx_l hf
  refine zg_putR (pc' := 11) (ci := 4) (ty := (.array .int)) hx hb htT zi_Search zy_Search zo_Search zj_Search hown hK h_5 rfl rfl 4 (by decide) (htT _ zt_659) (fun _ h9 => h9) (Or.inr ⟨rfl, hnm, rfl⟩) (by decide +kernel) rfl rfl rfl e_s_4 zd_Search_init_8 rfl ?_
  refine zg_1 (pc' := 12) (fun _ _ _ _ _ hl w => lv_aload_n hx hb zd_Search_init_11 rfl (lv_at hl 0 rfl) w) ?_
  refine zg_1 (pc' := 13) (fun _ _ _ _ _ hl w => lv_iconst (v := (0 : Int32)) hx hb zd_Search_init_12 (by decide) w) ?_
  obtain ⟨s_6, e_s_6, hf⟩ := zx_l hf
  refine zg_putI (pc' := 16) (ci := 4) (ty := .int) hx hb htT zi_Search zy_Search zo_Search zj_Search hown hK (zx_oR e_s_4 h_5) rfl rfl 5 (by decide) (htT _ zt_660) (fun _ h9 => h9) (Or.inl rfl) (by decide +kernel) rfl rfl rfl e_s_6 zd_Search_init_13 rfl ?_
  refine zg_1 (pc' := 17) (fun _ _ _ _ _ hl w => lv_aload_n hx hb zd_Search_init_16 rfl (lv_at hl 0 rfl) w) ?_
  refine zg_1 (pc' := 18) (fun _ _ _ _ _ hl w => lv_iconst (v := (0 : Int32)) hx hb zd_Search_init_17 (by decide) w) ?_
  obtain ⟨s_7, e_s_7, hf⟩ := zx_l hf
  refine zg_putI (pc' := 21) (ci := 4) (ty := .int) hx hb htT zi_Search zy_Search zo_Search zj_Search hown hK (zx_oI e_s_6 (zx_oR e_s_4 h_5)) rfl rfl 6 (by decide) (htT _ zt_661) (fun _ h9 => h9) (Or.inl rfl) (by decide +kernel) rfl rfl rfl e_s_7 zd_Search_init_18 rfl ?_
  refine zg_1 (pc' := 22) (fun _ _ _ _ _ hl w => lv_aload_n hx hb zd_Search_init_21 rfl (lv_at hl 0 rfl) w) ?_
  refine zg_1 (pc' := 23) (fun _ _ _ _ _ hl w => lv_iconst (v := (0 : Int32)) hx hb zd_Search_init_22 (by decide) w) ?_
  obtain ⟨s_8, e_s_8, hf⟩ := zx_l hf
  refine zg_putI (pc' := 26) (ci := 4) (ty := .int) hx hb htT zi_Search zy_Search zo_Search zj_Search hown hK (zx_oI e_s_7 (zx_oI e_s_6 (zx_oR e_s_4 h_5))) rfl rfl 7 (by decide) (htT _ zt_662) (fun _ h9 => h9) (Or.inl rfl) (by decide +kernel) rfl rfl rfl e_s_8 zd_Search_init_23 rfl ?_
  refine zg_1 (pc' := 27) (fun _ _ _ _ _ hl w => lv_aload_n hx hb zd_Search_init_26 rfl (lv_at hl 0 rfl) w) ?_
  refine zg_1 (pc' := 28) (fun _ _ _ _ _ hl w => lv_aload_n hx hb zd_Search_init_27 rfl (lv_at hl 1 rfl) w) ?_
  obtain ⟨s_9, e_s_9, hf⟩ := zx_l hf
  refine zg_putR (pc' := 31) (ci := 4) (ty := (.object zr_Shelf)) hx hb htT zi_Search zy_Search zo_Search zj_Search hown hK (zx_oI e_s_8 (zx_oI e_s_7 (zx_oI e_s_6 (zx_oR e_s_4 h_5)))) rfl rfl 0 (by decide) (htT _ zt_655) (fun _ h9 => h9) (Or.inr ⟨rfl, hnm, rfl⟩) (by decide +kernel) rfl rfl rfl e_s_9 zd_Search_init_28 rfl ?_
  refine zg_1 (pc' := 32) (fun _ _ _ _ _ hl w => lv_aload_n hx hb zd_Search_init_31 rfl (lv_at hl 0 rfl) w) ?_
  refine zg_1 (pc' := 33) (fun _ _ _ _ _ hl w => lv_lload_n hx hb zd_Search_init_32 rfl (lv_at hl 2 rfl) w) ?_
  obtain ⟨s_10, e_s_10, hf⟩ := zx_l hf
  refine zg_putJ (pc' := 36) (ci := 4) (ty := .long) hx hb htT zi_Search zy_Search zo_Search zj_Search hown hK (zx_oR e_s_9 (zx_oI e_s_8 (zx_oI e_s_7 (zx_oI e_s_6 (zx_oR e_s_4 h_5))))) rfl rfl 1 (by decide) (htT _ zt_656) (fun _ h9 => h9) (Or.inr ⟨rfl, hnm, rfl⟩) (by decide +kernel) rfl rfl rfl e_s_10 zd_Search_init_33 rfl ?_
  refine zg_1 (pc' := 37) (fun _ _ _ _ _ hl w => lv_aload_n hx hb zd_Search_init_36 rfl (lv_at hl 0 rfl) w) ?_
  refine zg_1 (pc' := 39) (fun _ _ _ _ _ hl w => lv_iload hx hb zd_Search_init_37 (lv_at hl 3 rfl) w) ?_
  obtain ⟨s_11, e_s_11, hf⟩ := zx_l hf
  refine zg_putI (pc' := 42) (ci := 4) (ty := .int) hx hb htT zi_Search zy_Search zo_Search zj_Search hown hK (zx_oJ e_s_10 (zx_oR e_s_9 (zx_oI e_s_8 (zx_oI e_s_7 (zx_oI e_s_6 (zx_oR e_s_4 h_5)))))) rfl rfl 2 (by decide) (htT _ zt_657) (fun _ h9 => h9) (Or.inr ⟨rfl, hnm, rfl⟩) (by decide +kernel) rfl rfl rfl e_s_11 zd_Search_init_39 rfl ?_
  refine zg_1 (pc' := 43) (fun _ _ _ _ _ hl w => lv_aload_n hx hb zd_Search_init_42 rfl (lv_at hl 0 rfl) w) ?_
  refine zg_1 (pc' := 45) (fun _ _ _ _ _ hl w => lv_iload hx hb zd_Search_init_43 (lv_at hl 4 rfl) w) ?_
  obtain ⟨h_13, hf⟩ := zx_ck hf
  obtain ⟨s_12, e_s_12, hf⟩ := zx_l hf
  refine zg_putI (pc' := 48) (ci := 4) (ty := .boolean) hx hb htT zi_Search zy_Search zo_Search zj_Search hown hK (zx_oI e_s_11 (zx_oJ e_s_10 (zx_oR e_s_9 (zx_oI e_s_8 (zx_oI e_s_7 (zx_oI e_s_6 (zx_oR e_s_4 h_5))))))) rfl rfl 3 (by decide) (htT _ zt_658) (fun _ h9 => h9) (Or.inr ⟨rfl, hnm, rfl⟩) (by decide +kernel) (zx_nz h_13) (zx_fz h_13) rfl e_s_12 zd_Search_init_45 rfl ?_
  obtain rfl := zx_r1 hf
  exact hret _ _ zd_Search_init_48
set_option maxHeartbeats 4000000 in
theorem zc_Search_inPart (l : Launch) (h0 : Nat) (D : va_G) (dA : Nat → ClassId) (tb : Nat → Nat) (n : Nat) {s0 : zh_S} {a0 : Nat} {i1 : Int32} {r : Nat} (hf : zf_Search_inPart n s0 a0 i1 = some r) : zc_M l zn_Search_inPart zs_Search_inPart 0 0 h0 D dA tb [.ref (h0 + a0), .int i1] s0 (some (.ref (h0 + r))) s0 := by
  rw [zf_Search_inPart] at hf
  refine zc_of (cc := ze_Search_inPart) (maxL := 2) (ret := (some (.object zr_Certificate))) (lv := [(0, .ref (h0 + a0)), (1, .int i1)]) (by decide) rfl (Nat.le_of_ble_eq_true rfl) rfl ?_
  intro p e s m args below meth c X hnm
  obtain ⟨hx, hb, hml, hown, htT, hrt, hlk, x00, hIn⟩ := id X
  have hK := hIn.2.1
  have hT := hIn.2.2.1
  have hNe := hIn.2.2.2
  have hR : zg_R { frames := 0, cells := zh_N s0 - zh_N s0, slots := zh_M s0 - zh_M s0, locals := 0 } (zh_N s0) (zh_M s0) s0 := ⟨by show zh_N s0 ≤ zh_N s0 + (zh_N s0 - zh_N s0); omega, by show zh_M s0 ≤ zh_M s0 + (zh_M s0 - zh_M s0); omega⟩
  have hF : 0 ≤ ({ frames := 0, cells := zh_N s0 - zh_N s0, slots := zh_M s0 - zh_M s0, locals := 0 } : Room).frames ∧ 0 ≤ ({ frames := 0, cells := zh_N s0 - zh_N s0, slots := zh_M s0 - zh_M s0, locals := 0 } : Room).locals := ⟨Nat.le_refl _, Nat.le_refl _⟩
  have hret := fun (pc : Nat) (lv : List (Nat × Value)) (hd : decode ze_Search_inPart pc = .ok (.areturn, 1)) => zg_aret (R := { frames := 0, cells := zh_N s0 - zh_N s0, slots := zh_M s0 - zh_M s0, locals := 0 }) (l := l) (e := e) (below := below) (c0 := zh_N s0) (s0 := zh_M s0) (z := s0) (lv := lv) (v := .ref (h0 + r)) X (Or.inr ⟨_, rfl⟩) hd
  refine zg_1 (pc' := 1) (fun _ _ _ _ _ hl w => lv_aload_n hx hb zd_Search_inPart_0 rfl (lv_at hl 0 rfl) w) ?_
  obtain ⟨h_1, hf⟩ := zx_ck hf
  obtain ⟨a_2, h_3, hf⟩ := zx_p hf
  refine zg_get (pc' := 4) (ci := 4) hx hb htT zi_Search hown hK h_1 rfl rfl 0 (by decide) (htT _ zt_655) (fun _ h9 => h9) (zx_hv h_3) zd_Search_inPart_1 rfl ?_
  obtain ⟨h_4, hf⟩ := zx_ck hf
  obtain ⟨a_5, h_6, hf⟩ := zx_p hf
  refine zg_get (pc' := 7) (ci := 5) hx hb htT zi_Shelf hown hK h_4 rfl rfl 0 (by decide) (htT _ zt_282) (fun _ h9 => h9) (zx_hv h_6) zd_Search_inPart_4 rfl ?_
  refine zg_1 (pc' := 8) (fun _ _ _ _ _ hl w => lv_aload_n hx hb zd_Search_inPart_7 rfl (lv_at hl 0 rfl) w) ?_
  obtain ⟨a_7, h_8, hf⟩ := zx_p hf
  refine zg_get (pc' := 11) (ci := 4) hx hb htT zi_Search hown hK h_1 rfl rfl 4 (by decide) (htT _ zt_659) (fun _ h9 => h9) (zx_hv h_8) zd_Search_inPart_8 rfl ?_
  refine zg_1 (pc' := 12) (fun _ _ _ _ _ hl w => lv_iload_n hx hb zd_Search_inPart_11 rfl (lv_at hl 1 rfl) w) ?_
  obtain ⟨h_9, hf⟩ := zx_ck hf
  refine zg_iald (pc' := 13) hx hb hK h_9 zd_Search_inPart_12 rfl ?_
  obtain ⟨h_10, hf⟩ := zx_ck hf
  obtain ⟨a_11, h_12, hf⟩ := zx_p hf
  refine zg_aald (pc' := 14) (t := 0) (t0 := 2) hx hb hK rfl h_10 h_12 zd_Search_inPart_13 rfl ?_
  obtain rfl := zx_r1 hf
  exact hret _ _ zd_Search_inPart_14
set_option maxHeartbeats 4000000 in
theorem zw_Search_isInPart_2 {p : Program} {l : Launch} {e : Env} {R : Room} {s : State} {m : MethodId} {args : Array Value} {below : List Frame} {meth : Method} {c : Code} {Q : State → Prop} {h0 : Nat} {D : va_G} {dA : Nat → ClassId} {tb : Nat → Nat} {c0 k0 : Nat} {s0 : zh_S} {r : Int32} (X : zg_X p s m args meth c ze_Search_isInPart 4 zr_Search (some .boolean) h0 D dA tb) (hR : zg_R R c0 k0 s0) (hF : 0 ≤ R.frames ∧ 0 ≤ R.locals) (hret : (r = 0 ∨ r = 1) → ∀ (pc : Nat) (lv : List (Nat × Value)), decode ze_Search_isInPart pc = .ok (.ireturn, 1) → zg_G p l e R s m args below meth c Q h0 D dA 4 c0 k0 s0 s0 pc lv [.int r]) (n : Nat) (k : Nat) : ∀ (a0 : Nat) (i1 : Int32) (i2 : Int32) (i3 : Int32), zl_Search_isInPart_2 n k s0 a0 i1 i2 i3 = some r → zg_G p l e R s m args below meth c Q h0 D dA 4 c0 k0 s0 s0 2 [(0, .ref (h0 + a0)), (1, .int i1), (2, .int i2), (3, .int i3)] [] := by
  obtain ⟨hx, hb, hml, hown, htT, hrt, hlk, x00, hIn⟩ := id X
  have hK := hIn.2.1
  have hT := hIn.2.2.1
  have hNe := hIn.2.2.2
  induction k with
  | zero => intro a0 i1 i2 i3 hf; cases hf
  | succ k ih =>
    intro a0 i1 i2 i3 hf
    rw [zl_Search_isInPart_2] at hf
    refine zg_1 (pc' := 3) (fun _ _ _ _ _ hl w => lv_iload_n hx hb zd_Search_isInPart_2 rfl (lv_at hl 3 rfl) w) ?_
    refine zg_1 (pc' := 4) (fun _ _ _ _ _ hl w => lv_iload_n hx hb zd_Search_isInPart_3 rfl (lv_at hl 2 rfl) w) ?_
    refine zg_2 (pc1 := 25) (pc2 := 7) (Classical.em _) (fun _ _ _ _ _ w1 w2 => lv_icmp_ge hx hb zd_Search_isInPart_4 (by decide) w1 w2) (fun hc => ?_) (fun hc => ?_)
    · rw [if_pos hc] at hf
      refine zg_1 (pc' := 26) (fun _ _ _ _ _ hl w => lv_iconst (v := (0 : Int32)) hx hb zd_Search_isInPart_25 (by decide) w) ?_
      obtain rfl := zx_r1 hf
      exact hret (Or.inl rfl) _ _ zd_Search_isInPart_26
    · rw [if_neg hc] at hf
      refine zg_1 (pc' := 8) (fun _ _ _ _ _ hl w => lv_aload_n hx hb zd_Search_isInPart_7 rfl (lv_at hl 0 rfl) w) ?_
      obtain ⟨h_1, hf⟩ := zx_ck hf
      obtain ⟨a_2, h_3, hf⟩ := zx_p hf
      refine zg_get (pc' := 11) (ci := 4) hx hb htT zi_Search hown hK h_1 rfl rfl 4 (by decide) (htT _ zt_659) (fun _ h9 => h9) (zx_hv h_3) zd_Search_isInPart_8 rfl ?_
      refine zg_1 (pc' := 12) (fun _ _ _ _ _ hl w => lv_iload_n hx hb zd_Search_isInPart_11 rfl (lv_at hl 3 rfl) w) ?_
      obtain ⟨h_4, hf⟩ := zx_ck hf
      refine zg_iald (pc' := 13) hx hb hK h_4 zd_Search_isInPart_12 rfl ?_
      refine zg_1 (pc' := 14) (fun _ _ _ _ _ hl w => lv_iload_n hx hb zd_Search_isInPart_13 rfl (lv_at hl 1 rfl) w) ?_
      refine zg_2 (pc1 := 19) (pc2 := 17) (Classical.em _).symm (fun _ _ _ _ _ w1 w2 => lv_icmp_ne hx hb zd_Search_isInPart_14 (by decide) w1 w2) (fun hc => ?_) (fun hc => ?_)
      · rw [if_neg hc] at hf
        obtain ⟨i_5, e_i_5, hf⟩ := zx_l hf
        refine zg_s (pc' := 22) (lv' := [(3, .int i_5), (0, .ref (h0 + a0)), (1, .int i1), (2, .int i2)]) (fun _ _ _ _ _ hl w => lv_iinc (k := 3) (v := i_5) hx hb zd_Search_isInPart_19 hl rfl (by rw [e_i_5]; rfl) (by decide) rfl w) ?_
        refine zg_1 (pc' := 2) (fun _ _ _ _ _ hl w => lv_goto hx hb zd_Search_isInPart_22 (by decide) w) ?_
        refine zg_v [1, 2, 3, 0] rfl ?_
        exact ih a0 i1 i2 i_5 hf
      · rw [if_pos hc] at hf
        refine zg_1 (pc' := 18) (fun _ _ _ _ _ hl w => lv_iconst (v := (1 : Int32)) hx hb zd_Search_isInPart_17 (by decide) w) ?_
        obtain rfl := zx_r1 hf
        exact hret (Or.inr rfl) _ _ zd_Search_isInPart_18
set_option maxHeartbeats 4000000 in
theorem zc_Search_isInPart (l : Launch) (h0 : Nat) (D : va_G) (dA : Nat → ClassId) (tb : Nat → Nat) (n : Nat) {s0 : zh_S} {a0 : Nat} {i1 : Int32} {i2 : Int32} {r : Int32} (hf : zf_Search_isInPart n s0 a0 i1 i2 = some r) : zc_M l zn_Search_isInPart zs_Search_isInPart 0 0 h0 D dA tb [.ref (h0 + a0), .int i1, .int i2] s0 (some (.int r)) s0 := by
  rw [zf_Search_isInPart] at hf
  refine zc_of (cc := ze_Search_isInPart) (maxL := 4) (ret := (some .boolean)) (lv := [(0, .ref (h0 + a0)), (1, .int i1), (2, .int i2)]) (by decide) rfl (Nat.le_of_ble_eq_true rfl) rfl ?_
  intro p e s m args below meth c X hnm
  obtain ⟨hx, hb, hml, hown, htT, hrt, hlk, x00, hIn⟩ := id X
  have hK := hIn.2.1
  have hT := hIn.2.2.1
  have hNe := hIn.2.2.2
  have hR : zg_R { frames := 0, cells := zh_N s0 - zh_N s0, slots := zh_M s0 - zh_M s0, locals := 0 } (zh_N s0) (zh_M s0) s0 := ⟨by show zh_N s0 ≤ zh_N s0 + (zh_N s0 - zh_N s0); omega, by show zh_M s0 ≤ zh_M s0 + (zh_M s0 - zh_M s0); omega⟩
  have hF : 0 ≤ ({ frames := 0, cells := zh_N s0 - zh_N s0, slots := zh_M s0 - zh_M s0, locals := 0 } : Room).frames ∧ 0 ≤ ({ frames := 0, cells := zh_N s0 - zh_N s0, slots := zh_M s0 - zh_M s0, locals := 0 } : Room).locals := ⟨Nat.le_refl _, Nat.le_refl _⟩
  have hret := fun (hz : r = 0 ∨ r = 1) (pc : Nat) (lv : List (Nat × Value)) (hd : decode ze_Search_isInPart pc = .ok (.ireturn, 1)) => zg_iret (R := { frames := 0, cells := zh_N s0 - zh_N s0, slots := zh_M s0 - zh_M s0, locals := 0 }) (l := l) (e := e) (below := below) (c0 := zh_N s0) (s0 := zh_M s0) (z := s0) (lv := lv) (v := r) X (zx_nz hz) hd
  refine zg_1 (pc' := 1) (fun _ _ _ _ _ hl w => lv_iconst (v := (0 : Int32)) hx hb zd_Search_isInPart_0 (by decide) w) ?_
  refine zg_s (pc' := 2) (lv' := [(3, .int (0 : Int32)), (0, .ref (h0 + a0)), (1, .int i1), (2, .int i2)]) (fun _ _ _ _ _ hl w => lv_istore_n hx hb zd_Search_isInPart_1 rfl hl (by decide) rfl w) ?_
  refine zg_v [1, 2, 3, 0] rfl ?_
  exact zw_Search_isInPart_2 X hR hF hret n n a0 i1 i2 (0 : Int32) hf
set_option maxHeartbeats 4000000 in
theorem zw_Search_goThrough_96 {p : Program} {l : Launch} {e : Env} {R : Room} {s : State} {m : MethodId} {args : Array Value} {below : List Frame} {meth : Method} {c : Code} {Q : State → Prop} {h0 : Nat} {D : va_G} {dA : Nat → ClassId} {tb : Nat → Nat} {c0 k0 : Nat} {d : Nat} {z : zh_S} {r : Int32} (X : zg_X p s m args meth c ze_Search_goThrough 7 zr_Search (some .boolean) h0 D dA tb) (hR : zg_R R c0 k0 z) (hF : 5 + 2 * d ≤ R.frames ∧ 120 + 47 * d ≤ R.locals) (hret : (r = 0 ∨ r = 1) → ∀ (pc : Nat) (lv : List (Nat × Value)), decode ze_Search_goThrough pc = .ok (.ireturn, 1) → zg_G p l e R s m args below meth c Q h0 D dA 7 c0 k0 z z pc lv [.int r]) (n : Nat) (g : zh_S → Nat → Int32 → Option (Int32 × zh_S)) (hg : ∀ (s0 : zh_S) (a0 : Nat) (i1 r : Int32) (z : zh_S), g s0 a0 i1 = some (r, z) → zc_M l zn_Search_goOn zs_Search_goOn (4 + 2 * d) (99 + 47 * d) h0 D dA tb [.ref (h0 + a0), .int i1] s0 (some (.int r)) z) (hgm : ∀ (s0 : zh_S) (a0 : Nat) (i1 r : Int32) (z : zh_S), g s0 a0 i1 = some (r, z) → zh_N s0 ≤ zh_N z ∧ zh_M s0 ≤ zh_M z) (r14 : zh_S → Nat → Int32 → Int32 → Int64 → Int32 → Option (Int32 × zh_S)) (hr14 : ∀ (s0 : zh_S) (a0 : Nat) (i1 : Int32) (i2 : Int32) (j3 : Int64) (i5 : Int32), r14 s0 a0 i1 i2 j3 i5 = some (r, z) → zg_G p l e R s m args below meth c Q h0 D dA 7 c0 k0 z s0 14 [(0, .ref (h0 + a0)), (1, .int i1), (2, .int i2), (3, .long j3), (5, .int i5)] []) : ∀ (s0 : zh_S) (a0 : Nat) (i1 : Int32) (i2 : Int32) (j3 : Int64) (i5 : Int32), zb_Search_goThrough_96 n g r14 s0 a0 i1 i2 j3 i5 = some (r, z) → zg_G p l e R s m args below meth c Q h0 D dA 7 c0 k0 z s0 96 [(0, .ref (h0 + a0)), (1, .int i1), (2, .int i2), (3, .long j3), (5, .int i5)] [] := by
  obtain ⟨hx, hb, hml, hown, htT, hrt, hlk, x00, hIn⟩ := id X
  have hK := hIn.2.1
  have hT := hIn.2.2.1
  have hNe := hIn.2.2.2
  intro s0 a0 i1 i2 j3 i5 hf
  rw [zb_Search_goThrough_96] at hf
  obtain ⟨i_1, e_i_1, hf⟩ := zx_l hf
  refine zg_s (pc' := 99) (lv' := [(5, .int i_1), (0, .ref (h0 + a0)), (1, .int i1), (2, .int i2), (3, .long j3)]) (fun _ _ _ _ _ hl w => lv_iinc (k := 4) (v := i_1) hx hb zd_Search_goThrough_96 hl rfl (by rw [e_i_1]; rfl) (by decide) rfl w) ?_
  refine zg_1 (pc' := 14) (fun _ _ _ _ _ hl w => lv_goto hx hb zd_Search_goThrough_99 (by decide) w) ?_
  refine zg_v [1, 2, 3, 4, 0] rfl ?_
  exact hr14 s0 a0 i1 i2 j3 i_1 hf
set_option maxHeartbeats 4000000 in
theorem zw_Search_goThrough_14 {p : Program} {l : Launch} {e : Env} {R : Room} {s : State} {m : MethodId} {args : Array Value} {below : List Frame} {meth : Method} {c : Code} {Q : State → Prop} {h0 : Nat} {D : va_G} {dA : Nat → ClassId} {tb : Nat → Nat} {c0 k0 : Nat} {d : Nat} {z : zh_S} {r : Int32} (X : zg_X p s m args meth c ze_Search_goThrough 7 zr_Search (some .boolean) h0 D dA tb) (hR : zg_R R c0 k0 z) (hF : 5 + 2 * d ≤ R.frames ∧ 120 + 47 * d ≤ R.locals) (hret : (r = 0 ∨ r = 1) → ∀ (pc : Nat) (lv : List (Nat × Value)), decode ze_Search_goThrough pc = .ok (.ireturn, 1) → zg_G p l e R s m args below meth c Q h0 D dA 7 c0 k0 z z pc lv [.int r]) (n : Nat) (g : zh_S → Nat → Int32 → Option (Int32 × zh_S)) (hg : ∀ (s0 : zh_S) (a0 : Nat) (i1 r : Int32) (z : zh_S), g s0 a0 i1 = some (r, z) → zc_M l zn_Search_goOn zs_Search_goOn (4 + 2 * d) (99 + 47 * d) h0 D dA tb [.ref (h0 + a0), .int i1] s0 (some (.int r)) z) (hgm : ∀ (s0 : zh_S) (a0 : Nat) (i1 r : Int32) (z : zh_S), g s0 a0 i1 = some (r, z) → zh_N s0 ≤ zh_N z ∧ zh_M s0 ≤ zh_M z) (k : Nat) : ∀ (s0 : zh_S) (a0 : Nat) (i1 : Int32) (i2 : Int32) (j3 : Int64) (i5 : Int32), zl_Search_goThrough_14 n g k s0 a0 i1 i2 j3 i5 = some (r, z) → zg_G p l e R s m args below meth c Q h0 D dA 7 c0 k0 z s0 14 [(0, .ref (h0 + a0)), (1, .int i1), (2, .int i2), (3, .long j3), (5, .int i5)] [] := by
  obtain ⟨hx, hb, hml, hown, htT, hrt, hlk, x00, hIn⟩ := id X
  have hK := hIn.2.1
  have hT := hIn.2.2.1
  have hNe := hIn.2.2.2
  induction k with
  | zero => intro s0 a0 i1 i2 j3 i5 hf; cases hf
  | succ k ih =>
    intro s0 a0 i1 i2 j3 i5 hf
    rw [zl_Search_goThrough_14] at hf
    refine zg_1 (pc' := 16) (fun _ _ _ _ _ hl w => lv_iload hx hb zd_Search_goThrough_14 (lv_at hl 4 rfl) w) ?_
    refine zg_1 (pc' := 17) (fun _ _ _ _ _ hl w => lv_aload_n hx hb zd_Search_goThrough_16 rfl (lv_at hl 0 rfl) w) ?_
    obtain ⟨h_1, hf⟩ := zx_ck hf
    obtain ⟨a_2, h_3, hf⟩ := zx_p hf
    refine zg_get (pc' := 20) (ci := 4) hx hb htT zi_Search hown hK h_1 rfl rfl 0 (by decide) (htT _ zt_655) (fun _ h9 => h9) (zx_hv h_3) zd_Search_goThrough_17 rfl ?_
    obtain ⟨h_4, hf⟩ := zx_ck hf
    refine zg_get (pc' := 23) (ci := 5) hx hb htT zi_Shelf hown hK h_4 rfl rfl 2 (by decide) (htT _ zt_288) (fun _ h9 => h9) rfl zd_Search_goThrough_20 rfl ?_
    refine zg_2 (pc1 := 102) (pc2 := 26) (Classical.em _) (fun _ _ _ _ _ w1 w2 => lv_icmp_ge hx hb zd_Search_goThrough_23 (by decide) w1 w2) (fun hc => ?_) (fun hc => ?_)
    · rw [if_pos hc] at hf
      refine zg_1 (pc' := 103) (fun _ _ _ _ _ hl w => lv_iconst (v := (0 : Int32)) hx hb zd_Search_goThrough_102 (by decide) w) ?_
      obtain ⟨rfl, rfl⟩ := zx_r2 hf
      exact hret (Or.inl rfl) _ _ zd_Search_goThrough_103
    · rw [if_neg hc] at hf
      refine zg_1 (pc' := 27) (fun _ _ _ _ _ hl w => lv_aload_n hx hb zd_Search_goThrough_26 rfl (lv_at hl 0 rfl) w) ?_
      refine zg_get (pc' := 30) (ci := 4) hx hb htT zi_Search hown hK h_1 rfl rfl 7 (by decide) (htT _ zt_662) (fun _ h9 => h9) rfl zd_Search_goThrough_27 rfl ?_
      refine zg_1 (pc' := 32) (fun _ _ _ _ _ hl w => lv_bipush (v := (40 : Int32)) hx hb zd_Search_goThrough_30 (by decide) w) ?_
      refine zg_2 (pc1 := 102) (pc2 := 35) (Classical.em _) (fun _ _ _ _ _ w1 w2 => lv_icmp_ge hx hb zd_Search_goThrough_32 (by decide) w1 w2) (fun hc => ?_) (fun hc => ?_)
      · rw [if_pos hc] at hf
        refine zg_1 (pc' := 103) (fun _ _ _ _ _ hl w => lv_iconst (v := (0 : Int32)) hx hb zd_Search_goThrough_102 (by decide) w) ?_
        obtain ⟨rfl, rfl⟩ := zx_r2 hf
        exact hret (Or.inl rfl) _ _ zd_Search_goThrough_103
      · rw [if_neg hc] at hf
        refine zg_1 (pc' := 36) (fun _ _ _ _ _ hl w => lv_aload_n hx hb zd_Search_goThrough_35 rfl (lv_at hl 0 rfl) w) ?_
        obtain ⟨a_5, h_6, hf⟩ := zx_p hf
        refine zg_get (pc' := 39) (ci := 4) hx hb htT zi_Search hown hK h_1 rfl rfl 0 (by decide) (htT _ zt_655) (fun _ h9 => h9) (zx_hv h_6) zd_Search_goThrough_36 rfl ?_
        obtain ⟨h_7, hf⟩ := zx_ck hf
        obtain ⟨a_8, h_9, hf⟩ := zx_p hf
        refine zg_get (pc' := 42) (ci := 5) hx hb htT zi_Shelf hown hK h_7 rfl rfl 0 (by decide) (htT _ zt_282) (fun _ h9 => h9) (zx_hv h_9) zd_Search_goThrough_39 rfl ?_
        refine zg_1 (pc' := 44) (fun _ _ _ _ _ hl w => lv_iload hx hb zd_Search_goThrough_42 (lv_at hl 4 rfl) w) ?_
        obtain ⟨h_10, hf⟩ := zx_ck hf
        obtain ⟨a_11, h_12, hf⟩ := zx_p hf
        refine zg_aald (pc' := 45) (t := 0) (t0 := 2) hx hb hK rfl h_10 h_12 zd_Search_goThrough_44 rfl ?_
        refine zg_s (pc' := 47) (lv' := [(6, .ref (h0 + a_11)), (0, .ref (h0 + a0)), (1, .int i1), (2, .int i2), (3, .long j3), (5, .int i5)]) (fun _ _ _ _ _ hl w => lv_astore hx hb zd_Search_goThrough_45 hl (by decide) rfl w) ?_
        refine zg_1 (pc' := 49) (fun _ _ _ _ _ hl w => lv_aload hx hb zd_Search_goThrough_47 (lv_at hl 0 rfl) w) ?_
        obtain ⟨h_13, hf⟩ := zx_ck hf
        refine zg_get (pc' := 52) (ci := 0) hx hb htT zi_Certificate hown hK h_13 rfl rfl 18 (by decide) (htT _ zt_178) (fun _ h9 => h9) rfl zd_Search_goThrough_49 rfl ?_
        refine zg_1 (pc' := 53) (fun _ _ _ _ _ hl w => lv_iload_n hx hb zd_Search_goThrough_52 rfl (lv_at hl 3 rfl) w) ?_
        refine zg_2 (pc1 := 96) (pc2 := 56) (Classical.em _).symm (fun _ _ _ _ _ w1 w2 => lv_icmp_ne hx hb zd_Search_goThrough_53 (by decide) w1 w2) (fun hc => ?_) (fun hc => ?_)
        · rw [if_neg hc] at hf
          refine zg_v [1, 2, 3, 4, 5] rfl ?_
          exact zw_Search_goThrough_96 X hR hF hret n g hg hgm _ ih s0 a0 i1 i2 j3 i5 hf
        · rw [if_pos hc] at hf
          refine zg_1 (pc' := 58) (fun _ _ _ _ _ hl w => lv_aload hx hb zd_Search_goThrough_56 (lv_at hl 0 rfl) w) ?_
          refine zg_get (pc' := 61) (ci := 0) hx hb htT zi_Certificate hown hK h_13 rfl rfl 7 (by decide) (htT _ zt_150) (fun _ h9 => h9) rfl zd_Search_goThrough_58 rfl ?_
          refine zg_1 (pc' := 62) (fun _ _ _ _ _ hl w => lv_lload_n hx hb zd_Search_goThrough_61 rfl (lv_at hl 4 rfl) w) ?_
          refine zg_1 (pc' := 63) (fun _ _ _ _ _ hl w => W.lcmp hx hb zd_Search_goThrough_62 w) ?_
          refine zg_2 (pc1 := 96) (pc2 := 66) (Classical.em _).symm (fun _ _ _ _ _ w1 w2 => lv_if_ne hx hb zd_Search_goThrough_63 (by decide) w1 w2) (fun hc => ?_) (fun hc => ?_)
          · rw [if_neg hc] at hf
            refine zg_v [1, 2, 3, 4, 5] rfl ?_
            exact zw_Search_goThrough_96 X hR hF hret n g hg hgm _ ih s0 a0 i1 i2 j3 i5 hf
          · rw [if_pos hc] at hf
            refine zg_1 (pc' := 67) (fun _ _ _ _ _ hl w => lv_aload_n hx hb zd_Search_goThrough_66 rfl (lv_at hl 1 rfl) w) ?_
            refine zg_1 (pc' := 69) (fun _ _ _ _ _ hl w => lv_iload hx hb zd_Search_goThrough_67 (lv_at hl 5 rfl) w) ?_
            refine zg_1 (pc' := 70) (fun _ _ _ _ _ hl w => lv_iload_n hx hb zd_Search_goThrough_69 rfl (lv_at hl 2 rfl) w) ?_
            obtain ⟨i_14, hq, hf⟩ := zx_p hf
            refine zg_call (pc' := 73) (y := s0) (rv := (some (.int i_14))) (rest := []) X hR ⟨Nat.le_refl _, Nat.le_refl _⟩ (fun H locs ls k j hsz hI hU hk => va_runV (As := [.int i5, .int i1]) (rest := []) ⟨hx, hb, hml, hown, htT⟩ (zc_Search_isInPart l h0 D dA tb n hq) (cwV 2 htT (zw_gV zt_752 zt_754 zt_29 zt_76 zt_755) rfl rfl rfl (by decide +kernel) ⟨Nat.le_trans (by (try dsimp only); omega) hF.1, Nat.le_trans (by (try dsimp only); omega) hF.2⟩) ⟨(zg_pre hU).1, zg_recv hK hI h_1 rfl, (zg_pre hU).2⟩ rfl rfl hsz rfl (lv_room (Nat.le_of_ble_eq_true rfl)) zd_Search_goThrough_70 hk) rfl ?_
            refine zg_2 (pc1 := 96) (pc2 := 76) (Classical.em _).symm (fun _ _ _ _ _ w1 w2 => lv_if_ne hx hb zd_Search_goThrough_73 (by decide) w1 w2) (fun hc => ?_) (fun hc => ?_)
            · rw [if_neg hc] at hf
              refine zg_v [1, 2, 3, 4, 5] rfl ?_
              exact zw_Search_goThrough_96 X hR hF hret n g hg hgm _ ih s0 a0 i1 i2 j3 i5 hf
            · rw [if_pos hc] at hf
              refine zg_1 (pc' := 77) (fun _ _ _ _ _ hl w => lv_aload_n hx hb zd_Search_goThrough_76 rfl (lv_at hl 1 rfl) w) ?_
              obtain ⟨a_15, h_16, hf⟩ := zx_p hf
              refine zg_get (pc' := 80) (ci := 4) hx hb htT zi_Search hown hK h_1 rfl rfl 4 (by decide) (htT _ zt_659) (fun _ h9 => h9) (zx_hv h_16) zd_Search_goThrough_77 rfl ?_
              refine zg_1 (pc' := 81) (fun _ _ _ _ _ hl w => lv_iload_n hx hb zd_Search_goThrough_80 rfl (lv_at hl 2 rfl) w) ?_
              refine zg_1 (pc' := 83) (fun _ _ _ _ _ hl w => lv_iload hx hb zd_Search_goThrough_81 (lv_at hl 5 rfl) w) ?_
              obtain ⟨h_18, hf⟩ := zx_ck hf
              obtain ⟨s_17, e_s_17, hf⟩ := zx_l hf
              refine zg_iast (pc' := 84) hx hb hK h_18 e_s_17 zd_Search_goThrough_83 rfl ?_
              refine zg_1 (pc' := 85) (fun _ _ _ _ _ hl w => lv_aload_n hx hb zd_Search_goThrough_84 rfl (lv_at hl 1 rfl) w) ?_
              refine zg_1 (pc' := 86) (fun _ _ _ _ _ hl w => lv_iload_n hx hb zd_Search_goThrough_85 rfl (lv_at hl 2 rfl) w) ?_
              refine zg_1 (pc' := 87) (fun _ _ _ _ _ hl w => lv_iconst (v := (1 : Int32)) hx hb zd_Search_goThrough_86 (by decide) w) ?_
              refine zg_1 (pc' := 88) (fun _ _ _ _ _ hl w => lv_iadd hx hb zd_Search_goThrough_87 w) ?_
              obtain ⟨h_20, hf⟩ := zx_ck hf
              obtain ⟨i_21, s_19, hq, hf⟩ := zx_b hf
              refine zg_call (pc' := 91) (y := s_19) (rv := (some (.int i_21))) (rest := []) X hR (hgm _ _ _ _ _ hq) (fun H locs ls k j hsz hI hU hk => va_runV (As := [.int (i1 + (1 : Int32))]) (rest := []) ⟨hx, hb, hml, hown, htT⟩ (hg _ _ _ _ _ hq) (cwV 1 htT (zw_gV zt_685 zt_687 zt_21 zt_76 zt_688) rfl rfl rfl (by decide +kernel) ⟨Nat.le_trans (by (try dsimp only); omega) hF.1, Nat.le_trans (by (try dsimp only); omega) hF.2⟩) ⟨(zg_pre hU).1, zg_recv hK hI h_20 rfl, (zg_pre hU).2⟩ rfl rfl hsz rfl (lv_room (Nat.le_of_ble_eq_true rfl)) zd_Search_goThrough_88 hk) rfl ?_
              refine zg_2 (pc1 := 96) (pc2 := 94) (Classical.em _) (fun _ _ _ _ _ w1 w2 => lv_if_eq hx hb zd_Search_goThrough_91 (by decide) w1 w2) (fun hc => ?_) (fun hc => ?_)
              · rw [if_pos hc] at hf
                refine zg_v [1, 2, 3, 4, 5] rfl ?_
                exact zw_Search_goThrough_96 X hR hF hret n g hg hgm _ ih s_19 a0 i1 i2 j3 i5 hf
              · rw [if_neg hc] at hf
                refine zg_1 (pc' := 95) (fun _ _ _ _ _ hl w => lv_iconst (v := (1 : Int32)) hx hb zd_Search_goThrough_94 (by decide) w) ?_
                obtain ⟨rfl, rfl⟩ := zx_r2 hf
                exact hret (Or.inr rfl) _ _ zd_Search_goThrough_95
set_option maxHeartbeats 4000000 in
theorem zc_Search_goThrough (l : Launch) (h0 : Nat) (D : va_G) (dA : Nat → ClassId) (tb : Nat → Nat) (n : Nat) (d : Nat) (g : zh_S → Nat → Int32 → Option (Int32 × zh_S)) (hg : ∀ (s0 : zh_S) (a0 : Nat) (i1 r : Int32) (z : zh_S), g s0 a0 i1 = some (r, z) → zc_M l zn_Search_goOn zs_Search_goOn (4 + 2 * d) (99 + 47 * d) h0 D dA tb [.ref (h0 + a0), .int i1] s0 (some (.int r)) z) (hgm : ∀ (s0 : zh_S) (a0 : Nat) (i1 r : Int32) (z : zh_S), g s0 a0 i1 = some (r, z) → zh_N s0 ≤ zh_N z ∧ zh_M s0 ≤ zh_M z) {s0 : zh_S} {a0 : Nat} {i1 : Int32} {i2 : Int32} {r : Int32} {z : zh_S} (hf : zf_Search_goThrough n g s0 a0 i1 i2 = some (r, z)) : zc_M l zn_Search_goThrough zs_Search_goThrough (5 + 2 * d) (120 + 47 * d) h0 D dA tb [.ref (h0 + a0), .int i1, .int i2] s0 (some (.int r)) z := by
  rw [zf_Search_goThrough] at hf
  refine zc_of (cc := ze_Search_goThrough) (maxL := 7) (ret := (some .boolean)) (lv := [(0, .ref (h0 + a0)), (1, .int i1), (2, .int i2)]) (by decide) rfl (Nat.le_of_ble_eq_true rfl) rfl ?_
  intro p e s m args below meth c X hnm
  obtain ⟨hx, hb, hml, hown, htT, hrt, hlk, x00, hIn⟩ := id X
  have hK := hIn.2.1
  have hT := hIn.2.2.1
  have hNe := hIn.2.2.2
  have hR : zg_R { frames := 5 + 2 * d, cells := zh_N z - zh_N s0, slots := zh_M z - zh_M s0, locals := 120 + 47 * d } (zh_N s0) (zh_M s0) z := ⟨by show zh_N z ≤ zh_N s0 + (zh_N z - zh_N s0); omega, by show zh_M z ≤ zh_M s0 + (zh_M z - zh_M s0); omega⟩
  have hF : 5 + 2 * d ≤ ({ frames := 5 + 2 * d, cells := zh_N z - zh_N s0, slots := zh_M z - zh_M s0, locals := 120 + 47 * d } : Room).frames ∧ 120 + 47 * d ≤ ({ frames := 5 + 2 * d, cells := zh_N z - zh_N s0, slots := zh_M z - zh_M s0, locals := 120 + 47 * d } : Room).locals := ⟨Nat.le_refl _, Nat.le_refl _⟩
  have hret := fun (hz : r = 0 ∨ r = 1) (pc : Nat) (lv : List (Nat × Value)) (hd : decode ze_Search_goThrough pc = .ok (.ireturn, 1)) => zg_iret (R := { frames := 5 + 2 * d, cells := zh_N z - zh_N s0, slots := zh_M z - zh_M s0, locals := 120 + 47 * d }) (l := l) (e := e) (below := below) (c0 := zh_N s0) (s0 := zh_M s0) (z := z) (lv := lv) (v := r) X (zx_nz hz) hd
  refine zg_1 (pc' := 1) (fun _ _ _ _ _ hl w => lv_aload_n hx hb zd_Search_goThrough_0 rfl (lv_at hl 0 rfl) w) ?_
  refine zg_1 (pc' := 2) (fun _ _ _ _ _ hl w => lv_iload_n hx hb zd_Search_goThrough_1 rfl (lv_at hl 1 rfl) w) ?_
  refine zg_1 (pc' := 3) (fun _ _ _ _ _ hl w => lv_iconst (v := (1 : Int32)) hx hb zd_Search_goThrough_2 (by decide) w) ?_
  refine zg_1 (pc' := 4) (fun _ _ _ _ _ hl w => lv_isub hx hb zd_Search_goThrough_3 w) ?_
  obtain ⟨h_1, hf⟩ := zx_ck hf
  obtain ⟨a_2, hq, hf⟩ := zx_p hf
  refine zg_call (pc' := 7) (y := s0) (rv := (some (.ref (h0 + a_2)))) (rest := []) X hR ⟨Nat.le_refl _, Nat.le_refl _⟩ (fun H locs ls k j hsz hI hU hk => va_runV (As := [.int (i1 - (1 : Int32))]) (rest := []) ⟨hx, hb, hml, hown, htT⟩ (zc_Search_inPart l h0 D dA tb n hq) (cwV 1 htT (zw_gV zt_689 zt_691 zt_22 zt_76 zt_692) rfl rfl rfl (by decide +kernel) ⟨Nat.le_trans (by (try dsimp only); omega) hF.1, Nat.le_trans (by (try dsimp only); omega) hF.2⟩) ⟨(zg_pre hU).1, zg_recv hK hI h_1 rfl, (zg_pre hU).2⟩ rfl rfl hsz rfl (lv_room (Nat.le_of_ble_eq_true rfl)) zd_Search_goThrough_4 hk) rfl ?_
  obtain ⟨h_3, hf⟩ := zx_ck hf
  refine zg_get (pc' := 10) (ci := 0) hx hb htT zi_Certificate hown hK h_3 rfl rfl 0 (by decide) (htT _ zt_188) (fun x9 h9 => u_same (htT _ zt_182) x9 h9) rfl zd_Search_goThrough_7 rfl ?_
  obtain ⟨j_4, e_j_4, hf⟩ := zx_l hf
  refine zg_tl e_j_4 ?_
  refine zg_s (pc' := 11) (lv' := [(3, .long j_4), (0, .ref (h0 + a0)), (1, .int i1), (2, .int i2)]) (fun _ _ _ _ _ hl w => lv_lstore_n hx hb zd_Search_goThrough_10 rfl hl (by decide) rfl w) ?_
  refine zg_1 (pc' := 12) (fun _ _ _ _ _ hl w => lv_iconst (v := (0 : Int32)) hx hb zd_Search_goThrough_11 (by decide) w) ?_
  refine zg_s (pc' := 14) (lv' := [(5, .int (0 : Int32)), (3, .long j_4), (0, .ref (h0 + a0)), (1, .int i1), (2, .int i2)]) (fun _ _ _ _ _ hl w => lv_istore hx hb zd_Search_goThrough_12 hl (by decide) rfl w) ?_
  refine zg_v [2, 3, 4, 1, 0] rfl ?_
  exact zw_Search_goThrough_14 X hR hF hret n g hg hgm n s0 a0 i1 i2 j_4 (0 : Int32) hf
