set_option maxHeartbeats 4000000 in
theorem zc_Reader_fail (l : Launch) (h0 : Nat) (D : va_G) (dA : Nat → ClassId) (tb : Nat → Nat) (n : Nat) {s0 : zh_S} {a0 : Nat} {i1 : Int32} {i2 : Int32} {r : Int32} {z : zh_S} (hf : zf_Reader_fail n s0 a0 i1 i2 = some (r, z)) : zc_M l zn_Reader_fail zs_Reader_fail 0 0 h0 D dA tb [.ref (h0 + a0), .int i1, .int i2] s0 (some (.int r)) z := by
  rw [zf_Reader_fail] at hf
  refine zc_of (cc := ze_Reader_fail) (maxL := 3) (ret := (some .int)) (lv := [(0, .ref (h0 + a0)), (1, .int i1), (2, .int i2)]) (by decide) rfl (Nat.le_of_ble_eq_true rfl) rfl ?_
  intro p e s m args below meth c X hnm
  obtain ⟨hx, hb, hml, hown, htT, hrt, hlk, x00, hIn⟩ := id X
  have hK := hIn.2.1
  have hT := hIn.2.2.1
  have hNe := hIn.2.2.2
  have hR : zg_R { frames := 0, cells := zh_N z - zh_N s0, slots := zh_M z - zh_M s0, locals := 0 } (zh_N s0) (zh_M s0) z := ⟨by show zh_N z ≤ zh_N s0 + (zh_N z - zh_N s0); omega, by show zh_M z ≤ zh_M s0 + (zh_M z - zh_M s0); omega⟩
  have hF : 0 ≤ ({ frames := 0, cells := zh_N z - zh_N s0, slots := zh_M z - zh_M s0, locals := 0 } : Room).frames ∧ 0 ≤ ({ frames := 0, cells := zh_N z - zh_N s0, slots := zh_M z - zh_M s0, locals := 0 } : Room).locals := ⟨Nat.le_refl _, Nat.le_refl _⟩
  have hret := fun (pc : Nat) (lv : List (Nat × Value)) (hd : decode ze_Reader_fail pc = .ok (.ireturn, 1)) => zg_iret (R := { frames := 0, cells := zh_N z - zh_N s0, slots := zh_M z - zh_M s0, locals := 0 }) (l := l) (e := e) (below := below) (c0 := zh_N s0) (s0 := zh_M s0) (z := z) (lv := lv) (v := r) X rfl hd
  refine zg_1 (pc' := 1) (fun _ _ _ _ _ hl w => lv_aload_n hx hb zd_Reader_fail_0 rfl (lv_at hl 0 rfl) w) ?_
  obtain ⟨h_1, hf⟩ := zx_ck hf
  refine zg_get (pc' := 4) (ci := 2) hx hb htT zi_Reader hown hK h_1 rfl rfl 2 (by decide) (htT _ zt_498) (fun _ h9 => h9) rfl zd_Reader_fail_1 rfl ?_
  refine zg_2 (pc1 := 17) (pc2 := 7) (Classical.em _).symm (fun _ _ _ _ _ w1 w2 => lv_if_ne hx hb zd_Reader_fail_4 (by decide) w1 w2) (fun hc => ?_) (fun hc => ?_)
  · rw [if_neg hc] at hf
    refine zg_1 (pc' := 18) (fun _ _ _ _ _ hl w => lv_iload_n hx hb zd_Reader_fail_17 rfl (lv_at hl 2 rfl) w) ?_
    obtain ⟨rfl, rfl⟩ := zx_r2 hf
    exact hret _ _ zd_Reader_fail_18
  · rw [if_pos hc] at hf
    refine zg_1 (pc' := 8) (fun _ _ _ _ _ hl w => lv_aload_n hx hb zd_Reader_fail_7 rfl (lv_at hl 0 rfl) w) ?_
    refine zg_1 (pc' := 9) (fun _ _ _ _ _ hl w => lv_iload_n hx hb zd_Reader_fail_8 rfl (lv_at hl 1 rfl) w) ?_
    refine zg_1 (pc' := 11) (fun _ _ _ _ _ hl w => lv_bipush (v := (16 : Int32)) hx hb zd_Reader_fail_9 (by decide) w) ?_
    refine zg_1 (pc' := 12) (fun _ _ _ _ _ hl w => lv_iload_n hx hb zd_Reader_fail_11 rfl (lv_at hl 2 rfl) w) ?_
    refine zg_1 (pc' := 13) (fun _ _ _ _ _ hl w => lv_imul hx hb zd_Reader_fail_12 w) ?_
    refine zg_1 (pc' := 14) (fun _ _ _ _ _ hl w => lv_iadd hx hb zd_Reader_fail_13 w) ?_
    obtain ⟨s_2, e_s_2, hf⟩ := zx_l hf
    refine zg_putI (pc' := 17) (ci := 2) (ty := .int) hx hb htT zi_Reader zy_Reader zo_Reader zj_Reader hown hK h_1 rfl rfl 2 (by decide) (htT _ zt_498) (fun _ h9 => h9) (Or.inl rfl) (by decide +kernel) rfl rfl rfl e_s_2 zd_Reader_fail_14 rfl ?_
    refine zg_1 (pc' := 18) (fun _ _ _ _ _ hl w => lv_iload_n hx hb zd_Reader_fail_17 rfl (lv_at hl 2 rfl) w) ?_
    obtain ⟨rfl, rfl⟩ := zx_r2 hf
    exact hret _ _ zd_Reader_fail_18
set_option maxHeartbeats 4000000 in
theorem zw_Reader_open_176 {p : Program} {l : Launch} {e : Env} {R : Room} {s : State} {m : MethodId} {args : Array Value} {below : List Frame} {meth : Method} {c : Code} {Q : State → Prop} {h0 : Nat} {D : va_G} {dA : Nat → ClassId} {tb : Nat → Nat} {c0 k0 : Nat} {z : zh_S} {r : Int32} (X : zg_X p s m args meth c ze_Reader_open 5 zr_Reader (some .int) h0 D dA tb) (hR : zg_R R c0 k0 z) (hF : 1 ≤ R.frames ∧ 22 ≤ R.locals) (hret : ∀ (pc : Nat) (lv : List (Nat × Value)), decode ze_Reader_open pc = .ok (.ireturn, 1) → zg_G p l e R s m args below meth c Q h0 D dA 5 c0 k0 z z pc lv [.int r]) (n : Nat) : ∀ (s0 : zh_S) (a0 : Nat) (i2 : Int32) (i3 : Int32) (i4 : Int32), zb_Reader_open_176 n s0 a0 i2 i3 i4 = some (r, z) → zg_G p l e R s m args below meth c Q h0 D dA 5 c0 k0 z s0 176 [(0, .ref (h0 + a0)), (2, .int i2), (3, .int i3), (4, .int i4)] [] := by
  obtain ⟨hx, hb, hml, hown, htT, hrt, hlk, x00, hIn⟩ := id X
  have hK := hIn.2.1
  have hT := hIn.2.2.1
  have hNe := hIn.2.2.2
  intro s0 a0 i2 i3 i4 hf
  rw [zb_Reader_open_176] at hf
  refine zg_1 (pc' := 178) (fun _ _ _ _ _ hl w => lv_iload hx hb zd_Reader_open_176 (lv_at hl 3 rfl) w) ?_
  refine zg_1 (pc' := 179) (fun _ _ _ _ _ hl w => lv_iload_n hx hb zd_Reader_open_178 rfl (lv_at hl 1 rfl) w) ?_
  refine zg_1 (pc' := 180) (fun _ _ _ _ _ hl w => lv_aload_n hx hb zd_Reader_open_179 rfl (lv_at hl 0 rfl) w) ?_
  obtain ⟨h_1, hf⟩ := zx_ck hf
  refine zg_get (pc' := 183) (ci := 2) hx hb htT zi_Reader hown hK h_1 rfl rfl 1 (by decide) (htT _ zt_497) (fun _ h9 => h9) rfl zd_Reader_open_180 rfl ?_
  refine zg_1 (pc' := 184) (fun _ _ _ _ _ hl w => lv_isub hx hb zd_Reader_open_183 w) ?_
  refine zg_2 (pc1 := 196) (pc2 := 187) (Classical.em _) (fun _ _ _ _ _ w1 w2 => lv_icmp_le hx hb zd_Reader_open_184 (by decide) w1 w2) (fun hc => ?_) (fun hc => ?_)
  · rw [if_pos hc] at hf
    refine zg_1 (pc' := 197) (fun _ _ _ _ _ hl w => lv_aload_n hx hb zd_Reader_open_196 rfl (lv_at hl 0 rfl) w) ?_
    refine zg_get (pc' := 200) (ci := 2) hx hb htT zi_Reader hown hK h_1 rfl rfl 1 (by decide) (htT _ zt_497) (fun _ h9 => h9) rfl zd_Reader_open_197 rfl ?_
    refine zg_1 (pc' := 202) (fun _ _ _ _ _ hl w => lv_iload hx hb zd_Reader_open_200 (lv_at hl 3 rfl) w) ?_
    refine zg_1 (pc' := 203) (fun _ _ _ _ _ hl w => lv_iadd hx hb zd_Reader_open_202 w) ?_
    obtain ⟨rfl, rfl⟩ := zx_r2 hf
    exact hret _ _ zd_Reader_open_203
  · rw [if_neg hc] at hf
    refine zg_1 (pc' := 188) (fun _ _ _ _ _ hl w => lv_aload_n hx hb zd_Reader_open_187 rfl (lv_at hl 0 rfl) w) ?_
    refine zg_1 (pc' := 189) (fun _ _ _ _ _ hl w => lv_iconst (v := (1 : Int32)) hx hb zd_Reader_open_188 (by decide) w) ?_
    refine zg_1 (pc' := 190) (fun _ _ _ _ _ hl w => lv_iload_n hx hb zd_Reader_open_189 rfl (lv_at hl 2 rfl) w) ?_
    obtain ⟨i_3, s_2, hq, hf⟩ := zx_b hf
    refine zg_call (pc' := 193) (y := s_2) (rv := (some (.int i_3))) (rest := []) X hR (zm_Reader_fail hq) (fun H locs ls k j hsz hI hU hk => va_runV (As := [.int (1 : Int32), .int i3]) (rest := []) ⟨hx, hb, hml, hown, htT⟩ (zc_Reader_fail l h0 D dA tb n hq) (cwV 2 htT (zw_gV zt_523 zt_525 zt_7 zt_75 zt_526) rfl rfl rfl (by decide +kernel) ⟨Nat.le_trans (Nat.le_of_ble_eq_true rfl) hF.1, Nat.le_trans (Nat.le_of_ble_eq_true rfl) hF.2⟩) ⟨(zg_pre hU).1, zg_recv hK hI h_1 rfl, (zg_pre hU).2⟩ rfl rfl hsz rfl (lv_room (Nat.le_of_ble_eq_true rfl)) zd_Reader_open_190 hk) rfl ?_
    refine zg_1 (pc' := 203) (fun _ _ _ _ _ hl w => lv_goto hx hb zd_Reader_open_193 (by decide) w) ?_
    obtain ⟨rfl, rfl⟩ := zx_r2 hf
    exact hret _ _ zd_Reader_open_203
set_option maxHeartbeats 4000000 in
theorem zc_Reader_open (l : Launch) (h0 : Nat) (D : va_G) (dA : Nat → ClassId) (tb : Nat → Nat) (n : Nat) {s0 : zh_S} {a0 : Nat} {i1 : Int32} {i2 : Int32} {r : Int32} {z : zh_S} (hf : zf_Reader_open n s0 a0 i1 i2 = some (r, z)) : zc_M l zn_Reader_open zs_Reader_open 1 22 h0 D dA tb [.ref (h0 + a0), .int i1, .int i2] s0 (some (.int r)) z := by
  rw [zf_Reader_open] at hf
  refine zc_of (cc := ze_Reader_open) (maxL := 5) (ret := (some .int)) (lv := [(0, .ref (h0 + a0)), (1, .int i1), (2, .int i2)]) (by decide) rfl (Nat.le_of_ble_eq_true rfl) rfl ?_
  intro p e s m args below meth c X hnm
  obtain ⟨hx, hb, hml, hown, htT, hrt, hlk, x00, hIn⟩ := id X
  have hK := hIn.2.1
  have hT := hIn.2.2.1
  have hNe := hIn.2.2.2
  have hR : zg_R { frames := 1, cells := zh_N z - zh_N s0, slots := zh_M z - zh_M s0, locals := 22 } (zh_N s0) (zh_M s0) z := ⟨by show zh_N z ≤ zh_N s0 + (zh_N z - zh_N s0); omega, by show zh_M z ≤ zh_M s0 + (zh_M z - zh_M s0); omega⟩
  have hF : 1 ≤ ({ frames := 1, cells := zh_N z - zh_N s0, slots := zh_M z - zh_M s0, locals := 22 } : Room).frames ∧ 22 ≤ ({ frames := 1, cells := zh_N z - zh_N s0, slots := zh_M z - zh_M s0, locals := 22 } : Room).locals := ⟨Nat.le_refl _, Nat.le_refl _⟩
  have hret := fun (pc : Nat) (lv : List (Nat × Value)) (hd : decode ze_Reader_open pc = .ok (.ireturn, 1)) => zg_iret (R := { frames := 1, cells := zh_N z - zh_N s0, slots := zh_M z - zh_M s0, locals := 22 }) (l := l) (e := e) (below := below) (c0 := zh_N s0) (s0 := zh_M s0) (z := z) (lv := lv) (v := r) X rfl hd
  refine zg_1 (pc' := 1) (fun _ _ _ _ _ hl w => lv_aload_n hx hb zd_Reader_open_0 rfl (lv_at hl 0 rfl) w) ?_
  obtain ⟨h_1, hf⟩ := zx_ck hf
  refine zg_get (pc' := 4) (ci := 2) hx hb htT zi_Reader hown hK h_1 rfl rfl 1 (by decide) (htT _ zt_497) (fun _ h9 => h9) rfl zd_Reader_open_1 rfl ?_
  obtain ⟨i_2, e_i_2, hf⟩ := zx_l hf
  refine zg_ti e_i_2 ?_
  refine zg_s (pc' := 5) (lv' := [(3, .int i_2), (0, .ref (h0 + a0)), (1, .int i1), (2, .int i2)]) (fun _ _ _ _ _ hl w => lv_istore_n hx hb zd_Reader_open_4 rfl hl (by decide) rfl w) ?_
  refine zg_1 (pc' := 6) (fun _ _ _ _ _ hl w => lv_aload_n hx hb zd_Reader_open_5 rfl (lv_at hl 1 rfl) w) ?_
  refine zg_get (pc' := 9) (ci := 2) hx hb htT zi_Reader hown hK h_1 rfl rfl 2 (by decide) (htT _ zt_498) (fun _ h9 => h9) rfl zd_Reader_open_6 rfl ?_
  refine zg_2 (pc1 := 14) (pc2 := 12) (Classical.em _) (fun _ _ _ _ _ w1 w2 => lv_if_eq hx hb zd_Reader_open_9 (by decide) w1 w2) (fun hc => ?_) (fun hc => ?_)
  · rw [if_pos hc] at hf
    refine zg_1 (pc' := 15) (fun _ _ _ _ _ hl w => lv_aload_n hx hb zd_Reader_open_14 rfl (lv_at hl 1 rfl) w) ?_
    refine zg_get (pc' := 18) (ci := 2) hx hb htT zi_Reader hown hK h_1 rfl rfl 1 (by decide) (htT _ zt_497) (fun _ h9 => h9) rfl zd_Reader_open_15 rfl ?_
    refine zg_1 (pc' := 19) (fun _ _ _ _ _ hl w => lv_iload_n hx hb zd_Reader_open_18 rfl (lv_at hl 3 rfl) w) ?_
    refine zg_2 (pc1 := 29) (pc2 := 22) (Classical.em _) (fun _ _ _ _ _ w1 w2 => lv_icmp_lt hx hb zd_Reader_open_19 (by decide) w1 w2) (fun hc => ?_) (fun hc => ?_)
    · rw [if_pos hc] at hf
      refine zg_1 (pc' := 30) (fun _ _ _ _ _ hl w => lv_aload_n hx hb zd_Reader_open_29 rfl (lv_at hl 1 rfl) w) ?_
      obtain ⟨a_3, h_4, hf⟩ := zx_p hf
      refine zg_get (pc' := 33) (ci := 2) hx hb htT zi_Reader hown hK h_1 rfl rfl 0 (by decide) (htT _ zt_496) (fun _ h9 => h9) (zx_hv h_4) zd_Reader_open_30 rfl ?_
      obtain ⟨h_5, hf⟩ := zx_ck hf
      obtain ⟨a_6, h_7, hf⟩ := zx_p hf
      refine zg_get (pc' := 36) (ci := 1) hx hb htT zi_Draft hown hK h_5 rfl rfl 0 (by decide) (htT _ zt_93) (fun _ h9 => h9) (zx_hv h_7) zd_Reader_open_33 rfl ?_
      refine zg_1 (pc' := 37) (fun _ _ _ _ _ hl w => lv_aload_n hx hb zd_Reader_open_36 rfl (lv_at hl 1 rfl) w) ?_
      refine zg_get (pc' := 40) (ci := 2) hx hb htT zi_Reader hown hK h_1 rfl rfl 1 (by decide) (htT _ zt_497) (fun _ h9 => h9) rfl zd_Reader_open_37 rfl ?_
      obtain ⟨h_8, hf⟩ := zx_ck hf
      refine zg_iald (pc' := 41) hx hb hK h_8 zd_Reader_open_40 rfl ?_
      refine zg_1 (pc' := 42) (fun _ _ _ _ _ hl w => lv_iload_n hx hb zd_Reader_open_41 rfl (lv_at hl 2 rfl) w) ?_
      refine zg_2 (pc1 := 52) (pc2 := 45) (Classical.em _) (fun _ _ _ _ _ w1 w2 => lv_icmp_eq hx hb zd_Reader_open_42 (by decide) w1 w2) (fun hc => ?_) (fun hc => ?_)
      · rw [if_pos hc] at hf
        refine zg_1 (pc' := 53) (fun _ _ _ _ _ hl w => lv_aload_n hx hb zd_Reader_open_52 rfl (lv_at hl 1 rfl) w) ?_
        refine zg_1 (pc' := 54) (fun _ _ _ _ _ hl w => lv_dup hx hb zd_Reader_open_53 rfl w) ?_
        refine zg_get (pc' := 57) (ci := 2) hx hb htT zi_Reader hown hK h_1 rfl rfl 1 (by decide) (htT _ zt_497) (fun _ h9 => h9) rfl zd_Reader_open_54 rfl ?_
        refine zg_1 (pc' := 58) (fun _ _ _ _ _ hl w => lv_iconst (v := (1 : Int32)) hx hb zd_Reader_open_57 (by decide) w) ?_
        refine zg_1 (pc' := 59) (fun _ _ _ _ _ hl w => lv_iadd hx hb zd_Reader_open_58 w) ?_
        obtain ⟨s_9, e_s_9, hf⟩ := zx_l hf
        refine zg_putI (pc' := 62) (ci := 2) (ty := .int) hx hb htT zi_Reader zy_Reader zo_Reader zj_Reader hown hK h_1 rfl rfl 1 (by decide) (htT _ zt_497) (fun _ h9 => h9) (Or.inl rfl) (by decide +kernel) rfl rfl rfl e_s_9 zd_Reader_open_59 rfl ?_
        refine zg_1 (pc' := 63) (fun _ _ _ _ _ hl w => lv_aload_n hx hb zd_Reader_open_62 rfl (lv_at hl 1 rfl) w) ?_
        refine zg_get (pc' := 66) (ci := 2) hx hb htT zi_Reader hown hK (zx_oI e_s_9 h_1) rfl rfl 1 (by decide) (htT _ zt_497) (fun _ h9 => h9) rfl zd_Reader_open_63 rfl ?_
        refine zg_1 (pc' := 67) (fun _ _ _ _ _ hl w => lv_iload_n hx hb zd_Reader_open_66 rfl (lv_at hl 3 rfl) w) ?_
        refine zg_2 (pc1 := 77) (pc2 := 70) (Classical.em _) (fun _ _ _ _ _ w1 w2 => lv_icmp_lt hx hb zd_Reader_open_67 (by decide) w1 w2) (fun hc => ?_) (fun hc => ?_)
        · rw [if_pos hc] at hf
          refine zg_1 (pc' := 78) (fun _ _ _ _ _ hl w => lv_aload_n hx hb zd_Reader_open_77 rfl (lv_at hl 1 rfl) w) ?_
          obtain ⟨a_10, h_11, hf⟩ := zx_p hf
          refine zg_get (pc' := 81) (ci := 2) hx hb htT zi_Reader hown hK (zx_oI e_s_9 h_1) rfl rfl 0 (by decide) (htT _ zt_496) (fun _ h9 => h9) (zx_hv h_11) zd_Reader_open_78 rfl ?_
          obtain ⟨h_12, hf⟩ := zx_ck hf
          obtain ⟨a_13, h_14, hf⟩ := zx_p hf
          refine zg_get (pc' := 84) (ci := 1) hx hb htT zi_Draft hown hK h_12 rfl rfl 0 (by decide) (htT _ zt_93) (fun _ h9 => h9) (zx_hv h_14) zd_Reader_open_81 rfl ?_
          refine zg_1 (pc' := 85) (fun _ _ _ _ _ hl w => lv_aload_n hx hb zd_Reader_open_84 rfl (lv_at hl 1 rfl) w) ?_
          refine zg_get (pc' := 88) (ci := 2) hx hb htT zi_Reader hown hK (zx_oI e_s_9 h_1) rfl rfl 1 (by decide) (htT _ zt_497) (fun _ h9 => h9) rfl zd_Reader_open_85 rfl ?_
          obtain ⟨h_15, hf⟩ := zx_ck hf
          refine zg_iald (pc' := 89) hx hb hK h_15 zd_Reader_open_88 rfl ?_
          obtain ⟨i_16, e_i_16, hf⟩ := zx_l hf
          refine zg_ti e_i_16 ?_
          refine zg_s (pc' := 91) (lv' := [(4, .int i_16), (3, .int i_2), (0, .ref (h0 + a0)), (1, .int i1), (2, .int i2)]) (fun _ _ _ _ _ hl w => lv_istore hx hb zd_Reader_open_89 hl (by decide) rfl w) ?_
          refine zg_1 (pc' := 92) (fun _ _ _ _ _ hl w => lv_aload_n hx hb zd_Reader_open_91 rfl (lv_at hl 2 rfl) w) ?_
          refine zg_1 (pc' := 93) (fun _ _ _ _ _ hl w => lv_dup hx hb zd_Reader_open_92 rfl w) ?_
          refine zg_get (pc' := 96) (ci := 2) hx hb htT zi_Reader hown hK (zx_oI e_s_9 h_1) rfl rfl 1 (by decide) (htT _ zt_497) (fun _ h9 => h9) rfl zd_Reader_open_93 rfl ?_
          refine zg_1 (pc' := 97) (fun _ _ _ _ _ hl w => lv_iconst (v := (1 : Int32)) hx hb zd_Reader_open_96 (by decide) w) ?_
          refine zg_1 (pc' := 98) (fun _ _ _ _ _ hl w => lv_iadd hx hb zd_Reader_open_97 w) ?_
          obtain ⟨s_17, e_s_17, hf⟩ := zx_l hf
          refine zg_putI (pc' := 101) (ci := 2) (ty := .int) hx hb htT zi_Reader zy_Reader zo_Reader zj_Reader hown hK (zx_oI e_s_9 h_1) rfl rfl 1 (by decide) (htT _ zt_497) (fun _ h9 => h9) (Or.inl rfl) (by decide +kernel) rfl rfl rfl e_s_17 zd_Reader_open_98 rfl ?_
          refine zg_1 (pc' := 103) (fun _ _ _ _ _ hl w => lv_iload hx hb zd_Reader_open_101 (lv_at hl 0 rfl) w) ?_
          refine zg_1 (pc' := 105) (fun _ _ _ _ _ hl w => lv_bipush (v := (127 : Int32)) hx hb zd_Reader_open_103 (by decide) w) ?_
          refine zg_2 (pc1 := 176) (pc2 := 108) (Classical.em _) (fun _ _ _ _ _ w1 w2 => lv_icmp_le hx hb zd_Reader_open_105 (by decide) w1 w2) (fun hc => ?_) (fun hc => ?_)
          · rw [if_pos hc] at hf
            refine zg_v [2, 4, 1, 0] rfl ?_
            exact zw_Reader_open_176 X hR hF hret n s_17 a0 i2 i_2 i_16 hf
          · rw [if_neg hc] at hf
            refine zg_1 (pc' := 110) (fun _ _ _ _ _ hl w => lv_iload hx hb zd_Reader_open_108 (lv_at hl 0 rfl) w) ?_
            refine zg_1 (pc' := 113) (fun _ _ _ _ _ hl w => lv_sipush (v := (129 : Int32)) hx hb zd_Reader_open_110 (by decide) w) ?_
            refine zg_2 (pc1 := 123) (pc2 := 116) (Classical.em _) (fun _ _ _ _ _ w1 w2 => lv_icmp_eq hx hb zd_Reader_open_113 (by decide) w1 w2) (fun hc => ?_) (fun hc => ?_)
            · rw [if_pos hc] at hf
              refine zg_1 (pc' := 124) (fun _ _ _ _ _ hl w => lv_aload_n hx hb zd_Reader_open_123 rfl (lv_at hl 2 rfl) w) ?_
              refine zg_get (pc' := 127) (ci := 2) hx hb htT zi_Reader hown hK (zx_oI e_s_17 (zx_oI e_s_9 h_1)) rfl rfl 1 (by decide) (htT _ zt_497) (fun _ h9 => h9) rfl zd_Reader_open_124 rfl ?_
              refine zg_1 (pc' := 128) (fun _ _ _ _ _ hl w => lv_iload_n hx hb zd_Reader_open_127 rfl (lv_at hl 4 rfl) w) ?_
              refine zg_2 (pc1 := 138) (pc2 := 131) (Classical.em _) (fun _ _ _ _ _ w1 w2 => lv_icmp_lt hx hb zd_Reader_open_128 (by decide) w1 w2) (fun hc => ?_) (fun hc => ?_)
              · rw [if_pos hc] at hf
                refine zg_1 (pc' := 139) (fun _ _ _ _ _ hl w => lv_aload_n hx hb zd_Reader_open_138 rfl (lv_at hl 2 rfl) w) ?_
                obtain ⟨a_18, h_19, hf⟩ := zx_p hf
                refine zg_get (pc' := 142) (ci := 2) hx hb htT zi_Reader hown hK (zx_oI e_s_17 (zx_oI e_s_9 h_1)) rfl rfl 0 (by decide) (htT _ zt_496) (fun _ h9 => h9) (zx_hv h_19) zd_Reader_open_139 rfl ?_
                obtain ⟨h_20, hf⟩ := zx_ck hf
                obtain ⟨a_21, h_22, hf⟩ := zx_p hf
                refine zg_get (pc' := 145) (ci := 1) hx hb htT zi_Draft hown hK h_20 rfl rfl 0 (by decide) (htT _ zt_93) (fun _ h9 => h9) (zx_hv h_22) zd_Reader_open_142 rfl ?_
                refine zg_1 (pc' := 146) (fun _ _ _ _ _ hl w => lv_aload_n hx hb zd_Reader_open_145 rfl (lv_at hl 2 rfl) w) ?_
                refine zg_get (pc' := 149) (ci := 2) hx hb htT zi_Reader hown hK (zx_oI e_s_17 (zx_oI e_s_9 h_1)) rfl rfl 1 (by decide) (htT _ zt_497) (fun _ h9 => h9) rfl zd_Reader_open_146 rfl ?_
                obtain ⟨h_23, hf⟩ := zx_ck hf
                refine zg_iald (pc' := 150) hx hb hK h_23 zd_Reader_open_149 rfl ?_
                obtain ⟨i_24, e_i_24, hf⟩ := zx_l hf
                refine zg_ti e_i_24 ?_
                refine zg_s (pc' := 152) (lv' := [(4, .int i_24), (3, .int i_2), (0, .ref (h0 + a0)), (1, .int i1), (2, .int i2)]) (fun _ _ _ _ _ hl w => lv_istore hx hb zd_Reader_open_150 hl (by decide) rfl w) ?_
                refine zg_1 (pc' := 153) (fun _ _ _ _ _ hl w => lv_aload_n hx hb zd_Reader_open_152 rfl (lv_at hl 2 rfl) w) ?_
                refine zg_1 (pc' := 154) (fun _ _ _ _ _ hl w => lv_dup hx hb zd_Reader_open_153 rfl w) ?_
                refine zg_get (pc' := 157) (ci := 2) hx hb htT zi_Reader hown hK (zx_oI e_s_17 (zx_oI e_s_9 h_1)) rfl rfl 1 (by decide) (htT _ zt_497) (fun _ h9 => h9) rfl zd_Reader_open_154 rfl ?_
                refine zg_1 (pc' := 158) (fun _ _ _ _ _ hl w => lv_iconst (v := (1 : Int32)) hx hb zd_Reader_open_157 (by decide) w) ?_
                refine zg_1 (pc' := 159) (fun _ _ _ _ _ hl w => lv_iadd hx hb zd_Reader_open_158 w) ?_
                obtain ⟨s_25, e_s_25, hf⟩ := zx_l hf
                refine zg_putI (pc' := 162) (ci := 2) (ty := .int) hx hb htT zi_Reader zy_Reader zo_Reader zj_Reader hown hK (zx_oI e_s_17 (zx_oI e_s_9 h_1)) rfl rfl 1 (by decide) (htT _ zt_497) (fun _ h9 => h9) (Or.inl rfl) (by decide +kernel) rfl rfl rfl e_s_25 zd_Reader_open_159 rfl ?_
                refine zg_1 (pc' := 164) (fun _ _ _ _ _ hl w => lv_iload hx hb zd_Reader_open_162 (lv_at hl 0 rfl) w) ?_
                refine zg_1 (pc' := 166) (fun _ _ _ _ _ hl w => lv_bipush (v := (127 : Int32)) hx hb zd_Reader_open_164 (by decide) w) ?_
                refine zg_2 (pc1 := 176) (pc2 := 169) (Classical.em _) (fun _ _ _ _ _ w1 w2 => lv_icmp_gt hx hb zd_Reader_open_166 (by decide) w1 w2) (fun hc => ?_) (fun hc => ?_)
                · rw [if_pos hc] at hf
                  refine zg_v [2, 4, 1, 0] rfl ?_
                  exact zw_Reader_open_176 X hR hF hret n s_25 a0 i2 i_2 i_24 hf
                · rw [if_neg hc] at hf
                  refine zg_1 (pc' := 170) (fun _ _ _ _ _ hl w => lv_aload_n hx hb zd_Reader_open_169 rfl (lv_at hl 2 rfl) w) ?_
                  refine zg_1 (pc' := 171) (fun _ _ _ _ _ hl w => lv_iconst (v := (3 : Int32)) hx hb zd_Reader_open_170 (by decide) w) ?_
                  refine zg_1 (pc' := 172) (fun _ _ _ _ _ hl w => lv_iload_n hx hb zd_Reader_open_171 rfl (lv_at hl 1 rfl) w) ?_
                  obtain ⟨i_27, s_26, hq, hf⟩ := zx_b hf
                  refine zg_call (pc' := 175) (y := s_26) (rv := (some (.int i_27))) (rest := []) X hR (zm_Reader_fail hq) (fun H locs ls k j hsz hI hU hk => va_runV (As := [.int (3 : Int32), .int i_2]) (rest := []) ⟨hx, hb, hml, hown, htT⟩ (zc_Reader_fail l h0 D dA tb n hq) (cwV 2 htT (zw_gV zt_523 zt_525 zt_7 zt_75 zt_526) rfl rfl rfl (by decide +kernel) ⟨Nat.le_trans (Nat.le_of_ble_eq_true rfl) hF.1, Nat.le_trans (Nat.le_of_ble_eq_true rfl) hF.2⟩) ⟨(zg_pre hU).1, zg_recv hK hI (zx_oI e_s_25 (zx_oI e_s_17 (zx_oI e_s_9 h_1))) rfl, (zg_pre hU).2⟩ rfl rfl hsz rfl (lv_room (Nat.le_of_ble_eq_true rfl)) zd_Reader_open_172 hk) rfl ?_
                  obtain ⟨rfl, rfl⟩ := zx_r2 hf
                  exact hret _ _ zd_Reader_open_175
              · rw [if_neg hc] at hf
                refine zg_1 (pc' := 132) (fun _ _ _ _ _ hl w => lv_aload_n hx hb zd_Reader_open_131 rfl (lv_at hl 2 rfl) w) ?_
                refine zg_1 (pc' := 133) (fun _ _ _ _ _ hl w => lv_iconst (v := (1 : Int32)) hx hb zd_Reader_open_132 (by decide) w) ?_
                refine zg_1 (pc' := 134) (fun _ _ _ _ _ hl w => lv_iload_n hx hb zd_Reader_open_133 rfl (lv_at hl 1 rfl) w) ?_
                obtain ⟨i_29, s_28, hq, hf⟩ := zx_b hf
                refine zg_call (pc' := 137) (y := s_28) (rv := (some (.int i_29))) (rest := []) X hR (zm_Reader_fail hq) (fun H locs ls k j hsz hI hU hk => va_runV (As := [.int (1 : Int32), .int i_2]) (rest := []) ⟨hx, hb, hml, hown, htT⟩ (zc_Reader_fail l h0 D dA tb n hq) (cwV 2 htT (zw_gV zt_523 zt_525 zt_7 zt_75 zt_526) rfl rfl rfl (by decide +kernel) ⟨Nat.le_trans (Nat.le_of_ble_eq_true rfl) hF.1, Nat.le_trans (Nat.le_of_ble_eq_true rfl) hF.2⟩) ⟨(zg_pre hU).1, zg_recv hK hI (zx_oI e_s_17 (zx_oI e_s_9 h_1)) rfl, (zg_pre hU).2⟩ rfl rfl hsz rfl (lv_room (Nat.le_of_ble_eq_true rfl)) zd_Reader_open_134 hk) rfl ?_
                obtain ⟨rfl, rfl⟩ := zx_r2 hf
                exact hret _ _ zd_Reader_open_137
            · rw [if_neg hc] at hf
              refine zg_1 (pc' := 117) (fun _ _ _ _ _ hl w => lv_aload_n hx hb zd_Reader_open_116 rfl (lv_at hl 2 rfl) w) ?_
              refine zg_1 (pc' := 118) (fun _ _ _ _ _ hl w => lv_iconst (v := (3 : Int32)) hx hb zd_Reader_open_117 (by decide) w) ?_
              refine zg_1 (pc' := 119) (fun _ _ _ _ _ hl w => lv_iload_n hx hb zd_Reader_open_118 rfl (lv_at hl 1 rfl) w) ?_
              obtain ⟨i_31, s_30, hq, hf⟩ := zx_b hf
              refine zg_call (pc' := 122) (y := s_30) (rv := (some (.int i_31))) (rest := []) X hR (zm_Reader_fail hq) (fun H locs ls k j hsz hI hU hk => va_runV (As := [.int (3 : Int32), .int i_2]) (rest := []) ⟨hx, hb, hml, hown, htT⟩ (zc_Reader_fail l h0 D dA tb n hq) (cwV 2 htT (zw_gV zt_523 zt_525 zt_7 zt_75 zt_526) rfl rfl rfl (by decide +kernel) ⟨Nat.le_trans (Nat.le_of_ble_eq_true rfl) hF.1, Nat.le_trans (Nat.le_of_ble_eq_true rfl) hF.2⟩) ⟨(zg_pre hU).1, zg_recv hK hI (zx_oI e_s_17 (zx_oI e_s_9 h_1)) rfl, (zg_pre hU).2⟩ rfl rfl hsz rfl (lv_room (Nat.le_of_ble_eq_true rfl)) zd_Reader_open_119 hk) rfl ?_
              obtain ⟨rfl, rfl⟩ := zx_r2 hf
              exact hret _ _ zd_Reader_open_122
        · rw [if_neg hc] at hf
          refine zg_1 (pc' := 71) (fun _ _ _ _ _ hl w => lv_aload_n hx hb zd_Reader_open_70 rfl (lv_at hl 1 rfl) w) ?_
          refine zg_1 (pc' := 72) (fun _ _ _ _ _ hl w => lv_iconst (v := (1 : Int32)) hx hb zd_Reader_open_71 (by decide) w) ?_
          refine zg_1 (pc' := 73) (fun _ _ _ _ _ hl w => lv_iload_n hx hb zd_Reader_open_72 rfl (lv_at hl 0 rfl) w) ?_
          obtain ⟨i_33, s_32, hq, hf⟩ := zx_b hf
          refine zg_call (pc' := 76) (y := s_32) (rv := (some (.int i_33))) (rest := []) X hR (zm_Reader_fail hq) (fun H locs ls k j hsz hI hU hk => va_runV (As := [.int (1 : Int32), .int i_2]) (rest := []) ⟨hx, hb, hml, hown, htT⟩ (zc_Reader_fail l h0 D dA tb n hq) (cwV 2 htT (zw_gV zt_523 zt_525 zt_7 zt_75 zt_526) rfl rfl rfl (by decide +kernel) ⟨Nat.le_trans (Nat.le_of_ble_eq_true rfl) hF.1, Nat.le_trans (Nat.le_of_ble_eq_true rfl) hF.2⟩) ⟨(zg_pre hU).1, zg_recv hK hI (zx_oI e_s_9 h_1) rfl, (zg_pre hU).2⟩ rfl rfl hsz rfl (lv_room (Nat.le_of_ble_eq_true rfl)) zd_Reader_open_73 hk) rfl ?_
          obtain ⟨rfl, rfl⟩ := zx_r2 hf
          exact hret _ _ zd_Reader_open_76
      · rw [if_neg hc] at hf
        refine zg_1 (pc' := 46) (fun _ _ _ _ _ hl w => lv_aload_n hx hb zd_Reader_open_45 rfl (lv_at hl 1 rfl) w) ?_
        refine zg_1 (pc' := 47) (fun _ _ _ _ _ hl w => lv_iconst (v := (2 : Int32)) hx hb zd_Reader_open_46 (by decide) w) ?_
        refine zg_1 (pc' := 48) (fun _ _ _ _ _ hl w => lv_iload_n hx hb zd_Reader_open_47 rfl (lv_at hl 0 rfl) w) ?_
        obtain ⟨i_35, s_34, hq, hf⟩ := zx_b hf
        refine zg_call (pc' := 51) (y := s_34) (rv := (some (.int i_35))) (rest := []) X hR (zm_Reader_fail hq) (fun H locs ls k j hsz hI hU hk => va_runV (As := [.int (2 : Int32), .int i_2]) (rest := []) ⟨hx, hb, hml, hown, htT⟩ (zc_Reader_fail l h0 D dA tb n hq) (cwV 2 htT (zw_gV zt_523 zt_525 zt_7 zt_75 zt_526) rfl rfl rfl (by decide +kernel) ⟨Nat.le_trans (Nat.le_of_ble_eq_true rfl) hF.1, Nat.le_trans (Nat.le_of_ble_eq_true rfl) hF.2⟩) ⟨(zg_pre hU).1, zg_recv hK hI h_1 rfl, (zg_pre hU).2⟩ rfl rfl hsz rfl (lv_room (Nat.le_of_ble_eq_true rfl)) zd_Reader_open_48 hk) rfl ?_
        obtain ⟨rfl, rfl⟩ := zx_r2 hf
        exact hret _ _ zd_Reader_open_51
    · rw [if_neg hc] at hf
      refine zg_1 (pc' := 23) (fun _ _ _ _ _ hl w => lv_aload_n hx hb zd_Reader_open_22 rfl (lv_at hl 1 rfl) w) ?_
      refine zg_1 (pc' := 24) (fun _ _ _ _ _ hl w => lv_iconst (v := (1 : Int32)) hx hb zd_Reader_open_23 (by decide) w) ?_
      refine zg_1 (pc' := 25) (fun _ _ _ _ _ hl w => lv_iload_n hx hb zd_Reader_open_24 rfl (lv_at hl 0 rfl) w) ?_
      obtain ⟨i_37, s_36, hq, hf⟩ := zx_b hf
      refine zg_call (pc' := 28) (y := s_36) (rv := (some (.int i_37))) (rest := []) X hR (zm_Reader_fail hq) (fun H locs ls k j hsz hI hU hk => va_runV (As := [.int (1 : Int32), .int i_2]) (rest := []) ⟨hx, hb, hml, hown, htT⟩ (zc_Reader_fail l h0 D dA tb n hq) (cwV 2 htT (zw_gV zt_523 zt_525 zt_7 zt_75 zt_526) rfl rfl rfl (by decide +kernel) ⟨Nat.le_trans (Nat.le_of_ble_eq_true rfl) hF.1, Nat.le_trans (Nat.le_of_ble_eq_true rfl) hF.2⟩) ⟨(zg_pre hU).1, zg_recv hK hI h_1 rfl, (zg_pre hU).2⟩ rfl rfl hsz rfl (lv_room (Nat.le_of_ble_eq_true rfl)) zd_Reader_open_25 hk) rfl ?_
      obtain ⟨rfl, rfl⟩ := zx_r2 hf
      exact hret _ _ zd_Reader_open_28
  · rw [if_neg hc] at hf
    refine zg_1 (pc' := 13) (fun _ _ _ _ _ hl w => lv_iload_n hx hb zd_Reader_open_12 rfl (lv_at hl 0 rfl) w) ?_
    obtain ⟨rfl, rfl⟩ := zx_r2 hf
    exact hret _ _ zd_Reader_open_13
set_option maxHeartbeats 4000000 in
theorem zc_Reader_isInteger (l : Launch) (h0 : Nat) (D : va_G) (dA : Nat → ClassId) (tb : Nat → Nat) (n : Nat) {s0 : zh_S} {a0 : Nat} {i1 : Int32} {r : Int32} (hf : zf_Reader_isInteger n s0 a0 i1 = some r) : zc_M l zn_Reader_isInteger zs_Reader_isInteger 0 0 h0 D dA tb [.ref (h0 + a0), .int i1] s0 (some (.int r)) s0 := by
  rw [zf_Reader_isInteger] at hf
  refine zc_of (cc := ze_Reader_isInteger) (maxL := 4) (ret := (some .boolean)) (lv := [(0, .ref (h0 + a0)), (1, .int i1)]) (by decide) rfl (Nat.le_of_ble_eq_true rfl) rfl ?_
  intro p e s m args below meth c X hnm
  obtain ⟨hx, hb, hml, hown, htT, hrt, hlk, x00, hIn⟩ := id X
  have hK := hIn.2.1
  have hT := hIn.2.2.1
  have hNe := hIn.2.2.2
  have hR : zg_R { frames := 0, cells := zh_N s0 - zh_N s0, slots := zh_M s0 - zh_M s0, locals := 0 } (zh_N s0) (zh_M s0) s0 := ⟨by show zh_N s0 ≤ zh_N s0 + (zh_N s0 - zh_N s0); omega, by show zh_M s0 ≤ zh_M s0 + (zh_M s0 - zh_M s0); omega⟩
  have hF : 0 ≤ ({ frames := 0, cells := zh_N s0 - zh_N s0, slots := zh_M s0 - zh_M s0, locals := 0 } : Room).frames ∧ 0 ≤ ({ frames := 0, cells := zh_N s0 - zh_N s0, slots := zh_M s0 - zh_M s0, locals := 0 } : Room).locals := ⟨Nat.le_refl _, Nat.le_refl _⟩
  have hret := fun (hz : r = 0 ∨ r = 1) (pc : Nat) (lv : List (Nat × Value)) (hd : decode ze_Reader_isInteger pc = .ok (.ireturn, 1)) => zg_iret (R := { frames := 0, cells := zh_N s0 - zh_N s0, slots := zh_M s0 - zh_M s0, locals := 0 }) (l := l) (e := e) (below := below) (c0 := zh_N s0) (s0 := zh_M s0) (z := s0) (lv := lv) (v := r) X (zx_nz hz) hd
  refine zg_1 (pc' := 1) (fun _ _ _ _ _ hl w => lv_iload_n hx hb zd_Reader_isInteger_0 rfl (lv_at hl 1 rfl) w) ?_
  refine zg_1 (pc' := 2) (fun _ _ _ _ _ hl w => lv_aload_n hx hb zd_Reader_isInteger_1 rfl (lv_at hl 0 rfl) w) ?_
  obtain ⟨h_1, hf⟩ := zx_ck hf
  refine zg_get (pc' := 5) (ci := 2) hx hb htT zi_Reader hown hK h_1 rfl rfl 1 (by decide) (htT _ zt_497) (fun _ h9 => h9) rfl zd_Reader_isInteger_2 rfl ?_
  refine zg_1 (pc' := 6) (fun _ _ _ _ _ hl w => lv_isub hx hb zd_Reader_isInteger_5 w) ?_
  obtain ⟨i_2, e_i_2, hf⟩ := zx_l hf
  refine zg_ti e_i_2 ?_
  refine zg_s (pc' := 7) (lv' := [(2, .int i_2), (0, .ref (h0 + a0)), (1, .int i1)]) (fun _ _ _ _ _ hl w => lv_istore_n hx hb zd_Reader_isInteger_6 rfl hl (by decide) rfl w) ?_
  refine zg_1 (pc' := 8) (fun _ _ _ _ _ hl w => lv_iload_n hx hb zd_Reader_isInteger_7 rfl (lv_at hl 0 rfl) w) ?_
  refine zg_1 (pc' := 9) (fun _ _ _ _ _ hl w => lv_iconst (v := (1 : Int32)) hx hb zd_Reader_isInteger_8 (by decide) w) ?_
  refine zg_2 (pc1 := 18) (pc2 := 12) (Classical.em _) (fun _ _ _ _ _ w1 w2 => lv_icmp_lt hx hb zd_Reader_isInteger_9 (by decide) w1 w2) (fun hc => ?_) (fun hc => ?_)
  · rw [if_pos hc] at hf
    refine zg_1 (pc' := 19) (fun _ _ _ _ _ hl w => lv_iconst (v := (0 : Int32)) hx hb zd_Reader_isInteger_18 (by decide) w) ?_
    obtain rfl := zx_r1 hf
    exact hret (Or.inl rfl) _ _ zd_Reader_isInteger_19
  · rw [if_neg hc] at hf
    refine zg_1 (pc' := 13) (fun _ _ _ _ _ hl w => lv_iload_n hx hb zd_Reader_isInteger_12 rfl (lv_at hl 0 rfl) w) ?_
    refine zg_1 (pc' := 15) (fun _ _ _ _ _ hl w => lv_bipush (v := (8 : Int32)) hx hb zd_Reader_isInteger_13 (by decide) w) ?_
    refine zg_2 (pc1 := 20) (pc2 := 18) (Classical.em _) (fun _ _ _ _ _ w1 w2 => lv_icmp_le hx hb zd_Reader_isInteger_15 (by decide) w1 w2) (fun hc => ?_) (fun hc => ?_)
    · rw [if_pos hc] at hf
      refine zg_1 (pc' := 21) (fun _ _ _ _ _ hl w => lv_aload_n hx hb zd_Reader_isInteger_20 rfl (lv_at hl 1 rfl) w) ?_
      obtain ⟨a_3, h_4, hf⟩ := zx_p hf
      refine zg_get (pc' := 24) (ci := 2) hx hb htT zi_Reader hown hK h_1 rfl rfl 0 (by decide) (htT _ zt_496) (fun _ h9 => h9) (zx_hv h_4) zd_Reader_isInteger_21 rfl ?_
      obtain ⟨h_5, hf⟩ := zx_ck hf
      obtain ⟨a_6, h_7, hf⟩ := zx_p hf
      refine zg_get (pc' := 27) (ci := 1) hx hb htT zi_Draft hown hK h_5 rfl rfl 0 (by decide) (htT _ zt_93) (fun _ h9 => h9) (zx_hv h_7) zd_Reader_isInteger_24 rfl ?_
      refine zg_1 (pc' := 28) (fun _ _ _ _ _ hl w => lv_aload_n hx hb zd_Reader_isInteger_27 rfl (lv_at hl 1 rfl) w) ?_
      refine zg_get (pc' := 31) (ci := 2) hx hb htT zi_Reader hown hK h_1 rfl rfl 1 (by decide) (htT _ zt_497) (fun _ h9 => h9) rfl zd_Reader_isInteger_28 rfl ?_
      obtain ⟨h_8, hf⟩ := zx_ck hf
      refine zg_iald (pc' := 32) hx hb hK h_8 zd_Reader_isInteger_31 rfl ?_
      obtain ⟨i_9, e_i_9, hf⟩ := zx_l hf
      refine zg_ti e_i_9 ?_
      refine zg_s (pc' := 33) (lv' := [(3, .int i_9), (2, .int i_2), (0, .ref (h0 + a0)), (1, .int i1)]) (fun _ _ _ _ _ hl w => lv_istore_n hx hb zd_Reader_isInteger_32 rfl hl (by decide) rfl w) ?_
      refine zg_1 (pc' := 34) (fun _ _ _ _ _ hl w => lv_iload_n hx hb zd_Reader_isInteger_33 rfl (lv_at hl 0 rfl) w) ?_
      refine zg_1 (pc' := 37) (fun _ _ _ _ _ hl w => lv_sipush (v := (128 : Int32)) hx hb zd_Reader_isInteger_34 (by decide) w) ?_
      refine zg_2 (pc1 := 73) (pc2 := 40) (Classical.em _) (fun _ _ _ _ _ w1 w2 => lv_icmp_ge hx hb zd_Reader_isInteger_37 (by decide) w1 w2) (fun hc => ?_) (fun hc => ?_)
      · rw [if_pos hc] at hf
        refine zg_1 (pc' := 74) (fun _ _ _ _ _ hl w => lv_iconst (v := (0 : Int32)) hx hb zd_Reader_isInteger_73 (by decide) w) ?_
        obtain rfl := zx_r1 hf
        exact hret (Or.inl rfl) _ _ zd_Reader_isInteger_74
      · rw [if_neg hc] at hf
        refine zg_1 (pc' := 41) (fun _ _ _ _ _ hl w => lv_iload_n hx hb zd_Reader_isInteger_40 rfl (lv_at hl 0 rfl) w) ?_
        refine zg_2 (pc1 := 69) (pc2 := 44) (Classical.em _) (fun _ _ _ _ _ w1 w2 => lv_if_gt hx hb zd_Reader_isInteger_41 (by decide) w1 w2) (fun hc => ?_) (fun hc => ?_)
        · rw [if_pos hc] at hf
          refine zg_1 (pc' := 70) (fun _ _ _ _ _ hl w => lv_iconst (v := (1 : Int32)) hx hb zd_Reader_isInteger_69 (by decide) w) ?_
          refine zg_1 (pc' := 74) (fun _ _ _ _ _ hl w => lv_goto hx hb zd_Reader_isInteger_70 (by decide) w) ?_
          obtain rfl := zx_r1 hf
          exact hret (Or.inr rfl) _ _ zd_Reader_isInteger_74
        · rw [if_neg hc] at hf
          refine zg_1 (pc' := 45) (fun _ _ _ _ _ hl w => lv_iload_n hx hb zd_Reader_isInteger_44 rfl (lv_at hl 1 rfl) w) ?_
          refine zg_1 (pc' := 46) (fun _ _ _ _ _ hl w => lv_iconst (v := (1 : Int32)) hx hb zd_Reader_isInteger_45 (by decide) w) ?_
          refine zg_2 (pc1 := 69) (pc2 := 49) (Classical.em _) (fun _ _ _ _ _ w1 w2 => lv_icmp_eq hx hb zd_Reader_isInteger_46 (by decide) w1 w2) (fun hc => ?_) (fun hc => ?_)
          · rw [if_pos hc] at hf
            refine zg_1 (pc' := 70) (fun _ _ _ _ _ hl w => lv_iconst (v := (1 : Int32)) hx hb zd_Reader_isInteger_69 (by decide) w) ?_
            refine zg_1 (pc' := 74) (fun _ _ _ _ _ hl w => lv_goto hx hb zd_Reader_isInteger_70 (by decide) w) ?_
            obtain rfl := zx_r1 hf
            exact hret (Or.inr rfl) _ _ zd_Reader_isInteger_74
          · rw [if_neg hc] at hf
            refine zg_1 (pc' := 50) (fun _ _ _ _ _ hl w => lv_aload_n hx hb zd_Reader_isInteger_49 rfl (lv_at hl 2 rfl) w) ?_
            obtain ⟨a_10, h_11, hf⟩ := zx_p hf
            refine zg_get (pc' := 53) (ci := 2) hx hb htT zi_Reader hown hK h_1 rfl rfl 0 (by decide) (htT _ zt_496) (fun _ h9 => h9) (zx_hv h_11) zd_Reader_isInteger_50 rfl ?_
            obtain ⟨h_12, hf⟩ := zx_ck hf
            obtain ⟨a_13, h_14, hf⟩ := zx_p hf
            refine zg_get (pc' := 56) (ci := 1) hx hb htT zi_Draft hown hK h_12 rfl rfl 0 (by decide) (htT _ zt_93) (fun _ h9 => h9) (zx_hv h_14) zd_Reader_isInteger_53 rfl ?_
            refine zg_1 (pc' := 57) (fun _ _ _ _ _ hl w => lv_aload_n hx hb zd_Reader_isInteger_56 rfl (lv_at hl 2 rfl) w) ?_
            refine zg_get (pc' := 60) (ci := 2) hx hb htT zi_Reader hown hK h_1 rfl rfl 1 (by decide) (htT _ zt_497) (fun _ h9 => h9) rfl zd_Reader_isInteger_57 rfl ?_
            refine zg_1 (pc' := 61) (fun _ _ _ _ _ hl w => lv_iconst (v := (1 : Int32)) hx hb zd_Reader_isInteger_60 (by decide) w) ?_
            refine zg_1 (pc' := 62) (fun _ _ _ _ _ hl w => lv_iadd hx hb zd_Reader_isInteger_61 w) ?_
            obtain ⟨h_15, hf⟩ := zx_ck hf
            refine zg_iald (pc' := 63) hx hb hK h_15 zd_Reader_isInteger_62 rfl ?_
            refine zg_1 (pc' := 66) (fun _ _ _ _ _ hl w => lv_sipush (v := (128 : Int32)) hx hb zd_Reader_isInteger_63 (by decide) w) ?_
            refine zg_2 (pc1 := 73) (pc2 := 69) (Classical.em _) (fun _ _ _ _ _ w1 w2 => lv_icmp_lt hx hb zd_Reader_isInteger_66 (by decide) w1 w2) (fun hc => ?_) (fun hc => ?_)
            · rw [if_pos hc] at hf
              refine zg_1 (pc' := 74) (fun _ _ _ _ _ hl w => lv_iconst (v := (0 : Int32)) hx hb zd_Reader_isInteger_73 (by decide) w) ?_
              obtain rfl := zx_r1 hf
              exact hret (Or.inl rfl) _ _ zd_Reader_isInteger_74
            · rw [if_neg hc] at hf
              refine zg_1 (pc' := 70) (fun _ _ _ _ _ hl w => lv_iconst (v := (1 : Int32)) hx hb zd_Reader_isInteger_69 (by decide) w) ?_
              refine zg_1 (pc' := 74) (fun _ _ _ _ _ hl w => lv_goto hx hb zd_Reader_isInteger_70 (by decide) w) ?_
              obtain rfl := zx_r1 hf
              exact hret (Or.inr rfl) _ _ zd_Reader_isInteger_74
    · rw [if_neg hc] at hf
      refine zg_1 (pc' := 19) (fun _ _ _ _ _ hl w => lv_iconst (v := (0 : Int32)) hx hb zd_Reader_isInteger_18 (by decide) w) ?_
      obtain rfl := zx_r1 hf
      exact hret (Or.inl rfl) _ _ zd_Reader_isInteger_19
set_option maxHeartbeats 4000000 in
theorem zw_Reader_readInteger_41 {p : Program} {l : Launch} {e : Env} {R : Room} {s : State} {m : MethodId} {args : Array Value} {below : List Frame} {meth : Method} {c : Code} {Q : State → Prop} {h0 : Nat} {D : va_G} {dA : Nat → ClassId} {tb : Nat → Nat} {c0 k0 : Nat} {z : zh_S} {r : Int64} (X : zg_X p s m args meth c ze_Reader_readInteger 6 zr_Reader (some .long) h0 D dA tb) (hR : zg_R R c0 k0 z) (hF : 2 ≤ R.frames ∧ 46 ≤ R.locals) (hret : ∀ (pc : Nat) (lv : List (Nat × Value)), decode ze_Reader_readInteger pc = .ok (.lreturn, 1) → zg_G p l e R s m args below meth c Q h0 D dA 6 c0 k0 z z pc lv [.long r]) (n : Nat) (k : Nat) : ∀ (s0 : zh_S) (a0 : Nat) (i3 : Int32) (j4 : Int64), zl_Reader_readInteger_41 n k s0 a0 i3 j4 = some (r, z) → zg_G p l e R s m args below meth c Q h0 D dA 6 c0 k0 z s0 41 [(0, .ref (h0 + a0)), (3, .int i3), (4, .long j4)] [] := by
  obtain ⟨hx, hb, hml, hown, htT, hrt, hlk, x00, hIn⟩ := id X
  have hK := hIn.2.1
  have hT := hIn.2.2.1
  have hNe := hIn.2.2.2
  induction k with
  | zero => intro s0 a0 i3 j4 hf; cases hf
  | succ k ih =>
    intro s0 a0 i3 j4 hf
    rw [zl_Reader_readInteger_41] at hf
    refine zg_1 (pc' := 42) (fun _ _ _ _ _ hl w => lv_aload_n hx hb zd_Reader_readInteger_41 rfl (lv_at hl 0 rfl) w) ?_
    obtain ⟨h_1, hf⟩ := zx_ck hf
    refine zg_get (pc' := 45) (ci := 2) hx hb htT zi_Reader hown hK h_1 rfl rfl 1 (by decide) (htT _ zt_497) (fun _ h9 => h9) rfl zd_Reader_readInteger_42 rfl ?_
    refine zg_1 (pc' := 46) (fun _ _ _ _ _ hl w => lv_iload_n hx hb zd_Reader_readInteger_45 rfl (lv_at hl 1 rfl) w) ?_
    refine zg_2 (pc1 := 83) (pc2 := 49) (Classical.em _) (fun _ _ _ _ _ w1 w2 => lv_icmp_ge hx hb zd_Reader_readInteger_46 (by decide) w1 w2) (fun hc => ?_) (fun hc => ?_)
    · rw [if_pos hc] at hf
      refine zg_1 (pc' := 85) (fun _ _ _ _ _ hl w => lv_lload hx hb zd_Reader_readInteger_83 (lv_at hl 2 rfl) w) ?_
      obtain ⟨rfl, rfl⟩ := zx_r2 hf
      exact hret _ _ zd_Reader_readInteger_85
    · rw [if_neg hc] at hf
      refine zg_1 (pc' := 51) (fun _ _ _ _ _ hl w => lv_lload hx hb zd_Reader_readInteger_49 (lv_at hl 2 rfl) w) ?_
      refine zg_1 (pc' := 53) (fun _ _ _ _ _ hl w => lv_bipush (v := (8 : Int32)) hx hb zd_Reader_readInteger_51 (by decide) w) ?_
      refine zg_1 (pc' := 54) (fun _ _ _ _ _ hl w => lv_lshl (v := (j4 <<< ((8 : Int32).toInt64 &&& 63))) hx hb zd_Reader_readInteger_53 rfl w) ?_
      refine zg_1 (pc' := 55) (fun _ _ _ _ _ hl w => lv_aload_n hx hb zd_Reader_readInteger_54 rfl (lv_at hl 0 rfl) w) ?_
      obtain ⟨a_2, h_3, hf⟩ := zx_p hf
      refine zg_get (pc' := 58) (ci := 2) hx hb htT zi_Reader hown hK h_1 rfl rfl 0 (by decide) (htT _ zt_496) (fun _ h9 => h9) (zx_hv h_3) zd_Reader_readInteger_55 rfl ?_
      obtain ⟨h_4, hf⟩ := zx_ck hf
      obtain ⟨a_5, h_6, hf⟩ := zx_p hf
      refine zg_get (pc' := 61) (ci := 1) hx hb htT zi_Draft hown hK h_4 rfl rfl 0 (by decide) (htT _ zt_93) (fun _ h9 => h9) (zx_hv h_6) zd_Reader_readInteger_58 rfl ?_
      refine zg_1 (pc' := 62) (fun _ _ _ _ _ hl w => lv_aload_n hx hb zd_Reader_readInteger_61 rfl (lv_at hl 0 rfl) w) ?_
      refine zg_get (pc' := 65) (ci := 2) hx hb htT zi_Reader hown hK h_1 rfl rfl 1 (by decide) (htT _ zt_497) (fun _ h9 => h9) rfl zd_Reader_readInteger_62 rfl ?_
      obtain ⟨h_7, hf⟩ := zx_ck hf
      refine zg_iald (pc' := 66) hx hb hK h_7 zd_Reader_readInteger_65 rfl ?_
      refine zg_1 (pc' := 67) (fun _ _ _ _ _ hl w => lv_i2l (v := (zh_I s0 a_5 ((zh_I s0 a0 1).toNatClampNeg)).toInt64) hx hb zd_Reader_readInteger_66 rfl w) ?_
      refine zg_1 (pc' := 68) (fun _ _ _ _ _ hl w => lv_lor hx hb zd_Reader_readInteger_67 w) ?_
      obtain ⟨j_8, e_j_8, hf⟩ := zx_l hf
      refine zg_tl e_j_8 ?_
      refine zg_s (pc' := 70) (lv' := [(4, .long j_8), (0, .ref (h0 + a0)), (3, .int i3)]) (fun _ _ _ _ _ hl w => lv_lstore hx hb zd_Reader_readInteger_68 hl (by decide) rfl w) ?_
      refine zg_1 (pc' := 71) (fun _ _ _ _ _ hl w => lv_aload_n hx hb zd_Reader_readInteger_70 rfl (lv_at hl 1 rfl) w) ?_
      refine zg_1 (pc' := 72) (fun _ _ _ _ _ hl w => lv_dup hx hb zd_Reader_readInteger_71 rfl w) ?_
      refine zg_get (pc' := 75) (ci := 2) hx hb htT zi_Reader hown hK h_1 rfl rfl 1 (by decide) (htT _ zt_497) (fun _ h9 => h9) rfl zd_Reader_readInteger_72 rfl ?_
      refine zg_1 (pc' := 76) (fun _ _ _ _ _ hl w => lv_iconst (v := (1 : Int32)) hx hb zd_Reader_readInteger_75 (by decide) w) ?_
      refine zg_1 (pc' := 77) (fun _ _ _ _ _ hl w => lv_iadd hx hb zd_Reader_readInteger_76 w) ?_
      obtain ⟨s_9, e_s_9, hf⟩ := zx_l hf
      refine zg_putI (pc' := 80) (ci := 2) (ty := .int) hx hb htT zi_Reader zy_Reader zo_Reader zj_Reader hown hK h_1 rfl rfl 1 (by decide) (htT _ zt_497) (fun _ h9 => h9) (Or.inl rfl) (by decide +kernel) rfl rfl rfl e_s_9 zd_Reader_readInteger_77 rfl ?_
      refine zg_1 (pc' := 41) (fun _ _ _ _ _ hl w => lv_goto hx hb zd_Reader_readInteger_80 (by decide) w) ?_
      refine zg_v [1, 2, 0] rfl ?_
      exact ih s_9 a0 i3 j_8 hf
set_option maxHeartbeats 4000000 in
theorem zc_Reader_readInteger (l : Launch) (h0 : Nat) (D : va_G) (dA : Nat → ClassId) (tb : Nat → Nat) (n : Nat) {s0 : zh_S} {a0 : Nat} {i1 : Int32} {r : Int64} {z : zh_S} (hf : zf_Reader_readInteger n s0 a0 i1 = some (r, z)) : zc_M l zn_Reader_readInteger zs_Reader_readInteger 2 46 h0 D dA tb [.ref (h0 + a0), .int i1] s0 (some (.long r)) z := by
  rw [zf_Reader_readInteger] at hf
  refine zc_of (cc := ze_Reader_readInteger) (maxL := 6) (ret := (some .long)) (lv := [(0, .ref (h0 + a0)), (1, .int i1)]) (by decide) rfl (Nat.le_of_ble_eq_true rfl) rfl ?_
  intro p e s m args below meth c X hnm
  obtain ⟨hx, hb, hml, hown, htT, hrt, hlk, x00, hIn⟩ := id X
  have hK := hIn.2.1
  have hT := hIn.2.2.1
  have hNe := hIn.2.2.2
  have hR : zg_R { frames := 2, cells := zh_N z - zh_N s0, slots := zh_M z - zh_M s0, locals := 46 } (zh_N s0) (zh_M s0) z := ⟨by show zh_N z ≤ zh_N s0 + (zh_N z - zh_N s0); omega, by show zh_M z ≤ zh_M s0 + (zh_M z - zh_M s0); omega⟩
  have hF : 2 ≤ ({ frames := 2, cells := zh_N z - zh_N s0, slots := zh_M z - zh_M s0, locals := 46 } : Room).frames ∧ 46 ≤ ({ frames := 2, cells := zh_N z - zh_N s0, slots := zh_M z - zh_M s0, locals := 46 } : Room).locals := ⟨Nat.le_refl _, Nat.le_refl _⟩
  have hret := fun (pc : Nat) (lv : List (Nat × Value)) (hd : decode ze_Reader_readInteger pc = .ok (.lreturn, 1)) => zg_lret (R := { frames := 2, cells := zh_N z - zh_N s0, slots := zh_M z - zh_M s0, locals := 46 }) (l := l) (e := e) (below := below) (c0 := zh_N s0) (s0 := zh_M s0) (z := z) (lv := lv) (v := r) X hd
  refine zg_1 (pc' := 1) (fun _ _ _ _ _ hl w => lv_aload_n hx hb zd_Reader_readInteger_0 rfl (lv_at hl 0 rfl) w) ?_
  obtain ⟨h_1, hf⟩ := zx_ck hf
  refine zg_get (pc' := 4) (ci := 2) hx hb htT zi_Reader hown hK h_1 rfl rfl 1 (by decide) (htT _ zt_497) (fun _ h9 => h9) rfl zd_Reader_readInteger_1 rfl ?_
  obtain ⟨i_2, e_i_2, hf⟩ := zx_l hf
  refine zg_ti e_i_2 ?_
  refine zg_s (pc' := 5) (lv' := [(2, .int i_2), (0, .ref (h0 + a0)), (1, .int i1)]) (fun _ _ _ _ _ hl w => lv_istore_n hx hb zd_Reader_readInteger_4 rfl hl (by decide) rfl w) ?_
  refine zg_1 (pc' := 6) (fun _ _ _ _ _ hl w => lv_aload_n hx hb zd_Reader_readInteger_5 rfl (lv_at hl 1 rfl) w) ?_
  refine zg_1 (pc' := 7) (fun _ _ _ _ _ hl w => lv_iconst (v := (2 : Int32)) hx hb zd_Reader_readInteger_6 (by decide) w) ?_
  refine zg_1 (pc' := 8) (fun _ _ _ _ _ hl w => lv_iload_n hx hb zd_Reader_readInteger_7 rfl (lv_at hl 2 rfl) w) ?_
  obtain ⟨i_4, s_3, hq, hf⟩ := zx_b hf
  refine zg_call (pc' := 11) (y := s_3) (rv := (some (.int i_4))) (rest := []) X hR (zm_Reader_open hq) (fun H locs ls k j hsz hI hU hk => va_runV (As := [.int (2 : Int32), .int i1]) (rest := []) ⟨hx, hb, hml, hown, htT⟩ (zc_Reader_open l h0 D dA tb n hq) (cwV 2 htT (zw_gV zt_519 zt_521 zt_6 zt_75 zt_522) rfl rfl rfl (by decide +kernel) ⟨Nat.le_trans (Nat.le_of_ble_eq_true rfl) hF.1, Nat.le_trans (Nat.le_of_ble_eq_true rfl) hF.2⟩) ⟨(zg_pre hU).1, zg_recv hK hI h_1 rfl, (zg_pre hU).2⟩ rfl rfl hsz rfl (lv_room (Nat.le_of_ble_eq_true rfl)) zd_Reader_readInteger_8 hk) rfl ?_
  refine zg_s (pc' := 12) (lv' := [(3, .int i_4), (2, .int i_2), (0, .ref (h0 + a0)), (1, .int i1)]) (fun _ _ _ _ _ hl w => lv_istore_n hx hb zd_Reader_readInteger_11 rfl hl (by decide) rfl w) ?_
  refine zg_1 (pc' := 13) (fun _ _ _ _ _ hl w => lv_aload_n hx hb zd_Reader_readInteger_12 rfl (lv_at hl 2 rfl) w) ?_
  obtain ⟨h_5, hf⟩ := zx_ck hf
  refine zg_get (pc' := 16) (ci := 2) hx hb htT zi_Reader hown hK h_5 rfl rfl 2 (by decide) (htT _ zt_498) (fun _ h9 => h9) rfl zd_Reader_readInteger_13 rfl ?_
  refine zg_2 (pc1 := 21) (pc2 := 19) (Classical.em _) (fun _ _ _ _ _ w1 w2 => lv_if_eq hx hb zd_Reader_readInteger_16 (by decide) w1 w2) (fun hc => ?_) (fun hc => ?_)
  · rw [if_pos hc] at hf
    refine zg_1 (pc' := 22) (fun _ _ _ _ _ hl w => lv_aload_n hx hb zd_Reader_readInteger_21 rfl (lv_at hl 2 rfl) w) ?_
    refine zg_1 (pc' := 23) (fun _ _ _ _ _ hl w => lv_iload_n hx hb zd_Reader_readInteger_22 rfl (lv_at hl 0 rfl) w) ?_
    obtain ⟨i_6, hq, hf⟩ := zx_p hf
    refine zg_call (pc' := 26) (y := s_3) (rv := (some (.int i_6))) (rest := []) X hR ⟨Nat.le_refl _, Nat.le_refl _⟩ (fun H locs ls k j hsz hI hU hk => va_runV (As := [.int i_4]) (rest := []) ⟨hx, hb, hml, hown, htT⟩ (zc_Reader_isInteger l h0 D dA tb n hq) (cwV 1 htT (zw_gV zt_531 zt_533 zt_9 zt_75 zt_534) rfl rfl rfl (by decide +kernel) ⟨Nat.le_trans (Nat.le_of_ble_eq_true rfl) hF.1, Nat.le_trans (Nat.le_of_ble_eq_true rfl) hF.2⟩) ⟨(zg_pre hU).1, zg_recv hK hI h_5 rfl, (zg_pre hU).2⟩ rfl rfl hsz rfl (lv_room (Nat.le_of_ble_eq_true rfl)) zd_Reader_readInteger_23 hk) rfl ?_
    refine zg_2 (pc1 := 38) (pc2 := 29) (Classical.em _).symm (fun _ _ _ _ _ w1 w2 => lv_if_ne hx hb zd_Reader_readInteger_26 (by decide) w1 w2) (fun hc => ?_) (fun hc => ?_)
    · rw [if_neg hc] at hf
      refine zg_1 (pc' := 39) (fun _ _ _ _ _ hl w => lv_lconst (v := (0 : Int64)) hx hb zd_Reader_readInteger_38 (by decide) w) ?_
      refine zg_s (pc' := 41) (lv' := [(4, .long (0 : Int64)), (3, .int i_4), (2, .int i_2), (0, .ref (h0 + a0)), (1, .int i1)]) (fun _ _ _ _ _ hl w => lv_lstore hx hb zd_Reader_readInteger_39 hl (by decide) rfl w) ?_
      refine zg_v [3, 1, 0] rfl ?_
      exact zw_Reader_readInteger_41 X hR hF hret n n s_3 a0 i_4 (0 : Int64) hf
    · rw [if_pos hc] at hf
      refine zg_1 (pc' := 30) (fun _ _ _ _ _ hl w => lv_aload_n hx hb zd_Reader_readInteger_29 rfl (lv_at hl 2 rfl) w) ?_
      refine zg_1 (pc' := 31) (fun _ _ _ _ _ hl w => lv_iconst (v := (4 : Int32)) hx hb zd_Reader_readInteger_30 (by decide) w) ?_
      refine zg_1 (pc' := 32) (fun _ _ _ _ _ hl w => lv_iload_n hx hb zd_Reader_readInteger_31 rfl (lv_at hl 1 rfl) w) ?_
      obtain ⟨i_8, s_7, hq, hf⟩ := zx_b hf
      refine zg_call (pc' := 35) (y := s_7) (rv := (some (.int i_8))) (rest := []) X hR (zm_Reader_fail hq) (fun H locs ls k j hsz hI hU hk => va_runV (As := [.int (4 : Int32), .int i_2]) (rest := []) ⟨hx, hb, hml, hown, htT⟩ (zc_Reader_fail l h0 D dA tb n hq) (cwV 2 htT (zw_gV zt_523 zt_525 zt_7 zt_75 zt_526) rfl rfl rfl (by decide +kernel) ⟨Nat.le_trans (Nat.le_of_ble_eq_true rfl) hF.1, Nat.le_trans (Nat.le_of_ble_eq_true rfl) hF.2⟩) ⟨(zg_pre hU).1, zg_recv hK hI h_5 rfl, (zg_pre hU).2⟩ rfl rfl hsz rfl (lv_room (Nat.le_of_ble_eq_true rfl)) zd_Reader_readInteger_32 hk) rfl ?_
      refine zg_1 (pc' := 36) (fun _ _ _ _ _ hl w => lv_pop hx hb zd_Reader_readInteger_35 rfl w) ?_
      refine zg_1 (pc' := 37) (fun _ _ _ _ _ hl w => lv_lconst (v := (0 : Int64)) hx hb zd_Reader_readInteger_36 (by decide) w) ?_
      obtain ⟨rfl, rfl⟩ := zx_r2 hf
      exact hret _ _ zd_Reader_readInteger_37
  · rw [if_neg hc] at hf
    refine zg_1 (pc' := 20) (fun _ _ _ _ _ hl w => lv_lconst (v := (0 : Int64)) hx hb zd_Reader_readInteger_19 (by decide) w) ?_
    obtain ⟨rfl, rfl⟩ := zx_r2 hf
    exact hret _ _ zd_Reader_readInteger_20
set_option maxHeartbeats 4000000 in
theorem zw_Names_isName_62 {p : Program} {l : Launch} {e : Env} {R : Room} {s : State} {m : MethodId} {args : Array Value} {below : List Frame} {meth : Method} {c : Code} {Q : State → Prop} {h0 : Nat} {D : va_G} {dA : Nat → ClassId} {tb : Nat → Nat} {c0 k0 : Nat} {s0 : zh_S} {r : Int32} (X : zg_X p s m args meth c ze_Names_isName 6 zr_Names (some .boolean) h0 D dA tb) (hR : zg_R R c0 k0 s0) (hF : 0 ≤ R.frames ∧ 0 ≤ R.locals) (hret : (r = 0 ∨ r = 1) → ∀ (pc : Nat) (lv : List (Nat × Value)), decode ze_Names_isName pc = .ok (.ireturn, 1) → zg_G p l e R s m args below meth c Q h0 D dA 6 c0 k0 s0 s0 pc lv [.int r]) (n : Nat) (r22 : Int32 → Int64 → Option Int32) (hr22 : ∀ (i2 : Int32) (j3 : Int64), r22 i2 j3 = some r → zg_G p l e R s m args below meth c Q h0 D dA 6 c0 k0 s0 s0 22 [(2, .int i2), (3, .long j3)] []) : ∀ (j3 : Int64) (i5 : Int32), zb_Names_isName_62 n r22 j3 i5 = some r → zg_G p l e R s m args below meth c Q h0 D dA 6 c0 k0 s0 s0 62 [(3, .long j3), (5, .int i5)] [] := by
  obtain ⟨hx, hb, hml, hown, htT, hrt, hlk, x00, hIn⟩ := id X
  have hK := hIn.2.1
  have hT := hIn.2.2.1
  have hNe := hIn.2.2.2
  intro j3 i5 hf
  rw [zb_Names_isName_62] at hf
  refine zg_1 (pc' := 64) (fun _ _ _ _ _ hl w => lv_iload hx hb zd_Names_isName_62 (lv_at hl 1 rfl) w) ?_
  refine zg_s (pc' := 65) (lv' := [(2, .int i5), (3, .long j3), (5, .int i5)]) (fun _ _ _ _ _ hl w => lv_istore_n hx hb zd_Names_isName_64 rfl hl (by decide) rfl w) ?_
  refine zg_1 (pc' := 66) (fun _ _ _ _ _ hl w => lv_lload_n hx hb zd_Names_isName_65 rfl (lv_at hl 1 rfl) w) ?_
  refine zg_1 (pc' := 67) (fun _ _ _ _ _ hl w => lv_iconst (v := (5 : Int32)) hx hb zd_Names_isName_66 (by decide) w) ?_
  refine zg_1 (pc' := 68) (fun _ _ _ _ _ hl w => lv_lushr (v := (zu_l j3 (5 : Int32))) hx hb zd_Names_isName_67 rfl w) ?_
  obtain ⟨j_1, e_j_1, hf⟩ := zx_l hf
  refine zg_tl e_j_1 ?_
  refine zg_s (pc' := 69) (lv' := [(3, .long j_1), (2, .int i5), (5, .int i5)]) (fun _ _ _ _ _ hl w => lv_lstore_n hx hb zd_Names_isName_68 rfl hl (by decide) rfl w) ?_
  refine zg_1 (pc' := 22) (fun _ _ _ _ _ hl w => lv_goto hx hb zd_Names_isName_69 (by decide) w) ?_
  refine zg_v [1, 0] rfl ?_
  exact hr22 i5 j_1 hf
set_option maxHeartbeats 4000000 in
theorem zw_Names_isName_22 {p : Program} {l : Launch} {e : Env} {R : Room} {s : State} {m : MethodId} {args : Array Value} {below : List Frame} {meth : Method} {c : Code} {Q : State → Prop} {h0 : Nat} {D : va_G} {dA : Nat → ClassId} {tb : Nat → Nat} {c0 k0 : Nat} {s0 : zh_S} {r : Int32} (X : zg_X p s m args meth c ze_Names_isName 6 zr_Names (some .boolean) h0 D dA tb) (hR : zg_R R c0 k0 s0) (hF : 0 ≤ R.frames ∧ 0 ≤ R.locals) (hret : (r = 0 ∨ r = 1) → ∀ (pc : Nat) (lv : List (Nat × Value)), decode ze_Names_isName pc = .ok (.ireturn, 1) → zg_G p l e R s m args below meth c Q h0 D dA 6 c0 k0 s0 s0 pc lv [.int r]) (n : Nat) (k : Nat) : ∀ (i2 : Int32) (j3 : Int64), zl_Names_isName_22 n k i2 j3 = some r → zg_G p l e R s m args below meth c Q h0 D dA 6 c0 k0 s0 s0 22 [(2, .int i2), (3, .long j3)] [] := by
  obtain ⟨hx, hb, hml, hown, htT, hrt, hlk, x00, hIn⟩ := id X
  have hK := hIn.2.1
  have hT := hIn.2.2.1
  have hNe := hIn.2.2.2
  induction k with
  | zero => intro i2 j3 hf; cases hf
  | succ k ih =>
    intro i2 j3 hf
    rw [zl_Names_isName_22] at hf
    refine zg_1 (pc' := 23) (fun _ _ _ _ _ hl w => lv_lload_n hx hb zd_Names_isName_22 rfl (lv_at hl 1 rfl) w) ?_
    refine zg_1 (pc' := 24) (fun _ _ _ _ _ hl w => lv_lconst (v := (0 : Int64)) hx hb zd_Names_isName_23 (by decide) w) ?_
    refine zg_1 (pc' := 25) (fun _ _ _ _ _ hl w => W.lcmp hx hb zd_Names_isName_24 w) ?_
    refine zg_2 (pc1 := 72) (pc2 := 28) (Classical.em _) (fun _ _ _ _ _ w1 w2 => lv_if_eq hx hb zd_Names_isName_25 (by decide) w1 w2) (fun hc => ?_) (fun hc => ?_)
    · rw [if_pos hc] at hf
      refine zg_1 (pc' := 73) (fun _ _ _ _ _ hl w => lv_iload_n hx hb zd_Names_isName_72 rfl (lv_at hl 0 rfl) w) ?_
      refine zg_1 (pc' := 75) (fun _ _ _ _ _ hl w => lv_bipush (v := (27 : Int32)) hx hb zd_Names_isName_73 (by decide) w) ?_
      refine zg_2 (pc1 := 82) (pc2 := 78) (Classical.em _) (fun _ _ _ _ _ w1 w2 => lv_icmp_eq hx hb zd_Names_isName_75 (by decide) w1 w2) (fun hc => ?_) (fun hc => ?_)
      · rw [if_pos hc] at hf
        refine zg_1 (pc' := 83) (fun _ _ _ _ _ hl w => lv_iconst (v := (0 : Int32)) hx hb zd_Names_isName_82 (by decide) w) ?_
        obtain rfl := zx_r1 hf
        exact hret (Or.inl rfl) _ _ zd_Names_isName_83
      · rw [if_neg hc] at hf
        refine zg_1 (pc' := 79) (fun _ _ _ _ _ hl w => lv_iconst (v := (1 : Int32)) hx hb zd_Names_isName_78 (by decide) w) ?_
        refine zg_1 (pc' := 83) (fun _ _ _ _ _ hl w => lv_goto hx hb zd_Names_isName_79 (by decide) w) ?_
        obtain rfl := zx_r1 hf
        exact hret (Or.inr rfl) _ _ zd_Names_isName_83
    · rw [if_neg hc] at hf
      refine zg_1 (pc' := 29) (fun _ _ _ _ _ hl w => lv_lload_n hx hb zd_Names_isName_28 rfl (lv_at hl 1 rfl) w) ?_
      refine zg_1 (pc' := 30) (fun _ _ _ _ _ hl w => lv_l2i (v := j3.toInt32) hx hb zd_Names_isName_29 rfl w) ?_
      refine zg_1 (pc' := 32) (fun _ _ _ _ _ hl w => lv_bipush (v := (31 : Int32)) hx hb zd_Names_isName_30 (by decide) w) ?_
      refine zg_1 (pc' := 33) (fun _ _ _ _ _ hl w => lv_iand hx hb zd_Names_isName_32 w) ?_
      obtain ⟨i_1, e_i_1, hf⟩ := zx_l hf
      refine zg_ti e_i_1 ?_
      refine zg_s (pc' := 35) (lv' := [(5, .int i_1), (2, .int i2), (3, .long j3)]) (fun _ _ _ _ _ hl w => lv_istore hx hb zd_Names_isName_33 hl (by decide) rfl w) ?_
      refine zg_1 (pc' := 37) (fun _ _ _ _ _ hl w => lv_iload hx hb zd_Names_isName_35 (lv_at hl 0 rfl) w) ?_
      refine zg_2 (pc1 := 60) (pc2 := 40) (Classical.em _) (fun _ _ _ _ _ w1 w2 => lv_if_eq hx hb zd_Names_isName_37 (by decide) w1 w2) (fun hc => ?_) (fun hc => ?_)
      · rw [if_pos hc] at hf
        refine zg_1 (pc' := 61) (fun _ _ _ _ _ hl w => lv_iconst (v := (0 : Int32)) hx hb zd_Names_isName_60 (by decide) w) ?_
        obtain rfl := zx_r1 hf
        exact hret (Or.inl rfl) _ _ zd_Names_isName_61
      · rw [if_neg hc] at hf
        refine zg_1 (pc' := 42) (fun _ _ _ _ _ hl w => lv_iload hx hb zd_Names_isName_40 (lv_at hl 0 rfl) w) ?_
        refine zg_1 (pc' := 44) (fun _ _ _ _ _ hl w => lv_bipush (v := (27 : Int32)) hx hb zd_Names_isName_42 (by decide) w) ?_
        refine zg_2 (pc1 := 60) (pc2 := 47) (Classical.em _) (fun _ _ _ _ _ w1 w2 => lv_icmp_gt hx hb zd_Names_isName_44 (by decide) w1 w2) (fun hc => ?_) (fun hc => ?_)
        · rw [if_pos hc] at hf
          refine zg_1 (pc' := 61) (fun _ _ _ _ _ hl w => lv_iconst (v := (0 : Int32)) hx hb zd_Names_isName_60 (by decide) w) ?_
          obtain rfl := zx_r1 hf
          exact hret (Or.inl rfl) _ _ zd_Names_isName_61
        · rw [if_neg hc] at hf
          refine zg_1 (pc' := 49) (fun _ _ _ _ _ hl w => lv_iload hx hb zd_Names_isName_47 (lv_at hl 0 rfl) w) ?_
          refine zg_1 (pc' := 51) (fun _ _ _ _ _ hl w => lv_bipush (v := (27 : Int32)) hx hb zd_Names_isName_49 (by decide) w) ?_
          refine zg_2 (pc1 := 62) (pc2 := 54) (Classical.em _).symm (fun _ _ _ _ _ w1 w2 => lv_icmp_ne hx hb zd_Names_isName_51 (by decide) w1 w2) (fun hc => ?_) (fun hc => ?_)
          · rw [if_neg hc] at hf
            refine zg_v [2, 0] rfl ?_
            exact zw_Names_isName_62 X hR hF hret n _ ih j3 i_1 hf
          · rw [if_pos hc] at hf
            refine zg_1 (pc' := 55) (fun _ _ _ _ _ hl w => lv_iload_n hx hb zd_Names_isName_54 rfl (lv_at hl 1 rfl) w) ?_
            refine zg_1 (pc' := 57) (fun _ _ _ _ _ hl w => lv_bipush (v := (27 : Int32)) hx hb zd_Names_isName_55 (by decide) w) ?_
            refine zg_2 (pc1 := 62) (pc2 := 60) (Classical.em _).symm (fun _ _ _ _ _ w1 w2 => lv_icmp_ne hx hb zd_Names_isName_57 (by decide) w1 w2) (fun hc => ?_) (fun hc => ?_)
            · rw [if_neg hc] at hf
              refine zg_v [2, 0] rfl ?_
              exact zw_Names_isName_62 X hR hF hret n _ ih j3 i_1 hf
            · rw [if_pos hc] at hf
              refine zg_1 (pc' := 61) (fun _ _ _ _ _ hl w => lv_iconst (v := (0 : Int32)) hx hb zd_Names_isName_60 (by decide) w) ?_
              obtain rfl := zx_r1 hf
              exact hret (Or.inl rfl) _ _ zd_Names_isName_61
set_option maxHeartbeats 4000000 in
theorem zc_Names_isName (l : Launch) (h0 : Nat) (D : va_G) (dA : Nat → ClassId) (tb : Nat → Nat) (n : Nat) {s0 : zh_S} {j0 : Int64} {r : Int32} (hf : zf_Names_isName n j0 = some r) : zc_M l zn_Names_isName zs_Names_isName 0 0 h0 D dA tb [.long j0] s0 (some (.int r)) s0 := by
  rw [zf_Names_isName] at hf
  refine zc_of (cc := ze_Names_isName) (maxL := 6) (ret := (some .boolean)) (lv := [(0, .long j0)]) (by decide) rfl (Nat.le_of_ble_eq_true rfl) rfl ?_
  intro p e s m args below meth c X hnm
  obtain ⟨hx, hb, hml, hown, htT, hrt, hlk, x00, hIn⟩ := id X
  have hK := hIn.2.1
  have hT := hIn.2.2.1
  have hNe := hIn.2.2.2
  have hR : zg_R { frames := 0, cells := zh_N s0 - zh_N s0, slots := zh_M s0 - zh_M s0, locals := 0 } (zh_N s0) (zh_M s0) s0 := ⟨by show zh_N s0 ≤ zh_N s0 + (zh_N s0 - zh_N s0); omega, by show zh_M s0 ≤ zh_M s0 + (zh_M s0 - zh_M s0); omega⟩
  have hF : 0 ≤ ({ frames := 0, cells := zh_N s0 - zh_N s0, slots := zh_M s0 - zh_M s0, locals := 0 } : Room).frames ∧ 0 ≤ ({ frames := 0, cells := zh_N s0 - zh_N s0, slots := zh_M s0 - zh_M s0, locals := 0 } : Room).locals := ⟨Nat.le_refl _, Nat.le_refl _⟩
  have hret := fun (hz : r = 0 ∨ r = 1) (pc : Nat) (lv : List (Nat × Value)) (hd : decode ze_Names_isName pc = .ok (.ireturn, 1)) => zg_iret (R := { frames := 0, cells := zh_N s0 - zh_N s0, slots := zh_M s0 - zh_M s0, locals := 0 }) (l := l) (e := e) (below := below) (c0 := zh_N s0) (s0 := zh_M s0) (z := s0) (lv := lv) (v := r) X (zx_nz hz) hd
  refine zg_1 (pc' := 1) (fun _ _ _ _ _ hl w => lv_lload_n hx hb zd_Names_isName_0 rfl (lv_at hl 0 rfl) w) ?_
  refine zg_1 (pc' := 2) (fun _ _ _ _ _ hl w => lv_lconst (v := (0 : Int64)) hx hb zd_Names_isName_1 (by decide) w) ?_
  refine zg_1 (pc' := 3) (fun _ _ _ _ _ hl w => W.lcmp hx hb zd_Names_isName_2 w) ?_
  refine zg_2 (pc1 := 15) (pc2 := 6) (Classical.em _) (fun _ _ _ _ _ w1 w2 => lv_if_le hx hb zd_Names_isName_3 (by decide) w1 w2) (fun hc => ?_) (fun hc => ?_)
  · rw [if_pos hc] at hf
    refine zg_1 (pc' := 16) (fun _ _ _ _ _ hl w => lv_iconst (v := (0 : Int32)) hx hb zd_Names_isName_15 (by decide) w) ?_
    obtain rfl := zx_r1 hf
    exact hret (Or.inl rfl) _ _ zd_Names_isName_16
  · rw [if_neg hc] at hf
    refine zg_1 (pc' := 7) (fun _ _ _ _ _ hl w => lv_lload_n hx hb zd_Names_isName_6 rfl (lv_at hl 0 rfl) w) ?_
    refine zg_1 (pc' := 9) (fun _ _ _ _ _ hl w => lv_bipush (v := (40 : Int32)) hx hb zd_Names_isName_7 (by decide) w) ?_
    refine zg_1 (pc' := 10) (fun _ _ _ _ _ hl w => lv_lushr (v := (zu_l j0 (40 : Int32))) hx hb zd_Names_isName_9 rfl w) ?_
    refine zg_1 (pc' := 11) (fun _ _ _ _ _ hl w => lv_lconst (v := (0 : Int64)) hx hb zd_Names_isName_10 (by decide) w) ?_
    refine zg_1 (pc' := 12) (fun _ _ _ _ _ hl w => W.lcmp hx hb zd_Names_isName_11 w) ?_
    refine zg_2 (pc1 := 17) (pc2 := 15) (Classical.em _) (fun _ _ _ _ _ w1 w2 => lv_if_eq hx hb zd_Names_isName_12 (by decide) w1 w2) (fun hc => ?_) (fun hc => ?_)
    · rw [if_pos hc] at hf
      refine zg_1 (pc' := 19) (fun _ _ _ _ _ hl w => lv_bipush (v := (27 : Int32)) hx hb zd_Names_isName_17 (by decide) w) ?_
      refine zg_s (pc' := 20) (lv' := [(2, .int (27 : Int32)), (0, .long j0)]) (fun _ _ _ _ _ hl w => lv_istore_n hx hb zd_Names_isName_19 rfl hl (by decide) rfl w) ?_
      refine zg_1 (pc' := 21) (fun _ _ _ _ _ hl w => lv_lload_n hx hb zd_Names_isName_20 rfl (lv_at hl 1 rfl) w) ?_
      refine zg_s (pc' := 22) (lv' := [(3, .long j0), (2, .int (27 : Int32)), (0, .long j0)]) (fun _ _ _ _ _ hl w => lv_lstore_n hx hb zd_Names_isName_21 rfl hl (by decide) rfl w) ?_
      refine zg_v [1, 0] rfl ?_
      exact zw_Names_isName_22 X hR hF hret n n (27 : Int32) j0 hf
    · rw [if_neg hc] at hf
      refine zg_1 (pc' := 16) (fun _ _ _ _ _ hl w => lv_iconst (v := (0 : Int32)) hx hb zd_Names_isName_15 (by decide) w) ?_
      obtain rfl := zx_r1 hf
      exact hret (Or.inl rfl) _ _ zd_Names_isName_16
set_option maxHeartbeats 4000000 in
theorem zc_Names_fromAscii (l : Launch) (h0 : Nat) (D : va_G) (dA : Nat → ClassId) (tb : Nat → Nat) (n : Nat) {s0 : zh_S} {i0 : Int32} {r : Int32} (hf : zf_Names_fromAscii n i0 = some r) : zc_M l zn_Names_fromAscii zs_Names_fromAscii 0 0 h0 D dA tb [.int i0] s0 (some (.int r)) s0 := by
  rw [zf_Names_fromAscii] at hf
  refine zc_of (cc := ze_Names_fromAscii) (maxL := 1) (ret := (some .int)) (lv := [(0, .int i0)]) (by decide) rfl (Nat.le_of_ble_eq_true rfl) rfl ?_
  intro p e s m args below meth c X hnm
  obtain ⟨hx, hb, hml, hown, htT, hrt, hlk, x00, hIn⟩ := id X
  have hK := hIn.2.1
  have hT := hIn.2.2.1
  have hNe := hIn.2.2.2
  have hR : zg_R { frames := 0, cells := zh_N s0 - zh_N s0, slots := zh_M s0 - zh_M s0, locals := 0 } (zh_N s0) (zh_M s0) s0 := ⟨by show zh_N s0 ≤ zh_N s0 + (zh_N s0 - zh_N s0); omega, by show zh_M s0 ≤ zh_M s0 + (zh_M s0 - zh_M s0); omega⟩
  have hF : 0 ≤ ({ frames := 0, cells := zh_N s0 - zh_N s0, slots := zh_M s0 - zh_M s0, locals := 0 } : Room).frames ∧ 0 ≤ ({ frames := 0, cells := zh_N s0 - zh_N s0, slots := zh_M s0 - zh_M s0, locals := 0 } : Room).locals := ⟨Nat.le_refl _, Nat.le_refl _⟩
  have hret := fun (pc : Nat) (lv : List (Nat × Value)) (hd : decode ze_Names_fromAscii pc = .ok (.ireturn, 1)) => zg_iret (R := { frames := 0, cells := zh_N s0 - zh_N s0, slots := zh_M s0 - zh_M s0, locals := 0 }) (l := l) (e := e) (below := below) (c0 := zh_N s0) (s0 := zh_M s0) (z := s0) (lv := lv) (v := r) X rfl hd
  refine zg_1 (pc' := 1) (fun _ _ _ _ _ hl w => lv_iload_n hx hb zd_Names_fromAscii_0 rfl (lv_at hl 0 rfl) w) ?_
  refine zg_1 (pc' := 3) (fun _ _ _ _ _ hl w => lv_bipush (v := (46 : Int32)) hx hb zd_Names_fromAscii_1 (by decide) w) ?_
  refine zg_2 (pc1 := 9) (pc2 := 6) (Classical.em _).symm (fun _ _ _ _ _ w1 w2 => lv_icmp_ne hx hb zd_Names_fromAscii_3 (by decide) w1 w2) (fun hc => ?_) (fun hc => ?_)
  · rw [if_neg hc] at hf
    refine zg_1 (pc' := 10) (fun _ _ _ _ _ hl w => lv_iload_n hx hb zd_Names_fromAscii_9 rfl (lv_at hl 0 rfl) w) ?_
    refine zg_1 (pc' := 12) (fun _ _ _ _ _ hl w => lv_bipush (v := (97 : Int32)) hx hb zd_Names_fromAscii_10 (by decide) w) ?_
    refine zg_2 (pc1 := 30) (pc2 := 15) (Classical.em _) (fun _ _ _ _ _ w1 w2 => lv_icmp_lt hx hb zd_Names_fromAscii_12 (by decide) w1 w2) (fun hc => ?_) (fun hc => ?_)
    · rw [if_pos hc] at hf
      refine zg_1 (pc' := 32) (fun _ _ _ _ _ hl w => lv_bipush (v := (31 : Int32)) hx hb zd_Names_fromAscii_30 (by decide) w) ?_
      obtain rfl := zx_r1 hf
      exact hret _ _ zd_Names_fromAscii_32
    · rw [if_neg hc] at hf
      refine zg_1 (pc' := 16) (fun _ _ _ _ _ hl w => lv_iload_n hx hb zd_Names_fromAscii_15 rfl (lv_at hl 0 rfl) w) ?_
      refine zg_1 (pc' := 18) (fun _ _ _ _ _ hl w => lv_bipush (v := (122 : Int32)) hx hb zd_Names_fromAscii_16 (by decide) w) ?_
      refine zg_2 (pc1 := 30) (pc2 := 21) (Classical.em _) (fun _ _ _ _ _ w1 w2 => lv_icmp_gt hx hb zd_Names_fromAscii_18 (by decide) w1 w2) (fun hc => ?_) (fun hc => ?_)
      · rw [if_pos hc] at hf
        refine zg_1 (pc' := 32) (fun _ _ _ _ _ hl w => lv_bipush (v := (31 : Int32)) hx hb zd_Names_fromAscii_30 (by decide) w) ?_
        obtain rfl := zx_r1 hf
        exact hret _ _ zd_Names_fromAscii_32
      · rw [if_neg hc] at hf
        refine zg_1 (pc' := 22) (fun _ _ _ _ _ hl w => lv_iload_n hx hb zd_Names_fromAscii_21 rfl (lv_at hl 0 rfl) w) ?_
        refine zg_1 (pc' := 24) (fun _ _ _ _ _ hl w => lv_bipush (v := (97 : Int32)) hx hb zd_Names_fromAscii_22 (by decide) w) ?_
        refine zg_1 (pc' := 25) (fun _ _ _ _ _ hl w => lv_isub hx hb zd_Names_fromAscii_24 w) ?_
        refine zg_1 (pc' := 26) (fun _ _ _ _ _ hl w => lv_iconst (v := (1 : Int32)) hx hb zd_Names_fromAscii_25 (by decide) w) ?_
        refine zg_1 (pc' := 27) (fun _ _ _ _ _ hl w => lv_iadd hx hb zd_Names_fromAscii_26 w) ?_
        refine zg_1 (pc' := 32) (fun _ _ _ _ _ hl w => lv_goto hx hb zd_Names_fromAscii_27 (by decide) w) ?_
        obtain rfl := zx_r1 hf
        exact hret _ _ zd_Names_fromAscii_32
  · rw [if_pos hc] at hf
    refine zg_1 (pc' := 8) (fun _ _ _ _ _ hl w => lv_bipush (v := (27 : Int32)) hx hb zd_Names_fromAscii_6 (by decide) w) ?_
    obtain rfl := zx_r1 hf
    exact hret _ _ zd_Names_fromAscii_8
set_option maxHeartbeats 4000000 in
theorem zw_Reader_readName_94 {p : Program} {l : Launch} {e : Env} {R : Room} {s : State} {m : MethodId} {args : Array Value} {below : List Frame} {meth : Method} {c : Code} {Q : State → Prop} {h0 : Nat} {D : va_G} {dA : Nat → ClassId} {tb : Nat → Nat} {c0 k0 : Nat} {z : zh_S} {r : Int64} (X : zg_X p s m args meth c ze_Reader_readName 8 zr_Reader (some .long) h0 D dA tb) (hR : zg_R R c0 k0 z) (hF : 2 ≤ R.frames ∧ 46 ≤ R.locals) (hret : ∀ (pc : Nat) (lv : List (Nat × Value)), decode ze_Reader_readName pc = .ok (.lreturn, 1) → zg_G p l e R s m args below meth c Q h0 D dA 8 c0 k0 z z pc lv [.long r]) (n : Nat) : ∀ (s0 : zh_S) (a0 : Nat) (i4 : Int32) (j5 : Int64), zb_Reader_readName_94 n s0 a0 i4 j5 = some (r, z) → zg_G p l e R s m args below meth c Q h0 D dA 8 c0 k0 z s0 94 [(0, .ref (h0 + a0)), (4, .int i4), (5, .long j5)] [] := by
  obtain ⟨hx, hb, hml, hown, htT, hrt, hlk, x00, hIn⟩ := id X
  have hK := hIn.2.1
  have hT := hIn.2.2.1
  have hNe := hIn.2.2.2
  intro s0 a0 i4 j5 hf
  rw [zb_Reader_readName_94] at hf
  refine zg_1 (pc' := 95) (fun _ _ _ _ _ hl w => lv_aload_n hx hb zd_Reader_readName_94 rfl (lv_at hl 0 rfl) w) ?_
  refine zg_1 (pc' := 97) (fun _ _ _ _ _ hl w => lv_iload hx hb zd_Reader_readName_95 (lv_at hl 1 rfl) w) ?_
  obtain ⟨h_2, hf⟩ := zx_ck hf
  obtain ⟨s_1, e_s_1, hf⟩ := zx_l hf
  refine zg_putI (pc' := 100) (ci := 2) (ty := .int) hx hb htT zi_Reader zy_Reader zo_Reader zj_Reader hown hK h_2 rfl rfl 1 (by decide) (htT _ zt_497) (fun _ h9 => h9) (Or.inl rfl) (by decide +kernel) rfl rfl rfl e_s_1 zd_Reader_readName_97 rfl ?_
  refine zg_1 (pc' := 102) (fun _ _ _ _ _ hl w => lv_lload hx hb zd_Reader_readName_100 (lv_at hl 2 rfl) w) ?_
  obtain ⟨rfl, rfl⟩ := zx_r2 hf
  exact hret _ _ zd_Reader_readName_102
set_option maxHeartbeats 4000000 in
theorem zw_Reader_readName_79 {p : Program} {l : Launch} {e : Env} {R : Room} {s : State} {m : MethodId} {args : Array Value} {below : List Frame} {meth : Method} {c : Code} {Q : State → Prop} {h0 : Nat} {D : va_G} {dA : Nat → ClassId} {tb : Nat → Nat} {c0 k0 : Nat} {z : zh_S} {r : Int64} (X : zg_X p s m args meth c ze_Reader_readName 8 zr_Reader (some .long) h0 D dA tb) (hR : zg_R R c0 k0 z) (hF : 2 ≤ R.frames ∧ 46 ≤ R.locals) (hret : ∀ (pc : Nat) (lv : List (Nat × Value)), decode ze_Reader_readName pc = .ok (.lreturn, 1) → zg_G p l e R s m args below meth c Q h0 D dA 8 c0 k0 z z pc lv [.long r]) (n : Nat) : ∀ (s0 : zh_S) (a0 : Nat) (i3 : Int32) (i4 : Int32) (j5 : Int64), zb_Reader_readName_79 n s0 a0 i3 i4 j5 = some (r, z) → zg_G p l e R s m args below meth c Q h0 D dA 8 c0 k0 z s0 79 [(0, .ref (h0 + a0)), (3, .int i3), (4, .int i4), (5, .long j5)] [] := by
  obtain ⟨hx, hb, hml, hown, htT, hrt, hlk, x00, hIn⟩ := id X
  have hK := hIn.2.1
  have hT := hIn.2.2.1
  have hNe := hIn.2.2.2
  intro s0 a0 i3 i4 j5 hf
  rw [zb_Reader_readName_79] at hf
  refine zg_1 (pc' := 81) (fun _ _ _ _ _ hl w => lv_lload hx hb zd_Reader_readName_79 (lv_at hl 3 rfl) w) ?_
  obtain ⟨i_1, hq, hf⟩ := zx_p hf
  refine zg_call (pc' := 84) (y := s0) (rv := (some (.int i_1))) (rest := []) X hR ⟨Nat.le_refl _, Nat.le_refl _⟩ (fun H locs ls k j hsz hI hU hk => va_runS (As := [.long j5]) (rest := []) ⟨hx, hb, hml, hown, htT⟩ (zc_Names_isName l h0 D dA tb n hq) (va_cwS 1 htT (zw_gS zt_542 zt_363 zt_72 zt_364) rfl rfl rfl (by decide +kernel) ⟨Nat.le_trans (Nat.le_of_ble_eq_true rfl) hF.1, Nat.le_trans (Nat.le_of_ble_eq_true rfl) hF.2⟩) (zg_pre hU) rfl rfl hsz rfl (lv_room (Nat.le_of_ble_eq_true rfl)) zd_Reader_readName_81 hk) rfl ?_
  refine zg_2 (pc1 := 94) (pc2 := 87) (Classical.em _).symm (fun _ _ _ _ _ w1 w2 => lv_if_ne hx hb zd_Reader_readName_84 (by decide) w1 w2) (fun hc => ?_) (fun hc => ?_)
  · rw [if_neg hc] at hf
    refine zg_v [0, 2, 3] rfl ?_
    exact zw_Reader_readName_94 X hR hF hret n s0 a0 i4 j5 hf
  · rw [if_pos hc] at hf
    refine zg_1 (pc' := 88) (fun _ _ _ _ _ hl w => lv_aload_n hx hb zd_Reader_readName_87 rfl (lv_at hl 0 rfl) w) ?_
    refine zg_1 (pc' := 89) (fun _ _ _ _ _ hl w => lv_iconst (v := (4 : Int32)) hx hb zd_Reader_readName_88 (by decide) w) ?_
    refine zg_1 (pc' := 90) (fun _ _ _ _ _ hl w => lv_iload_n hx hb zd_Reader_readName_89 rfl (lv_at hl 1 rfl) w) ?_
    obtain ⟨h_3, hf⟩ := zx_ck hf
    obtain ⟨i_4, s_2, hq, hf⟩ := zx_b hf
    refine zg_call (pc' := 93) (y := s_2) (rv := (some (.int i_4))) (rest := []) X hR (zm_Reader_fail hq) (fun H locs ls k j hsz hI hU hk => va_runV (As := [.int (4 : Int32), .int i3]) (rest := []) ⟨hx, hb, hml, hown, htT⟩ (zc_Reader_fail l h0 D dA tb n hq) (cwV 2 htT (zw_gV zt_523 zt_525 zt_7 zt_75 zt_526) rfl rfl rfl (by decide +kernel) ⟨Nat.le_trans (Nat.le_of_ble_eq_true rfl) hF.1, Nat.le_trans (Nat.le_of_ble_eq_true rfl) hF.2⟩) ⟨(zg_pre hU).1, zg_recv hK hI h_3 rfl, (zg_pre hU).2⟩ rfl rfl hsz rfl (lv_room (Nat.le_of_ble_eq_true rfl)) zd_Reader_readName_90 hk) rfl ?_
    refine zg_1 (pc' := 94) (fun _ _ _ _ _ hl w => lv_pop hx hb zd_Reader_readName_93 rfl w) ?_
    refine zg_v [0, 2, 3] rfl ?_
    exact zw_Reader_readName_94 X hR hF hret n s_2 a0 i4 j5 hf
set_option maxHeartbeats 4000000 in
theorem zw_Reader_readName_43 {p : Program} {l : Launch} {e : Env} {R : Room} {s : State} {m : MethodId} {args : Array Value} {below : List Frame} {meth : Method} {c : Code} {Q : State → Prop} {h0 : Nat} {D : va_G} {dA : Nat → ClassId} {tb : Nat → Nat} {c0 k0 : Nat} {z : zh_S} {r : Int64} (X : zg_X p s m args meth c ze_Reader_readName 8 zr_Reader (some .long) h0 D dA tb) (hR : zg_R R c0 k0 z) (hF : 2 ≤ R.frames ∧ 46 ≤ R.locals) (hret : ∀ (pc : Nat) (lv : List (Nat × Value)), decode ze_Reader_readName pc = .ok (.lreturn, 1) → zg_G p l e R s m args below meth c Q h0 D dA 8 c0 k0 z z pc lv [.long r]) (n : Nat) (k : Nat) : ∀ (s0 : zh_S) (a0 : Nat) (i3 : Int32) (i4 : Int32) (j5 : Int64) (i7 : Int32), zl_Reader_readName_43 n k s0 a0 i3 i4 j5 i7 = some (r, z) → zg_G p l e R s m args below meth c Q h0 D dA 8 c0 k0 z s0 43 [(0, .ref (h0 + a0)), (3, .int i3), (4, .int i4), (5, .long j5), (7, .int i7)] [] := by
  obtain ⟨hx, hb, hml, hown, htT, hrt, hlk, x00, hIn⟩ := id X
  have hK := hIn.2.1
  have hT := hIn.2.2.1
  have hNe := hIn.2.2.2
  induction k with
  | zero => intro s0 a0 i3 i4 j5 i7 hf; cases hf
  | succ k ih =>
    intro s0 a0 i3 i4 j5 i7 hf
    rw [zl_Reader_readName_43] at hf
    refine zg_1 (pc' := 45) (fun _ _ _ _ _ hl w => lv_iload hx hb zd_Reader_readName_43 (lv_at hl 4 rfl) w) ?_
    refine zg_1 (pc' := 46) (fun _ _ _ _ _ hl w => lv_aload_n hx hb zd_Reader_readName_45 rfl (lv_at hl 0 rfl) w) ?_
    obtain ⟨h_1, hf⟩ := zx_ck hf
    refine zg_get (pc' := 49) (ci := 2) hx hb htT zi_Reader hown hK h_1 rfl rfl 1 (by decide) (htT _ zt_497) (fun _ h9 => h9) rfl zd_Reader_readName_46 rfl ?_
    refine zg_2 (pc1 := 79) (pc2 := 52) (Classical.em _) (fun _ _ _ _ _ w1 w2 => lv_icmp_lt hx hb zd_Reader_readName_49 (by decide) w1 w2) (fun hc => ?_) (fun hc => ?_)
    · rw [if_pos hc] at hf
      refine zg_v [0, 1, 2, 3] rfl ?_
      exact zw_Reader_readName_79 X hR hF hret n s0 a0 i3 i4 j5 hf
    · rw [if_neg hc] at hf
      refine zg_1 (pc' := 54) (fun _ _ _ _ _ hl w => lv_lload hx hb zd_Reader_readName_52 (lv_at hl 3 rfl) w) ?_
      refine zg_1 (pc' := 55) (fun _ _ _ _ _ hl w => lv_iconst (v := (5 : Int32)) hx hb zd_Reader_readName_54 (by decide) w) ?_
      refine zg_1 (pc' := 56) (fun _ _ _ _ _ hl w => lv_lshl (v := (j5 <<< ((5 : Int32).toInt64 &&& 63))) hx hb zd_Reader_readName_55 rfl w) ?_
      refine zg_1 (pc' := 57) (fun _ _ _ _ _ hl w => lv_aload_n hx hb zd_Reader_readName_56 rfl (lv_at hl 0 rfl) w) ?_
      obtain ⟨a_2, h_3, hf⟩ := zx_p hf
      refine zg_get (pc' := 60) (ci := 2) hx hb htT zi_Reader hown hK h_1 rfl rfl 0 (by decide) (htT _ zt_496) (fun _ h9 => h9) (zx_hv h_3) zd_Reader_readName_57 rfl ?_
      obtain ⟨h_4, hf⟩ := zx_ck hf
      obtain ⟨a_5, h_6, hf⟩ := zx_p hf
      refine zg_get (pc' := 63) (ci := 1) hx hb htT zi_Draft hown hK h_4 rfl rfl 0 (by decide) (htT _ zt_93) (fun _ h9 => h9) (zx_hv h_6) zd_Reader_readName_60 rfl ?_
      refine zg_1 (pc' := 65) (fun _ _ _ _ _ hl w => lv_iload hx hb zd_Reader_readName_63 (lv_at hl 4 rfl) w) ?_
      obtain ⟨h_7, hf⟩ := zx_ck hf
      refine zg_iald (pc' := 66) hx hb hK h_7 zd_Reader_readName_65 rfl ?_
      obtain ⟨i_8, hq, hf⟩ := zx_p hf
      refine zg_call (pc' := 69) (y := s0) (rv := (some (.int i_8))) (rest := [.long (j5 <<< ((5 : Int32).toInt64 &&& 63))]) X hR ⟨Nat.le_refl _, Nat.le_refl _⟩ (fun H locs ls k j hsz hI hU hk => va_runS (As := [.int (zh_I s0 a_5 (i7.toNatClampNeg))]) (rest := [.long (j5 <<< ((5 : Int32).toInt64 &&& 63))]) ⟨hx, hb, hml, hown, htT⟩ (zc_Names_fromAscii l h0 D dA tb n hq) (va_cwS 1 htT (zw_gS zt_539 zt_540 zt_72 zt_541) rfl rfl rfl (by decide +kernel) ⟨Nat.le_trans (Nat.le_of_ble_eq_true rfl) hF.1, Nat.le_trans (Nat.le_of_ble_eq_true rfl) hF.2⟩) (zg_pre hU) rfl rfl hsz rfl (lv_room (Nat.le_of_ble_eq_true rfl)) zd_Reader_readName_66 hk) rfl ?_
      refine zg_1 (pc' := 70) (fun _ _ _ _ _ hl w => lv_i2l (v := i_8.toInt64) hx hb zd_Reader_readName_69 rfl w) ?_
      refine zg_1 (pc' := 71) (fun _ _ _ _ _ hl w => lv_lor hx hb zd_Reader_readName_70 w) ?_
      obtain ⟨j_9, e_j_9, hf⟩ := zx_l hf
      refine zg_tl e_j_9 ?_
      refine zg_s (pc' := 73) (lv' := [(5, .long j_9), (0, .ref (h0 + a0)), (3, .int i3), (4, .int i4), (7, .int i7)]) (fun _ _ _ _ _ hl w => lv_lstore hx hb zd_Reader_readName_71 hl (by decide) rfl w) ?_
      obtain ⟨i_10, e_i_10, hf⟩ := zx_l hf
      refine zg_s (pc' := 76) (lv' := [(7, .int i_10), (5, .long j_9), (0, .ref (h0 + a0)), (3, .int i3), (4, .int i4)]) (fun _ _ _ _ _ hl w => lv_iinc (k := 4) (v := i_10) hx hb zd_Reader_readName_73 hl rfl (by rw [e_i_10]; rfl) (by decide) rfl w) ?_
      refine zg_1 (pc' := 43) (fun _ _ _ _ _ hl w => lv_goto hx hb zd_Reader_readName_76 (by decide) w) ?_
      refine zg_v [2, 3, 4, 1, 0] rfl ?_
      exact ih s0 a0 i3 i4 j_9 i_10 hf
set_option maxHeartbeats 4000000 in
theorem zc_Reader_readName (l : Launch) (h0 : Nat) (D : va_G) (dA : Nat → ClassId) (tb : Nat → Nat) (n : Nat) {s0 : zh_S} {a0 : Nat} {i1 : Int32} {i2 : Int32} {r : Int64} {z : zh_S} (hf : zf_Reader_readName n s0 a0 i1 i2 = some (r, z)) : zc_M l zn_Reader_readName zs_Reader_readName 2 46 h0 D dA tb [.ref (h0 + a0), .int i1, .int i2] s0 (some (.long r)) z := by
  rw [zf_Reader_readName] at hf
  refine zc_of (cc := ze_Reader_readName) (maxL := 8) (ret := (some .long)) (lv := [(0, .ref (h0 + a0)), (1, .int i1), (2, .int i2)]) (by decide) rfl (Nat.le_of_ble_eq_true rfl) rfl ?_
  intro p e s m args below meth c X hnm
  obtain ⟨hx, hb, hml, hown, htT, hrt, hlk, x00, hIn⟩ := id X
  have hK := hIn.2.1
  have hT := hIn.2.2.1
  have hNe := hIn.2.2.2
  have hR : zg_R { frames := 2, cells := zh_N z - zh_N s0, slots := zh_M z - zh_M s0, locals := 46 } (zh_N s0) (zh_M s0) z := ⟨by show zh_N z ≤ zh_N s0 + (zh_N z - zh_N s0); omega, by show zh_M z ≤ zh_M s0 + (zh_M z - zh_M s0); omega⟩
  have hF : 2 ≤ ({ frames := 2, cells := zh_N z - zh_N s0, slots := zh_M z - zh_M s0, locals := 46 } : Room).frames ∧ 46 ≤ ({ frames := 2, cells := zh_N z - zh_N s0, slots := zh_M z - zh_M s0, locals := 46 } : Room).locals := ⟨Nat.le_refl _, Nat.le_refl _⟩
  have hret := fun (pc : Nat) (lv : List (Nat × Value)) (hd : decode ze_Reader_readName pc = .ok (.lreturn, 1)) => zg_lret (R := { frames := 2, cells := zh_N z - zh_N s0, slots := zh_M z - zh_M s0, locals := 46 }) (l := l) (e := e) (below := below) (c0 := zh_N s0) (s0 := zh_M s0) (z := z) (lv := lv) (v := r) X hd
  refine zg_1 (pc' := 1) (fun _ _ _ _ _ hl w => lv_aload_n hx hb zd_Reader_readName_0 rfl (lv_at hl 0 rfl) w) ?_
  obtain ⟨h_1, hf⟩ := zx_ck hf
  refine zg_get (pc' := 4) (ci := 2) hx hb htT zi_Reader hown hK h_1 rfl rfl 1 (by decide) (htT _ zt_497) (fun _ h9 => h9) rfl zd_Reader_readName_1 rfl ?_
  obtain ⟨i_2, e_i_2, hf⟩ := zx_l hf
  refine zg_ti e_i_2 ?_
  refine zg_s (pc' := 5) (lv' := [(3, .int i_2), (0, .ref (h0 + a0)), (1, .int i1), (2, .int i2)]) (fun _ _ _ _ _ hl w => lv_istore_n hx hb zd_Reader_readName_4 rfl hl (by decide) rfl w) ?_
  refine zg_1 (pc' := 6) (fun _ _ _ _ _ hl w => lv_aload_n hx hb zd_Reader_readName_5 rfl (lv_at hl 1 rfl) w) ?_
  refine zg_1 (pc' := 7) (fun _ _ _ _ _ hl w => lv_iload_n hx hb zd_Reader_readName_6 rfl (lv_at hl 2 rfl) w) ?_
  refine zg_1 (pc' := 8) (fun _ _ _ _ _ hl w => lv_iload_n hx hb zd_Reader_readName_7 rfl (lv_at hl 3 rfl) w) ?_
  obtain ⟨i_4, s_3, hq, hf⟩ := zx_b hf
  refine zg_call (pc' := 11) (y := s_3) (rv := (some (.int i_4))) (rest := []) X hR (zm_Reader_open hq) (fun H locs ls k j hsz hI hU hk => va_runV (As := [.int i1, .int i2]) (rest := []) ⟨hx, hb, hml, hown, htT⟩ (zc_Reader_open l h0 D dA tb n hq) (cwV 2 htT (zw_gV zt_519 zt_521 zt_6 zt_75 zt_522) rfl rfl rfl (by decide +kernel) ⟨Nat.le_trans (Nat.le_of_ble_eq_true rfl) hF.1, Nat.le_trans (Nat.le_of_ble_eq_true rfl) hF.2⟩) ⟨(zg_pre hU).1, zg_recv hK hI h_1 rfl, (zg_pre hU).2⟩ rfl rfl hsz rfl (lv_room (Nat.le_of_ble_eq_true rfl)) zd_Reader_readName_8 hk) rfl ?_
  refine zg_s (pc' := 13) (lv' := [(4, .int i_4), (3, .int i_2), (0, .ref (h0 + a0)), (1, .int i1), (2, .int i2)]) (fun _ _ _ _ _ hl w => lv_istore hx hb zd_Reader_readName_11 hl (by decide) rfl w) ?_
  refine zg_1 (pc' := 14) (fun _ _ _ _ _ hl w => lv_aload_n hx hb zd_Reader_readName_13 rfl (lv_at hl 2 rfl) w) ?_
  obtain ⟨h_5, hf⟩ := zx_ck hf
  refine zg_get (pc' := 17) (ci := 2) hx hb htT zi_Reader hown hK h_5 rfl rfl 2 (by decide) (htT _ zt_498) (fun _ h9 => h9) rfl zd_Reader_readName_14 rfl ?_
  refine zg_2 (pc1 := 22) (pc2 := 20) (Classical.em _) (fun _ _ _ _ _ w1 w2 => lv_if_eq hx hb zd_Reader_readName_17 (by decide) w1 w2) (fun hc => ?_) (fun hc => ?_)
  · rw [if_pos hc] at hf
    refine zg_1 (pc' := 23) (fun _ _ _ _ _ hl w => lv_lconst (v := (0 : Int64)) hx hb zd_Reader_readName_22 (by decide) w) ?_
    refine zg_s (pc' := 25) (lv' := [(5, .long (0 : Int64)), (4, .int i_4), (3, .int i_2), (0, .ref (h0 + a0)), (1, .int i1), (2, .int i2)]) (fun _ _ _ _ _ hl w => lv_lstore hx hb zd_Reader_readName_23 hl (by decide) rfl w) ?_
    refine zg_1 (pc' := 27) (fun _ _ _ _ _ hl w => lv_iload hx hb zd_Reader_readName_25 (lv_at hl 1 rfl) w) ?_
    refine zg_1 (pc' := 28) (fun _ _ _ _ _ hl w => lv_aload_n hx hb zd_Reader_readName_27 rfl (lv_at hl 3 rfl) w) ?_
    refine zg_get (pc' := 31) (ci := 2) hx hb htT zi_Reader hown hK h_5 rfl rfl 1 (by decide) (htT _ zt_497) (fun _ h9 => h9) rfl zd_Reader_readName_28 rfl ?_
    refine zg_1 (pc' := 32) (fun _ _ _ _ _ hl w => lv_isub hx hb zd_Reader_readName_31 w) ?_
    refine zg_1 (pc' := 34) (fun _ _ _ _ _ hl w => lv_bipush (v := (8 : Int32)) hx hb zd_Reader_readName_32 (by decide) w) ?_
    refine zg_2 (pc1 := 79) (pc2 := 37) (Classical.em _) (fun _ _ _ _ _ w1 w2 => lv_icmp_gt hx hb zd_Reader_readName_34 (by decide) w1 w2) (fun hc => ?_) (fun hc => ?_)
    · rw [if_pos hc] at hf
      refine zg_v [3, 2, 1, 0] rfl ?_
      exact zw_Reader_readName_79 X hR hF hret n s_3 a0 i_2 i_4 (0 : Int64) hf
    · rw [if_neg hc] at hf
      refine zg_1 (pc' := 39) (fun _ _ _ _ _ hl w => lv_iload hx hb zd_Reader_readName_37 (lv_at hl 1 rfl) w) ?_
      refine zg_1 (pc' := 40) (fun _ _ _ _ _ hl w => lv_iconst (v := (1 : Int32)) hx hb zd_Reader_readName_39 (by decide) w) ?_
      refine zg_1 (pc' := 41) (fun _ _ _ _ _ hl w => lv_isub hx hb zd_Reader_readName_40 w) ?_
      obtain ⟨i_6, e_i_6, hf⟩ := zx_l hf
      refine zg_ti e_i_6 ?_
      refine zg_s (pc' := 43) (lv' := [(7, .int i_6), (5, .long (0 : Int64)), (4, .int i_4), (3, .int i_2), (0, .ref (h0 + a0)), (1, .int i1), (2, .int i2)]) (fun _ _ _ _ _ hl w => lv_istore hx hb zd_Reader_readName_41 hl (by decide) rfl w) ?_
      refine zg_v [4, 3, 2, 1, 0] rfl ?_
      exact zw_Reader_readName_43 X hR hF hret n n s_3 a0 i_2 i_4 (0 : Int64) i_6 hf
  · rw [if_neg hc] at hf
    refine zg_1 (pc' := 21) (fun _ _ _ _ _ hl w => lv_lconst (v := (0 : Int64)) hx hb zd_Reader_readName_20 (by decide) w) ?_
    obtain ⟨rfl, rfl⟩ := zx_r2 hf
    exact hret _ _ zd_Reader_readName_21
set_option maxHeartbeats 4000000 in
theorem zc_Reader_isNext (l : Launch) (h0 : Nat) (D : va_G) (dA : Nat → ClassId) (tb : Nat → Nat) (n : Nat) {s0 : zh_S} {a0 : Nat} {i1 : Int32} {i2 : Int32} {r : Int32} (hf : zf_Reader_isNext n s0 a0 i1 i2 = some r) : zc_M l zn_Reader_isNext zs_Reader_isNext 0 0 h0 D dA tb [.ref (h0 + a0), .int i1, .int i2] s0 (some (.int r)) s0 := by
  rw [zf_Reader_isNext] at hf
  refine zc_of (cc := ze_Reader_isNext) (maxL := 3) (ret := (some .boolean)) (lv := [(0, .ref (h0 + a0)), (1, .int i1), (2, .int i2)]) (by decide) rfl (Nat.le_of_ble_eq_true rfl) rfl ?_
  intro p e s m args below meth c X hnm
  obtain ⟨hx, hb, hml, hown, htT, hrt, hlk, x00, hIn⟩ := id X
  have hK := hIn.2.1
  have hT := hIn.2.2.1
  have hNe := hIn.2.2.2
  have hR : zg_R { frames := 0, cells := zh_N s0 - zh_N s0, slots := zh_M s0 - zh_M s0, locals := 0 } (zh_N s0) (zh_M s0) s0 := ⟨by show zh_N s0 ≤ zh_N s0 + (zh_N s0 - zh_N s0); omega, by show zh_M s0 ≤ zh_M s0 + (zh_M s0 - zh_M s0); omega⟩
  have hF : 0 ≤ ({ frames := 0, cells := zh_N s0 - zh_N s0, slots := zh_M s0 - zh_M s0, locals := 0 } : Room).frames ∧ 0 ≤ ({ frames := 0, cells := zh_N s0 - zh_N s0, slots := zh_M s0 - zh_M s0, locals := 0 } : Room).locals := ⟨Nat.le_refl _, Nat.le_refl _⟩
  have hret := fun (hz : r = 0 ∨ r = 1) (pc : Nat) (lv : List (Nat × Value)) (hd : decode ze_Reader_isNext pc = .ok (.ireturn, 1)) => zg_iret (R := { frames := 0, cells := zh_N s0 - zh_N s0, slots := zh_M s0 - zh_M s0, locals := 0 }) (l := l) (e := e) (below := below) (c0 := zh_N s0) (s0 := zh_M s0) (z := s0) (lv := lv) (v := r) X (zx_nz hz) hd
  refine zg_1 (pc' := 1) (fun _ _ _ _ _ hl w => lv_aload_n hx hb zd_Reader_isNext_0 rfl (lv_at hl 0 rfl) w) ?_
  obtain ⟨h_1, hf⟩ := zx_ck hf
  refine zg_get (pc' := 4) (ci := 2) hx hb htT zi_Reader hown hK h_1 rfl rfl 2 (by decide) (htT _ zt_498) (fun _ h9 => h9) rfl zd_Reader_isNext_1 rfl ?_
  refine zg_2 (pc1 := 35) (pc2 := 7) (Classical.em _).symm (fun _ _ _ _ _ w1 w2 => lv_if_ne hx hb zd_Reader_isNext_4 (by decide) w1 w2) (fun hc => ?_) (fun hc => ?_)
  · rw [if_neg hc] at hf
    refine zg_1 (pc' := 36) (fun _ _ _ _ _ hl w => lv_iconst (v := (0 : Int32)) hx hb zd_Reader_isNext_35 (by decide) w) ?_
    obtain rfl := zx_r1 hf
    exact hret (Or.inl rfl) _ _ zd_Reader_isNext_36
  · rw [if_pos hc] at hf
    refine zg_1 (pc' := 8) (fun _ _ _ _ _ hl w => lv_aload_n hx hb zd_Reader_isNext_7 rfl (lv_at hl 0 rfl) w) ?_
    refine zg_get (pc' := 11) (ci := 2) hx hb htT zi_Reader hown hK h_1 rfl rfl 1 (by decide) (htT _ zt_497) (fun _ h9 => h9) rfl zd_Reader_isNext_8 rfl ?_
    refine zg_1 (pc' := 12) (fun _ _ _ _ _ hl w => lv_iload_n hx hb zd_Reader_isNext_11 rfl (lv_at hl 2 rfl) w) ?_
    refine zg_2 (pc1 := 35) (pc2 := 15) (Classical.em _) (fun _ _ _ _ _ w1 w2 => lv_icmp_ge hx hb zd_Reader_isNext_12 (by decide) w1 w2) (fun hc => ?_) (fun hc => ?_)
    · rw [if_pos hc] at hf
      refine zg_1 (pc' := 36) (fun _ _ _ _ _ hl w => lv_iconst (v := (0 : Int32)) hx hb zd_Reader_isNext_35 (by decide) w) ?_
      obtain rfl := zx_r1 hf
      exact hret (Or.inl rfl) _ _ zd_Reader_isNext_36
    · rw [if_neg hc] at hf
      refine zg_1 (pc' := 16) (fun _ _ _ _ _ hl w => lv_aload_n hx hb zd_Reader_isNext_15 rfl (lv_at hl 0 rfl) w) ?_
      obtain ⟨a_2, h_3, hf⟩ := zx_p hf
      refine zg_get (pc' := 19) (ci := 2) hx hb htT zi_Reader hown hK h_1 rfl rfl 0 (by decide) (htT _ zt_496) (fun _ h9 => h9) (zx_hv h_3) zd_Reader_isNext_16 rfl ?_
      obtain ⟨h_4, hf⟩ := zx_ck hf
      obtain ⟨a_5, h_6, hf⟩ := zx_p hf
      refine zg_get (pc' := 22) (ci := 1) hx hb htT zi_Draft hown hK h_4 rfl rfl 0 (by decide) (htT _ zt_93) (fun _ h9 => h9) (zx_hv h_6) zd_Reader_isNext_19 rfl ?_
      refine zg_1 (pc' := 23) (fun _ _ _ _ _ hl w => lv_aload_n hx hb zd_Reader_isNext_22 rfl (lv_at hl 0 rfl) w) ?_
      refine zg_get (pc' := 26) (ci := 2) hx hb htT zi_Reader hown hK h_1 rfl rfl 1 (by decide) (htT _ zt_497) (fun _ h9 => h9) rfl zd_Reader_isNext_23 rfl ?_
      obtain ⟨h_7, hf⟩ := zx_ck hf
      refine zg_iald (pc' := 27) hx hb hK h_7 zd_Reader_isNext_26 rfl ?_
      refine zg_1 (pc' := 28) (fun _ _ _ _ _ hl w => lv_iload_n hx hb zd_Reader_isNext_27 rfl (lv_at hl 1 rfl) w) ?_
      refine zg_2 (pc1 := 35) (pc2 := 31) (Classical.em _).symm (fun _ _ _ _ _ w1 w2 => lv_icmp_ne hx hb zd_Reader_isNext_28 (by decide) w1 w2) (fun hc => ?_) (fun hc => ?_)
      · rw [if_neg hc] at hf
        refine zg_1 (pc' := 36) (fun _ _ _ _ _ hl w => lv_iconst (v := (0 : Int32)) hx hb zd_Reader_isNext_35 (by decide) w) ?_
        obtain rfl := zx_r1 hf
        exact hret (Or.inl rfl) _ _ zd_Reader_isNext_36
      · rw [if_pos hc] at hf
        refine zg_1 (pc' := 32) (fun _ _ _ _ _ hl w => lv_iconst (v := (1 : Int32)) hx hb zd_Reader_isNext_31 (by decide) w) ?_
        refine zg_1 (pc' := 36) (fun _ _ _ _ _ hl w => lv_goto hx hb zd_Reader_isNext_32 (by decide) w) ?_
        obtain rfl := zx_r1 hf
        exact hret (Or.inr rfl) _ _ zd_Reader_isNext_36
set_option maxHeartbeats 4000000 in
theorem zc_Reader_close (l : Launch) (h0 : Nat) (D : va_G) (dA : Nat → ClassId) (tb : Nat → Nat) (n : Nat) {s0 : zh_S} {a0 : Nat} {i1 : Int32} {z : zh_S} (hf : zf_Reader_close n s0 a0 i1 = some z) : zc_M l zn_Reader_close zs_Reader_close 1 22 h0 D dA tb [.ref (h0 + a0), .int i1] s0 none z := by
  rw [zf_Reader_close] at hf
  refine zc_of (cc := ze_Reader_close) (maxL := 2) (ret := none) (lv := [(0, .ref (h0 + a0)), (1, .int i1)]) (by decide) rfl (Nat.le_of_ble_eq_true rfl) rfl ?_
  intro p e s m args below meth c X hnm
  obtain ⟨hx, hb, hml, hown, htT, hrt, hlk, x00, hIn⟩ := id X
  have hK := hIn.2.1
  have hT := hIn.2.2.1
  have hNe := hIn.2.2.2
  have hR : zg_R { frames := 1, cells := zh_N z - zh_N s0, slots := zh_M z - zh_M s0, locals := 22 } (zh_N s0) (zh_M s0) z := ⟨by show zh_N z ≤ zh_N s0 + (zh_N z - zh_N s0); omega, by show zh_M z ≤ zh_M s0 + (zh_M z - zh_M s0); omega⟩
  have hF : 1 ≤ ({ frames := 1, cells := zh_N z - zh_N s0, slots := zh_M z - zh_M s0, locals := 22 } : Room).frames ∧ 22 ≤ ({ frames := 1, cells := zh_N z - zh_N s0, slots := zh_M z - zh_M s0, locals := 22 } : Room).locals := ⟨Nat.le_refl _, Nat.le_refl _⟩
  have hret := fun (pc : Nat) (lv : List (Nat × Value)) (hd : decode ze_Reader_close pc = .ok (.return_, 1)) => zg_vret (R := { frames := 1, cells := zh_N z - zh_N s0, slots := zh_M z - zh_M s0, locals := 22 }) (l := l) (e := e) (below := below) (c0 := zh_N s0) (s0 := zh_M s0) (z := z) (lv := lv) X hd
  refine zg_1 (pc' := 1) (fun _ _ _ _ _ hl w => lv_aload_n hx hb zd_Reader_close_0 rfl (lv_at hl 0 rfl) w) ?_
  obtain ⟨h_1, hf⟩ := zx_ck hf
  refine zg_get (pc' := 4) (ci := 2) hx hb htT zi_Reader hown hK h_1 rfl rfl 1 (by decide) (htT _ zt_497) (fun _ h9 => h9) rfl zd_Reader_close_1 rfl ?_
  refine zg_1 (pc' := 5) (fun _ _ _ _ _ hl w => lv_iload_n hx hb zd_Reader_close_4 rfl (lv_at hl 1 rfl) w) ?_
  refine zg_2 (pc1 := 18) (pc2 := 8) (Classical.em _) (fun _ _ _ _ _ w1 w2 => lv_icmp_ge hx hb zd_Reader_close_5 (by decide) w1 w2) (fun hc => ?_) (fun hc => ?_)
  · rw [if_pos hc] at hf
    obtain rfl := zx_r1 hf
    exact hret _ _ zd_Reader_close_18
  · rw [if_neg hc] at hf
    refine zg_1 (pc' := 9) (fun _ _ _ _ _ hl w => lv_aload_n hx hb zd_Reader_close_8 rfl (lv_at hl 0 rfl) w) ?_
    refine zg_1 (pc' := 10) (fun _ _ _ _ _ hl w => lv_iconst (v := (5 : Int32)) hx hb zd_Reader_close_9 (by decide) w) ?_
    refine zg_1 (pc' := 11) (fun _ _ _ _ _ hl w => lv_aload_n hx hb zd_Reader_close_10 rfl (lv_at hl 0 rfl) w) ?_
    refine zg_get (pc' := 14) (ci := 2) hx hb htT zi_Reader hown hK h_1 rfl rfl 1 (by decide) (htT _ zt_497) (fun _ h9 => h9) rfl zd_Reader_close_11 rfl ?_
    obtain ⟨i_3, s_2, hq, hf⟩ := zx_b hf
    refine zg_call (pc' := 17) (y := s_2) (rv := (some (.int i_3))) (rest := []) X hR (zm_Reader_fail hq) (fun H locs ls k j hsz hI hU hk => va_runV (As := [.int (5 : Int32), .int (zh_I s0 a0 1)]) (rest := []) ⟨hx, hb, hml, hown, htT⟩ (zc_Reader_fail l h0 D dA tb n hq) (cwV 2 htT (zw_gV zt_523 zt_525 zt_7 zt_75 zt_526) rfl rfl rfl (by decide +kernel) ⟨Nat.le_trans (Nat.le_of_ble_eq_true rfl) hF.1, Nat.le_trans (Nat.le_of_ble_eq_true rfl) hF.2⟩) ⟨(zg_pre hU).1, zg_recv hK hI h_1 rfl, (zg_pre hU).2⟩ rfl rfl hsz rfl (lv_room (Nat.le_of_ble_eq_true rfl)) zd_Reader_close_14 hk) rfl ?_
    refine zg_1 (pc' := 18) (fun _ _ _ _ _ hl w => lv_pop hx hb zd_Reader_close_17 rfl w) ?_
    obtain rfl := zx_r1 hf
    exact hret _ _ zd_Reader_close_18
set_option maxHeartbeats 4000000 in
theorem zw_Draft_hash_6 {p : Program} {l : Launch} {e : Env} {R : Room} {s : State} {m : MethodId} {args : Array Value} {below : List Frame} {meth : Method} {c : Code} {Q : State → Prop} {h0 : Nat} {D : va_G} {dA : Nat → ClassId} {tb : Nat → Nat} {c0 k0 : Nat} {s0 : zh_S} {r : Int32} (X : zg_X p s m args meth c ze_Draft_hash 5 zr_Draft (some .int) h0 D dA tb) (hR : zg_R R c0 k0 s0) (hF : 0 ≤ R.frames ∧ 0 ≤ R.locals) (hret : ∀ (pc : Nat) (lv : List (Nat × Value)), decode ze_Draft_hash pc = .ok (.ireturn, 1) → zg_G p l e R s m args below meth c Q h0 D dA 5 c0 k0 s0 s0 pc lv [.int r]) (n : Nat) (k : Nat) : ∀ (a0 : Nat) (i2 : Int32) (i3 : Int32) (i4 : Int32), zl_Draft_hash_6 n k s0 a0 i2 i3 i4 = some r → zg_G p l e R s m args below meth c Q h0 D dA 5 c0 k0 s0 s0 6 [(0, .ref (h0 + a0)), (2, .int i2), (3, .int i3), (4, .int i4)] [] := by
  obtain ⟨hx, hb, hml, hown, htT, hrt, hlk, x00, hIn⟩ := id X
  have hK := hIn.2.1
  have hT := hIn.2.2.1
  have hNe := hIn.2.2.2
  induction k with
  | zero => intro a0 i2 i3 i4 hf; cases hf
  | succ k ih =>
    intro a0 i2 i3 i4 hf
    rw [zl_Draft_hash_6] at hf
    refine zg_1 (pc' := 8) (fun _ _ _ _ _ hl w => lv_iload hx hb zd_Draft_hash_6 (lv_at hl 3 rfl) w) ?_
    refine zg_1 (pc' := 9) (fun _ _ _ _ _ hl w => lv_iload_n hx hb zd_Draft_hash_8 rfl (lv_at hl 1 rfl) w) ?_
    refine zg_2 (pc1 := 31) (pc2 := 12) (Classical.em _) (fun _ _ _ _ _ w1 w2 => lv_icmp_ge hx hb zd_Draft_hash_9 (by decide) w1 w2) (fun hc => ?_) (fun hc => ?_)
    · rw [if_pos hc] at hf
      refine zg_1 (pc' := 32) (fun _ _ _ _ _ hl w => lv_iload_n hx hb zd_Draft_hash_31 rfl (lv_at hl 2 rfl) w) ?_
      refine zg_1 (pc' := 33) (fun _ _ _ _ _ hl w => lv_iload_n hx hb zd_Draft_hash_32 rfl (lv_at hl 2 rfl) w) ?_
      refine zg_1 (pc' := 35) (fun _ _ _ _ _ hl w => lv_bipush (v := (15 : Int32)) hx hb zd_Draft_hash_33 (by decide) w) ?_
      refine zg_1 (pc' := 36) (fun _ _ _ _ _ hl w => lv_iushr (v := (zu_i i3 (15 : Int32))) hx hb zd_Draft_hash_35 rfl w) ?_
      refine zg_1 (pc' := 37) (fun _ _ _ _ _ hl w => lv_ixor hx hb zd_Draft_hash_36 w) ?_
      obtain rfl := zx_r1 hf
      exact hret _ _ zd_Draft_hash_37
    · rw [if_neg hc] at hf
      refine zg_1 (pc' := 13) (fun _ _ _ _ _ hl w => lv_iload_n hx hb zd_Draft_hash_12 rfl (lv_at hl 2 rfl) w) ?_
      refine zg_1 (pc' := 14) (fun _ _ _ _ _ hl w => lv_aload_n hx hb zd_Draft_hash_13 rfl (lv_at hl 0 rfl) w) ?_
      obtain ⟨h_1, hf⟩ := zx_ck hf
      obtain ⟨a_2, h_3, hf⟩ := zx_p hf
      refine zg_get (pc' := 17) (ci := 1) hx hb htT zi_Draft hown hK h_1 rfl rfl 0 (by decide) (htT _ zt_91) (fun _ h9 => h9) (zx_hv h_3) zd_Draft_hash_14 rfl ?_
      refine zg_1 (pc' := 19) (fun _ _ _ _ _ hl w => lv_iload hx hb zd_Draft_hash_17 (lv_at hl 3 rfl) w) ?_
      obtain ⟨h_4, hf⟩ := zx_ck hf
      refine zg_iald (pc' := 20) hx hb hK h_4 zd_Draft_hash_19 rfl ?_
      refine zg_1 (pc' := 21) (fun _ _ _ _ _ hl w => lv_ixor hx hb zd_Draft_hash_20 w) ?_
      refine zg_1 (pc' := 23) (fun _ _ _ _ _ hl w => lv_ldc (v := (16777619 : Int32)) hx hb hown (htT _ zt_457) zd_Draft_hash_21 w) ?_
      refine zg_1 (pc' := 24) (fun _ _ _ _ _ hl w => lv_imul hx hb zd_Draft_hash_23 w) ?_
      obtain ⟨i_5, e_i_5, hf⟩ := zx_l hf
      refine zg_ti e_i_5 ?_
      refine zg_s (pc' := 25) (lv' := [(3, .int i_5), (0, .ref (h0 + a0)), (2, .int i2), (4, .int i4)]) (fun _ _ _ _ _ hl w => lv_istore_n hx hb zd_Draft_hash_24 rfl hl (by decide) rfl w) ?_
      obtain ⟨i_6, e_i_6, hf⟩ := zx_l hf
      refine zg_s (pc' := 28) (lv' := [(4, .int i_6), (3, .int i_5), (0, .ref (h0 + a0)), (2, .int i2)]) (fun _ _ _ _ _ hl w => lv_iinc (k := 3) (v := i_6) hx hb zd_Draft_hash_25 hl rfl (by rw [e_i_6]; rfl) (by decide) rfl w) ?_
      refine zg_1 (pc' := 6) (fun _ _ _ _ _ hl w => lv_goto hx hb zd_Draft_hash_28 (by decide) w) ?_
      refine zg_v [2, 3, 1, 0] rfl ?_
      exact ih a0 i2 i_5 i_6 hf
set_option maxHeartbeats 4000000 in
theorem zc_Draft_hash (l : Launch) (h0 : Nat) (D : va_G) (dA : Nat → ClassId) (tb : Nat → Nat) (n : Nat) {s0 : zh_S} {a0 : Nat} {i1 : Int32} {i2 : Int32} {r : Int32} (hf : zf_Draft_hash n s0 a0 i1 i2 = some r) : zc_M l zn_Draft_hash zs_Draft_hash 0 0 h0 D dA tb [.ref (h0 + a0), .int i1, .int i2] s0 (some (.int r)) s0 := by
  rw [zf_Draft_hash] at hf
  refine zc_of (cc := ze_Draft_hash) (maxL := 5) (ret := (some .int)) (lv := [(0, .ref (h0 + a0)), (1, .int i1), (2, .int i2)]) (by decide) rfl (Nat.le_of_ble_eq_true rfl) rfl ?_
  intro p e s m args below meth c X hnm
  obtain ⟨hx, hb, hml, hown, htT, hrt, hlk, x00, hIn⟩ := id X
  have hK := hIn.2.1
  have hT := hIn.2.2.1
  have hNe := hIn.2.2.2
  have hR : zg_R { frames := 0, cells := zh_N s0 - zh_N s0, slots := zh_M s0 - zh_M s0, locals := 0 } (zh_N s0) (zh_M s0) s0 := ⟨by show zh_N s0 ≤ zh_N s0 + (zh_N s0 - zh_N s0); omega, by show zh_M s0 ≤ zh_M s0 + (zh_M s0 - zh_M s0); omega⟩
  have hF : 0 ≤ ({ frames := 0, cells := zh_N s0 - zh_N s0, slots := zh_M s0 - zh_M s0, locals := 0 } : Room).frames ∧ 0 ≤ ({ frames := 0, cells := zh_N s0 - zh_N s0, slots := zh_M s0 - zh_M s0, locals := 0 } : Room).locals := ⟨Nat.le_refl _, Nat.le_refl _⟩
  have hret := fun (pc : Nat) (lv : List (Nat × Value)) (hd : decode ze_Draft_hash pc = .ok (.ireturn, 1)) => zg_iret (R := { frames := 0, cells := zh_N s0 - zh_N s0, slots := zh_M s0 - zh_M s0, locals := 0 }) (l := l) (e := e) (below := below) (c0 := zh_N s0) (s0 := zh_M s0) (z := s0) (lv := lv) (v := r) X rfl hd
  refine zg_1 (pc' := 2) (fun _ _ _ _ _ hl w => lv_ldc (v := (-2128831035 : Int32)) hx hb hown (htT _ zt_456) zd_Draft_hash_0 w) ?_
  refine zg_s (pc' := 3) (lv' := [(3, .int (-2128831035 : Int32)), (0, .ref (h0 + a0)), (1, .int i1), (2, .int i2)]) (fun _ _ _ _ _ hl w => lv_istore_n hx hb zd_Draft_hash_2 rfl hl (by decide) rfl w) ?_
  refine zg_1 (pc' := 4) (fun _ _ _ _ _ hl w => lv_iload_n hx hb zd_Draft_hash_3 rfl (lv_at hl 2 rfl) w) ?_
  refine zg_s (pc' := 6) (lv' := [(4, .int i1), (3, .int (-2128831035 : Int32)), (0, .ref (h0 + a0)), (1, .int i1), (2, .int i2)]) (fun _ _ _ _ _ hl w => lv_istore hx hb zd_Draft_hash_4 hl (by decide) rfl w) ?_
  refine zg_v [2, 4, 1, 0] rfl ?_
  exact zw_Draft_hash_6 X hR hF hret n n a0 i2 (-2128831035 : Int32) i1 hf
set_option maxHeartbeats 4000000 in
theorem zc_Reader_readSignature_C (l : Launch) (h0 : Nat) (D : va_G) (dA : Nat → ClassId) (tb : Nat → Nat) (n : Nat) {s0 : zh_S} {a0 : Nat} {a1 : Nat} {i2 : Int32} {i3 : Int32} {z : zh_S} (hf : zf_Reader_readSignature_C n s0 a0 a1 i2 i3 = some z) : zc_M l zn_Reader_readSignature zs_Reader_readSignature 3 71 h0 D dA tb [.ref (h0 + a0), .ref (h0 + a1), .int i2, .int i3] s0 none z := by
  rw [zf_Reader_readSignature_C] at hf
  refine zc_of (cc := ze_Reader_readSignature) (maxL := 4) (ret := none) (lv := [(0, .ref (h0 + a0)), (1, .ref (h0 + a1)), (2, .int i2), (3, .int i3)]) (by decide) rfl (Nat.le_of_ble_eq_true rfl) rfl ?_
  intro p e s m args below meth c X hnm
  obtain ⟨hx, hb, hml, hown, htT, hrt, hlk, x00, hIn⟩ := id X
  have hK := hIn.2.1
  have hT := hIn.2.2.1
  have hNe := hIn.2.2.2
  have hR : zg_R { frames := 3, cells := zh_N z - zh_N s0, slots := zh_M z - zh_M s0, locals := 71 } (zh_N s0) (zh_M s0) z := ⟨by show zh_N z ≤ zh_N s0 + (zh_N z - zh_N s0); omega, by show zh_M z ≤ zh_M s0 + (zh_M z - zh_M s0); omega⟩
  have hF : 3 ≤ ({ frames := 3, cells := zh_N z - zh_N s0, slots := zh_M z - zh_M s0, locals := 71 } : Room).frames ∧ 71 ≤ ({ frames := 3, cells := zh_N z - zh_N s0, slots := zh_M z - zh_M s0, locals := 71 } : Room).locals := ⟨Nat.le_refl _, Nat.le_refl _⟩
  have hret := fun (pc : Nat) (lv : List (Nat × Value)) (hd : decode ze_Reader_readSignature pc = .ok (.return_, 1)) => zg_vret (R := { frames := 3, cells := zh_N z - zh_N s0, slots := zh_M z - zh_M s0, locals := 71 }) (l := l) (e := e) (below := below) (c0 := zh_N s0) (s0 := zh_M s0) (z := z) (lv := lv) X hd
  refine zg_1 (pc' := 1) (fun _ _ _ _ _ hl w => lv_aload_n hx hb zd_Reader_readSignature_0 rfl (lv_at hl 0 rfl) w) ?_
  obtain ⟨h_1, hf⟩ := zx_ck hf
  refine zg_get (pc' := 4) (ci := 2) hx hb htT zi_Reader hown hK h_1 rfl rfl 2 (by decide) (htT _ zt_498) (fun _ h9 => h9) rfl zd_Reader_readSignature_1 rfl ?_
  refine zg_2 (pc1 := 8) (pc2 := 7) (Classical.em _) (fun _ _ _ _ _ w1 w2 => lv_if_eq hx hb zd_Reader_readSignature_4 (by decide) w1 w2) (fun hc => ?_) (fun hc => ?_)
  · rw [if_pos hc] at hf
    refine zg_1 (pc' := 9) (fun _ _ _ _ _ hl w => lv_aload_n hx hb zd_Reader_readSignature_8 rfl (lv_at hl 1 rfl) w) ?_
    refine zg_1 (pc' := 10) (fun _ _ _ _ _ hl w => lv_aload_n hx hb zd_Reader_readSignature_9 rfl (lv_at hl 0 rfl) w) ?_
    obtain ⟨a_2, h_3, hf⟩ := zx_p hf
    refine zg_get (pc' := 13) (ci := 2) hx hb htT zi_Reader hown hK h_1 rfl rfl 0 (by decide) (htT _ zt_496) (fun _ h9 => h9) (zx_hv h_3) zd_Reader_readSignature_10 rfl ?_
    refine zg_1 (pc' := 14) (fun _ _ _ _ _ hl w => lv_iload_n hx hb zd_Reader_readSignature_13 rfl (lv_at hl 2 rfl) w) ?_
    refine zg_1 (pc' := 15) (fun _ _ _ _ _ hl w => lv_aload_n hx hb zd_Reader_readSignature_14 rfl (lv_at hl 0 rfl) w) ?_
    refine zg_get (pc' := 18) (ci := 2) hx hb htT zi_Reader hown hK h_1 rfl rfl 1 (by decide) (htT _ zt_497) (fun _ h9 => h9) rfl zd_Reader_readSignature_15 rfl ?_
    obtain ⟨h_4, hf⟩ := zx_ck hf
    obtain ⟨i_5, hq, hf⟩ := zx_p hf
    refine zg_call (pc' := 21) (y := s0) (rv := (some (.int i_5))) (rest := [.ref (h0 + a1)]) X hR ⟨Nat.le_refl _, Nat.le_refl _⟩ (fun H locs ls k j hsz hI hU hk => va_runV (As := [.int i2, .int (zh_I s0 a0 1)]) (rest := [.ref (h0 + a1)]) ⟨hx, hb, hml, hown, htT⟩ (zc_Draft_hash l h0 D dA tb n hq) (cwV 2 htT (zw_gV zt_587 zt_453 zt_454 zt_65 zt_455) rfl rfl rfl (by decide +kernel) ⟨Nat.le_trans (Nat.le_of_ble_eq_true rfl) hF.1, Nat.le_trans (Nat.le_of_ble_eq_true rfl) hF.2⟩) ⟨(zg_pre hU).1, zg_recv hK hI h_4 rfl, (zg_pre hU).2⟩ rfl rfl hsz rfl (lv_room (Nat.le_of_ble_eq_true rfl)) zd_Reader_readSignature_18 hk) rfl ?_
    obtain ⟨h_7, hf⟩ := zx_ck hf
    obtain ⟨s_6, e_s_6, hf⟩ := zx_l hf
    refine zg_putI (pc' := 24) (ci := 0) (ty := .int) hx hb htT zi_Certificate zy_Certificate zo_Certificate zj_Certificate hown hK h_7 rfl rfl 4 (by decide) (htT _ zt_213) (fun _ h9 => h9) (Or.inl rfl) (by decide +kernel) rfl rfl rfl e_s_6 zd_Reader_readSignature_21 rfl ?_
    refine zg_1 (pc' := 25) (fun _ _ _ _ _ hl w => lv_aload_n hx hb zd_Reader_readSignature_24 rfl (lv_at hl 1 rfl) w) ?_
    refine zg_1 (pc' := 26) (fun _ _ _ _ _ hl w => lv_aload_n hx hb zd_Reader_readSignature_25 rfl (lv_at hl 0 rfl) w) ?_
    refine zg_1 (pc' := 27) (fun _ _ _ _ _ hl w => lv_iload_n hx hb zd_Reader_readSignature_26 rfl (lv_at hl 3 rfl) w) ?_
    obtain ⟨j_9, s_8, hq, hf⟩ := zx_b hf
    refine zg_call (pc' := 30) (y := s_8) (rv := (some (.long j_9))) (rest := [.ref (h0 + a1)]) X hR (zm_Reader_readInteger hq) (fun H locs ls k j hsz hI hU hk => va_runV (As := [.int i3]) (rest := [.ref (h0 + a1)]) ⟨hx, hb, hml, hown, htT⟩ (zc_Reader_readInteger l h0 D dA tb n hq) (cwV 1 htT (zw_gV zt_527 zt_529 zt_8 zt_75 zt_530) rfl rfl rfl (by decide +kernel) ⟨Nat.le_trans (Nat.le_of_ble_eq_true rfl) hF.1, Nat.le_trans (Nat.le_of_ble_eq_true rfl) hF.2⟩) ⟨(zg_pre hU).1, zg_recv hK hI (zx_oI e_s_6 h_1) rfl, (zg_pre hU).2⟩ rfl rfl hsz rfl (lv_room (Nat.le_of_ble_eq_true rfl)) zd_Reader_readSignature_27 hk) rfl ?_
    obtain ⟨h_11, hf⟩ := zx_ck hf
    obtain ⟨s_10, e_s_10, hf⟩ := zx_l hf
    refine zg_putJ (pc' := 33) (ci := 0) (ty := .long) hx hb htT zi_Certificate zy_Certificate zo_Certificate zj_Certificate hown hK h_11 rfl rfl 3 (by decide) (htT _ zt_208) (fun _ h9 => h9) (Or.inl rfl) (by decide +kernel) rfl rfl rfl e_s_10 zd_Reader_readSignature_30 rfl ?_
    refine zg_1 (pc' := 34) (fun _ _ _ _ _ hl w => lv_aload_n hx hb zd_Reader_readSignature_33 rfl (lv_at hl 0 rfl) w) ?_
    refine zg_1 (pc' := 35) (fun _ _ _ _ _ hl w => lv_iload_n hx hb zd_Reader_readSignature_34 rfl (lv_at hl 3 rfl) w) ?_
    obtain ⟨h_13, hf⟩ := zx_ck hf
    obtain ⟨s_12, hq, hf⟩ := zx_p hf
    refine zg_call (pc' := 38) (y := s_12) (rv := none) (rest := []) X hR (zm_Reader_close hq) (fun H locs ls k j hsz hI hU hk => va_runV (As := [.int i3]) (rest := []) ⟨hx, hb, hml, hown, htT⟩ (zc_Reader_close l h0 D dA tb n hq) (cwV 1 htT (zw_gV zt_564 zt_566 zt_16 zt_75 zt_567) rfl rfl rfl (by decide +kernel) ⟨Nat.le_trans (Nat.le_of_ble_eq_true rfl) hF.1, Nat.le_trans (Nat.le_of_ble_eq_true rfl) hF.2⟩) ⟨(zg_pre hU).1, zg_recv hK hI h_13 rfl, (zg_pre hU).2⟩ rfl rfl hsz rfl (lv_room (Nat.le_of_ble_eq_true rfl)) zd_Reader_readSignature_35 hk) rfl ?_
    refine zg_1 (pc' := 39) (fun _ _ _ _ _ hl w => lv_aload_n hx hb zd_Reader_readSignature_38 rfl (lv_at hl 0 rfl) w) ?_
    refine zg_1 (pc' := 40) (fun _ _ _ _ _ hl w => lv_aload_n hx hb zd_Reader_readSignature_39 rfl (lv_at hl 0 rfl) w) ?_
    obtain ⟨h_14, hf⟩ := zx_ck hf
    obtain ⟨a_15, h_16, hf⟩ := zx_p hf
    refine zg_get (pc' := 43) (ci := 2) hx hb htT zi_Reader hown hK h_14 rfl rfl 0 (by decide) (htT _ zt_496) (fun _ h9 => h9) (zx_hv h_16) zd_Reader_readSignature_40 rfl ?_
    obtain ⟨h_17, hf⟩ := zx_ck hf
    refine zg_get (pc' := 46) (ci := 1) hx hb htT zi_Draft hown hK h_17 rfl rfl 1 (by decide) (htT _ zt_95) (fun _ h9 => h9) rfl zd_Reader_readSignature_43 rfl ?_
    obtain ⟨s_18, hq, hf⟩ := zx_p hf
    refine zg_call (pc' := 49) (y := s_18) (rv := none) (rest := []) X hR (zm_Reader_close hq) (fun H locs ls k j hsz hI hU hk => va_runV (As := [.int (zh_I s_12 a_15 1)]) (rest := []) ⟨hx, hb, hml, hown, htT⟩ (zc_Reader_close l h0 D dA tb n hq) (cwV 1 htT (zw_gV zt_564 zt_566 zt_16 zt_75 zt_567) rfl rfl rfl (by decide +kernel) ⟨Nat.le_trans (Nat.le_of_ble_eq_true rfl) hF.1, Nat.le_trans (Nat.le_of_ble_eq_true rfl) hF.2⟩) ⟨(zg_pre hU).1, zg_recv hK hI h_14 rfl, (zg_pre hU).2⟩ rfl rfl hsz rfl (lv_room (Nat.le_of_ble_eq_true rfl)) zd_Reader_readSignature_46 hk) rfl ?_
    obtain rfl := zx_r1 hf
    exact hret _ _ zd_Reader_readSignature_49
  · rw [if_neg hc] at hf
    obtain rfl := zx_r1 hf
    exact hret _ _ zd_Reader_readSignature_7
set_option maxHeartbeats 4000000 in
theorem zw_Reader_readFlag_67 {p : Program} {l : Launch} {e : Env} {R : Room} {s : State} {m : MethodId} {args : Array Value} {below : List Frame} {meth : Method} {c : Code} {Q : State → Prop} {h0 : Nat} {D : va_G} {dA : Nat → ClassId} {tb : Nat → Nat} {c0 k0 : Nat} {z : zh_S} {r : Int32} (X : zg_X p s m args meth c ze_Reader_readFlag 4 zr_Reader (some .boolean) h0 D dA tb) (hR : zg_R R c0 k0 z) (hF : 2 ≤ R.frames ∧ 46 ≤ R.locals) (hret : (r = 0 ∨ r = 1) → ∀ (pc : Nat) (lv : List (Nat × Value)), decode ze_Reader_readFlag pc = .ok (.ireturn, 1) → zg_G p l e R s m args below meth c Q h0 D dA 4 c0 k0 z z pc lv [.int r]) (n : Nat) : ∀ (s0 : zh_S) (a0 : Nat) (i3 : Int32), zb_Reader_readFlag_67 n s0 a0 i3 = some (r, z) → zg_G p l e R s m args below meth c Q h0 D dA 4 c0 k0 z s0 67 [(0, .ref (h0 + a0)), (3, .int i3)] [] := by
  obtain ⟨hx, hb, hml, hown, htT, hrt, hlk, x00, hIn⟩ := id X
  have hK := hIn.2.1
  have hT := hIn.2.2.1
  have hNe := hIn.2.2.2
  intro s0 a0 i3 hf
  rw [zb_Reader_readFlag_67] at hf
  refine zg_1 (pc' := 68) (fun _ _ _ _ _ hl w => lv_aload_n hx hb zd_Reader_readFlag_67 rfl (lv_at hl 0 rfl) w) ?_
  refine zg_1 (pc' := 69) (fun _ _ _ _ _ hl w => lv_iload_n hx hb zd_Reader_readFlag_68 rfl (lv_at hl 1 rfl) w) ?_
  obtain ⟨h_2, hf⟩ := zx_ck hf
  obtain ⟨s_1, e_s_1, hf⟩ := zx_l hf
  refine zg_putI (pc' := 72) (ci := 2) (ty := .int) hx hb htT zi_Reader zy_Reader zo_Reader zj_Reader hown hK h_2 rfl rfl 1 (by decide) (htT _ zt_497) (fun _ h9 => h9) (Or.inl rfl) (by decide +kernel) rfl rfl rfl e_s_1 zd_Reader_readFlag_69 rfl ?_
  refine zg_1 (pc' := 73) (fun _ _ _ _ _ hl w => lv_iconst (v := (1 : Int32)) hx hb zd_Reader_readFlag_72 (by decide) w) ?_
  obtain ⟨rfl, rfl⟩ := zx_r2 hf
  exact hret (Or.inr rfl) _ _ zd_Reader_readFlag_73
set_option maxHeartbeats 4000000 in
theorem zw_Reader_readFlag_60 {p : Program} {l : Launch} {e : Env} {R : Room} {s : State} {m : MethodId} {args : Array Value} {below : List Frame} {meth : Method} {c : Code} {Q : State → Prop} {h0 : Nat} {D : va_G} {dA : Nat → ClassId} {tb : Nat → Nat} {c0 k0 : Nat} {z : zh_S} {r : Int32} (X : zg_X p s m args meth c ze_Reader_readFlag 4 zr_Reader (some .boolean) h0 D dA tb) (hR : zg_R R c0 k0 z) (hF : 2 ≤ R.frames ∧ 46 ≤ R.locals) (hret : (r = 0 ∨ r = 1) → ∀ (pc : Nat) (lv : List (Nat × Value)), decode ze_Reader_readFlag pc = .ok (.ireturn, 1) → zg_G p l e R s m args below meth c Q h0 D dA 4 c0 k0 z z pc lv [.int r]) (n : Nat) : ∀ (s0 : zh_S) (a0 : Nat) (i2 : Int32) (i3 : Int32), zb_Reader_readFlag_60 n s0 a0 i2 i3 = some (r, z) → zg_G p l e R s m args below meth c Q h0 D dA 4 c0 k0 z s0 60 [(0, .ref (h0 + a0)), (2, .int i2), (3, .int i3)] [] := by
  obtain ⟨hx, hb, hml, hown, htT, hrt, hlk, x00, hIn⟩ := id X
  have hK := hIn.2.1
  have hT := hIn.2.2.1
  have hNe := hIn.2.2.2
  intro s0 a0 i2 i3 hf
  rw [zb_Reader_readFlag_60] at hf
  refine zg_1 (pc' := 61) (fun _ _ _ _ _ hl w => lv_aload_n hx hb zd_Reader_readFlag_60 rfl (lv_at hl 0 rfl) w) ?_
  refine zg_1 (pc' := 62) (fun _ _ _ _ _ hl w => lv_iconst (v := (4 : Int32)) hx hb zd_Reader_readFlag_61 (by decide) w) ?_
  refine zg_1 (pc' := 63) (fun _ _ _ _ _ hl w => lv_iload_n hx hb zd_Reader_readFlag_62 rfl (lv_at hl 1 rfl) w) ?_
  obtain ⟨h_2, hf⟩ := zx_ck hf
  obtain ⟨i_3, s_1, hq, hf⟩ := zx_b hf
  refine zg_call (pc' := 66) (y := s_1) (rv := (some (.int i_3))) (rest := []) X hR (zm_Reader_fail hq) (fun H locs ls k j hsz hI hU hk => va_runV (As := [.int (4 : Int32), .int i2]) (rest := []) ⟨hx, hb, hml, hown, htT⟩ (zc_Reader_fail l h0 D dA tb n hq) (cwV 2 htT (zw_gV zt_523 zt_525 zt_7 zt_75 zt_526) rfl rfl rfl (by decide +kernel) ⟨Nat.le_trans (Nat.le_of_ble_eq_true rfl) hF.1, Nat.le_trans (Nat.le_of_ble_eq_true rfl) hF.2⟩) ⟨(zg_pre hU).1, zg_recv hK hI h_2 rfl, (zg_pre hU).2⟩ rfl rfl hsz rfl (lv_room (Nat.le_of_ble_eq_true rfl)) zd_Reader_readFlag_63 hk) rfl ?_
  refine zg_1 (pc' := 67) (fun _ _ _ _ _ hl w => lv_pop hx hb zd_Reader_readFlag_66 rfl w) ?_
  refine zg_v [0, 2] rfl ?_
  exact zw_Reader_readFlag_67 X hR hF hret n s_1 a0 i3 hf
set_option maxHeartbeats 4000000 in
theorem zc_Reader_readFlag (l : Launch) (h0 : Nat) (D : va_G) (dA : Nat → ClassId) (tb : Nat → Nat) (n : Nat) {s0 : zh_S} {a0 : Nat} {i1 : Int32} {r : Int32} {z : zh_S} (hf : zf_Reader_readFlag n s0 a0 i1 = some (r, z)) : zc_M l zn_Reader_readFlag zs_Reader_readFlag 2 46 h0 D dA tb [.ref (h0 + a0), .int i1] s0 (some (.int r)) z := by
  rw [zf_Reader_readFlag] at hf
  refine zc_of (cc := ze_Reader_readFlag) (maxL := 4) (ret := (some .boolean)) (lv := [(0, .ref (h0 + a0)), (1, .int i1)]) (by decide) rfl (Nat.le_of_ble_eq_true rfl) rfl ?_
  intro p e s m args below meth c X hnm
  obtain ⟨hx, hb, hml, hown, htT, hrt, hlk, x00, hIn⟩ := id X
  have hK := hIn.2.1
  have hT := hIn.2.2.1
  have hNe := hIn.2.2.2
  have hR : zg_R { frames := 2, cells := zh_N z - zh_N s0, slots := zh_M z - zh_M s0, locals := 46 } (zh_N s0) (zh_M s0) z := ⟨by show zh_N z ≤ zh_N s0 + (zh_N z - zh_N s0); omega, by show zh_M z ≤ zh_M s0 + (zh_M z - zh_M s0); omega⟩
  have hF : 2 ≤ ({ frames := 2, cells := zh_N z - zh_N s0, slots := zh_M z - zh_M s0, locals := 46 } : Room).frames ∧ 46 ≤ ({ frames := 2, cells := zh_N z - zh_N s0, slots := zh_M z - zh_M s0, locals := 46 } : Room).locals := ⟨Nat.le_refl _, Nat.le_refl _⟩
  have hret := fun (hz : r = 0 ∨ r = 1) (pc : Nat) (lv : List (Nat × Value)) (hd : decode ze_Reader_readFlag pc = .ok (.ireturn, 1)) => zg_iret (R := { frames := 2, cells := zh_N z - zh_N s0, slots := zh_M z - zh_M s0, locals := 46 }) (l := l) (e := e) (below := below) (c0 := zh_N s0) (s0 := zh_M s0) (z := z) (lv := lv) (v := r) X (zx_nz hz) hd
  refine zg_1 (pc' := 1) (fun _ _ _ _ _ hl w => lv_aload_n hx hb zd_Reader_readFlag_0 rfl (lv_at hl 0 rfl) w) ?_
  refine zg_1 (pc' := 2) (fun _ _ _ _ _ hl w => lv_iconst (v := (1 : Int32)) hx hb zd_Reader_readFlag_1 (by decide) w) ?_
  refine zg_1 (pc' := 3) (fun _ _ _ _ _ hl w => lv_iload_n hx hb zd_Reader_readFlag_2 rfl (lv_at hl 1 rfl) w) ?_
  obtain ⟨h_1, hf⟩ := zx_ck hf
  obtain ⟨i_2, hq, hf⟩ := zx_p hf
  refine zg_call (pc' := 6) (y := s0) (rv := (some (.int i_2))) (rest := []) X hR ⟨Nat.le_refl _, Nat.le_refl _⟩ (fun H locs ls k j hsz hI hU hk => va_runV (As := [.int (1 : Int32), .int i1]) (rest := []) ⟨hx, hb, hml, hown, htT⟩ (zc_Reader_isNext l h0 D dA tb n hq) (cwV 2 htT (zw_gV zt_543 zt_545 zt_11 zt_75 zt_546) rfl rfl rfl (by decide +kernel) ⟨Nat.le_trans (Nat.le_of_ble_eq_true rfl) hF.1, Nat.le_trans (Nat.le_of_ble_eq_true rfl) hF.2⟩) ⟨(zg_pre hU).1, zg_recv hK hI h_1 rfl, (zg_pre hU).2⟩ rfl rfl hsz rfl (lv_room (Nat.le_of_ble_eq_true rfl)) zd_Reader_readFlag_3 hk) rfl ?_
  refine zg_2 (pc1 := 11) (pc2 := 9) (Classical.em _).symm (fun _ _ _ _ _ w1 w2 => lv_if_ne hx hb zd_Reader_readFlag_6 (by decide) w1 w2) (fun hc => ?_) (fun hc => ?_)
  · rw [if_neg hc] at hf
    refine zg_1 (pc' := 12) (fun _ _ _ _ _ hl w => lv_aload_n hx hb zd_Reader_readFlag_11 rfl (lv_at hl 0 rfl) w) ?_
    refine zg_get (pc' := 15) (ci := 2) hx hb htT zi_Reader hown hK h_1 rfl rfl 1 (by decide) (htT _ zt_497) (fun _ h9 => h9) rfl zd_Reader_readFlag_12 rfl ?_
    obtain ⟨i_3, e_i_3, hf⟩ := zx_l hf
    refine zg_ti e_i_3 ?_
    refine zg_s (pc' := 16) (lv' := [(2, .int i_3), (0, .ref (h0 + a0)), (1, .int i1)]) (fun _ _ _ _ _ hl w => lv_istore_n hx hb zd_Reader_readFlag_15 rfl hl (by decide) rfl w) ?_
    refine zg_1 (pc' := 17) (fun _ _ _ _ _ hl w => lv_aload_n hx hb zd_Reader_readFlag_16 rfl (lv_at hl 1 rfl) w) ?_
    refine zg_1 (pc' := 18) (fun _ _ _ _ _ hl w => lv_iconst (v := (1 : Int32)) hx hb zd_Reader_readFlag_17 (by decide) w) ?_
    refine zg_1 (pc' := 19) (fun _ _ _ _ _ hl w => lv_iload_n hx hb zd_Reader_readFlag_18 rfl (lv_at hl 2 rfl) w) ?_
    obtain ⟨i_5, s_4, hq, hf⟩ := zx_b hf
    refine zg_call (pc' := 22) (y := s_4) (rv := (some (.int i_5))) (rest := []) X hR (zm_Reader_open hq) (fun H locs ls k j hsz hI hU hk => va_runV (As := [.int (1 : Int32), .int i1]) (rest := []) ⟨hx, hb, hml, hown, htT⟩ (zc_Reader_open l h0 D dA tb n hq) (cwV 2 htT (zw_gV zt_519 zt_521 zt_6 zt_75 zt_522) rfl rfl rfl (by decide +kernel) ⟨Nat.le_trans (Nat.le_of_ble_eq_true rfl) hF.1, Nat.le_trans (Nat.le_of_ble_eq_true rfl) hF.2⟩) ⟨(zg_pre hU).1, zg_recv hK hI h_1 rfl, (zg_pre hU).2⟩ rfl rfl hsz rfl (lv_room (Nat.le_of_ble_eq_true rfl)) zd_Reader_readFlag_19 hk) rfl ?_
    refine zg_s (pc' := 23) (lv' := [(3, .int i_5), (2, .int i_3), (0, .ref (h0 + a0)), (1, .int i1)]) (fun _ _ _ _ _ hl w => lv_istore_n hx hb zd_Reader_readFlag_22 rfl hl (by decide) rfl w) ?_
    refine zg_1 (pc' := 24) (fun _ _ _ _ _ hl w => lv_aload_n hx hb zd_Reader_readFlag_23 rfl (lv_at hl 2 rfl) w) ?_
    obtain ⟨h_6, hf⟩ := zx_ck hf
    refine zg_get (pc' := 27) (ci := 2) hx hb htT zi_Reader hown hK h_6 rfl rfl 2 (by decide) (htT _ zt_498) (fun _ h9 => h9) rfl zd_Reader_readFlag_24 rfl ?_
    refine zg_2 (pc1 := 32) (pc2 := 30) (Classical.em _) (fun _ _ _ _ _ w1 w2 => lv_if_eq hx hb zd_Reader_readFlag_27 (by decide) w1 w2) (fun hc => ?_) (fun hc => ?_)
    · rw [if_pos hc] at hf
      refine zg_1 (pc' := 33) (fun _ _ _ _ _ hl w => lv_iload_n hx hb zd_Reader_readFlag_32 rfl (lv_at hl 0 rfl) w) ?_
      refine zg_1 (pc' := 34) (fun _ _ _ _ _ hl w => lv_aload_n hx hb zd_Reader_readFlag_33 rfl (lv_at hl 2 rfl) w) ?_
      refine zg_get (pc' := 37) (ci := 2) hx hb htT zi_Reader hown hK h_6 rfl rfl 1 (by decide) (htT _ zt_497) (fun _ h9 => h9) rfl zd_Reader_readFlag_34 rfl ?_
      refine zg_1 (pc' := 38) (fun _ _ _ _ _ hl w => lv_isub hx hb zd_Reader_readFlag_37 w) ?_
      refine zg_1 (pc' := 39) (fun _ _ _ _ _ hl w => lv_iconst (v := (1 : Int32)) hx hb zd_Reader_readFlag_38 (by decide) w) ?_
      refine zg_2 (pc1 := 60) (pc2 := 42) (Classical.em _).symm (fun _ _ _ _ _ w1 w2 => lv_icmp_ne hx hb zd_Reader_readFlag_39 (by decide) w1 w2) (fun hc => ?_) (fun hc => ?_)
      · rw [if_neg hc] at hf
        refine zg_v [2, 1, 0] rfl ?_
        exact zw_Reader_readFlag_60 X hR hF hret n s_4 a0 i_3 i_5 hf
      · rw [if_pos hc] at hf
        refine zg_1 (pc' := 43) (fun _ _ _ _ _ hl w => lv_aload_n hx hb zd_Reader_readFlag_42 rfl (lv_at hl 2 rfl) w) ?_
        obtain ⟨a_7, h_8, hf⟩ := zx_p hf
        refine zg_get (pc' := 46) (ci := 2) hx hb htT zi_Reader hown hK h_6 rfl rfl 0 (by decide) (htT _ zt_496) (fun _ h9 => h9) (zx_hv h_8) zd_Reader_readFlag_43 rfl ?_
        obtain ⟨h_9, hf⟩ := zx_ck hf
        obtain ⟨a_10, h_11, hf⟩ := zx_p hf
        refine zg_get (pc' := 49) (ci := 1) hx hb htT zi_Draft hown hK h_9 rfl rfl 0 (by decide) (htT _ zt_93) (fun _ h9 => h9) (zx_hv h_11) zd_Reader_readFlag_46 rfl ?_
        refine zg_1 (pc' := 50) (fun _ _ _ _ _ hl w => lv_aload_n hx hb zd_Reader_readFlag_49 rfl (lv_at hl 2 rfl) w) ?_
        refine zg_get (pc' := 53) (ci := 2) hx hb htT zi_Reader hown hK h_6 rfl rfl 1 (by decide) (htT _ zt_497) (fun _ h9 => h9) rfl zd_Reader_readFlag_50 rfl ?_
        obtain ⟨h_12, hf⟩ := zx_ck hf
        refine zg_iald (pc' := 54) hx hb hK h_12 zd_Reader_readFlag_53 rfl ?_
        refine zg_1 (pc' := 57) (fun _ _ _ _ _ hl w => lv_sipush (v := (255 : Int32)) hx hb zd_Reader_readFlag_54 (by decide) w) ?_
        refine zg_2 (pc1 := 67) (pc2 := 60) (Classical.em _) (fun _ _ _ _ _ w1 w2 => lv_icmp_eq hx hb zd_Reader_readFlag_57 (by decide) w1 w2) (fun hc => ?_) (fun hc => ?_)
        · rw [if_pos hc] at hf
          refine zg_v [2, 0] rfl ?_
          exact zw_Reader_readFlag_67 X hR hF hret n s_4 a0 i_5 hf
        · rw [if_neg hc] at hf
          refine zg_v [2, 1, 0] rfl ?_
          exact zw_Reader_readFlag_60 X hR hF hret n s_4 a0 i_3 i_5 hf
    · rw [if_neg hc] at hf
      refine zg_1 (pc' := 31) (fun _ _ _ _ _ hl w => lv_iconst (v := (0 : Int32)) hx hb zd_Reader_readFlag_30 (by decide) w) ?_
      obtain ⟨rfl, rfl⟩ := zx_r2 hf
      exact hret (Or.inl rfl) _ _ zd_Reader_readFlag_31
  · rw [if_pos hc] at hf
    refine zg_1 (pc' := 10) (fun _ _ _ _ _ hl w => lv_iconst (v := (0 : Int32)) hx hb zd_Reader_readFlag_9 (by decide) w) ?_
    obtain ⟨rfl, rfl⟩ := zx_r2 hf
    exact hret (Or.inl rfl) _ _ zd_Reader_readFlag_10
set_option maxHeartbeats 4000000 in
theorem zc_Reader_skipOpaque (l : Launch) (h0 : Nat) (D : va_G) (dA : Nat → ClassId) (tb : Nat → Nat) (n : Nat) {s0 : zh_S} {a0 : Nat} {i1 : Int32} {z : zh_S} (hf : zf_Reader_skipOpaque n s0 a0 i1 = some z) : zc_M l zn_Reader_skipOpaque zs_Reader_skipOpaque 2 46 h0 D dA tb [.ref (h0 + a0), .int i1] s0 none z := by
  rw [zf_Reader_skipOpaque] at hf
  refine zc_of (cc := ze_Reader_skipOpaque) (maxL := 3) (ret := none) (lv := [(0, .ref (h0 + a0)), (1, .int i1)]) (by decide) rfl (Nat.le_of_ble_eq_true rfl) rfl ?_
  intro p e s m args below meth c X hnm
  obtain ⟨hx, hb, hml, hown, htT, hrt, hlk, x00, hIn⟩ := id X
  have hK := hIn.2.1
  have hT := hIn.2.2.1
  have hNe := hIn.2.2.2
  have hR : zg_R { frames := 2, cells := zh_N z - zh_N s0, slots := zh_M z - zh_M s0, locals := 46 } (zh_N s0) (zh_M s0) z := ⟨by show zh_N z ≤ zh_N s0 + (zh_N z - zh_N s0); omega, by show zh_M z ≤ zh_M s0 + (zh_M z - zh_M s0); omega⟩
  have hF : 2 ≤ ({ frames := 2, cells := zh_N z - zh_N s0, slots := zh_M z - zh_M s0, locals := 46 } : Room).frames ∧ 46 ≤ ({ frames := 2, cells := zh_N z - zh_N s0, slots := zh_M z - zh_M s0, locals := 46 } : Room).locals := ⟨Nat.le_refl _, Nat.le_refl _⟩
  have hret := fun (pc : Nat) (lv : List (Nat × Value)) (hd : decode ze_Reader_skipOpaque pc = .ok (.return_, 1)) => zg_vret (R := { frames := 2, cells := zh_N z - zh_N s0, slots := zh_M z - zh_M s0, locals := 46 }) (l := l) (e := e) (below := below) (c0 := zh_N s0) (s0 := zh_M s0) (z := z) (lv := lv) X hd
  refine zg_1 (pc' := 1) (fun _ _ _ _ _ hl w => lv_aload_n hx hb zd_Reader_skipOpaque_0 rfl (lv_at hl 0 rfl) w) ?_
  refine zg_1 (pc' := 2) (fun _ _ _ _ _ hl w => lv_iconst (v := (4 : Int32)) hx hb zd_Reader_skipOpaque_1 (by decide) w) ?_
  refine zg_1 (pc' := 3) (fun _ _ _ _ _ hl w => lv_iload_n hx hb zd_Reader_skipOpaque_2 rfl (lv_at hl 1 rfl) w) ?_
  obtain ⟨h_2, hf⟩ := zx_ck hf
  obtain ⟨i_3, s_1, hq, hf⟩ := zx_b hf
  refine zg_call (pc' := 6) (y := s_1) (rv := (some (.int i_3))) (rest := []) X hR (zm_Reader_open hq) (fun H locs ls k j hsz hI hU hk => va_runV (As := [.int (4 : Int32), .int i1]) (rest := []) ⟨hx, hb, hml, hown, htT⟩ (zc_Reader_open l h0 D dA tb n hq) (cwV 2 htT (zw_gV zt_519 zt_521 zt_6 zt_75 zt_522) rfl rfl rfl (by decide +kernel) ⟨Nat.le_trans (Nat.le_of_ble_eq_true rfl) hF.1, Nat.le_trans (Nat.le_of_ble_eq_true rfl) hF.2⟩) ⟨(zg_pre hU).1, zg_recv hK hI h_2 rfl, (zg_pre hU).2⟩ rfl rfl hsz rfl (lv_room (Nat.le_of_ble_eq_true rfl)) zd_Reader_skipOpaque_3 hk) rfl ?_
  refine zg_s (pc' := 7) (lv' := [(2, .int i_3), (0, .ref (h0 + a0)), (1, .int i1)]) (fun _ _ _ _ _ hl w => lv_istore_n hx hb zd_Reader_skipOpaque_6 rfl hl (by decide) rfl w) ?_
  refine zg_1 (pc' := 8) (fun _ _ _ _ _ hl w => lv_aload_n hx hb zd_Reader_skipOpaque_7 rfl (lv_at hl 1 rfl) w) ?_
  obtain ⟨h_4, hf⟩ := zx_ck hf
  refine zg_get (pc' := 11) (ci := 2) hx hb htT zi_Reader hown hK h_4 rfl rfl 2 (by decide) (htT _ zt_498) (fun _ h9 => h9) rfl zd_Reader_skipOpaque_8 rfl ?_
  refine zg_2 (pc1 := 19) (pc2 := 14) (Classical.em _).symm (fun _ _ _ _ _ w1 w2 => lv_if_ne hx hb zd_Reader_skipOpaque_11 (by decide) w1 w2) (fun hc => ?_) (fun hc => ?_)
  · rw [if_neg hc] at hf
    obtain rfl := zx_r1 hf
    exact hret _ _ zd_Reader_skipOpaque_19
  · rw [if_pos hc] at hf
    refine zg_1 (pc' := 15) (fun _ _ _ _ _ hl w => lv_aload_n hx hb zd_Reader_skipOpaque_14 rfl (lv_at hl 1 rfl) w) ?_
    refine zg_1 (pc' := 16) (fun _ _ _ _ _ hl w => lv_iload_n hx hb zd_Reader_skipOpaque_15 rfl (lv_at hl 0 rfl) w) ?_
    obtain ⟨s_5, e_s_5, hf⟩ := zx_l hf
    refine zg_putI (pc' := 19) (ci := 2) (ty := .int) hx hb htT zi_Reader zy_Reader zo_Reader zj_Reader hown hK h_4 rfl rfl 1 (by decide) (htT _ zt_497) (fun _ h9 => h9) (Or.inl rfl) (by decide +kernel) rfl rfl rfl e_s_5 zd_Reader_skipOpaque_16 rfl ?_
    obtain rfl := zx_r1 hf
    exact hret _ _ zd_Reader_skipOpaque_19
set_option maxHeartbeats 4000000 in
theorem zw_Reader_readRealm_80 {p : Program} {l : Launch} {e : Env} {R : Room} {s : State} {m : MethodId} {args : Array Value} {below : List Frame} {meth : Method} {c : Code} {Q : State → Prop} {h0 : Nat} {D : va_G} {dA : Nat → ClassId} {tb : Nat → Nat} {c0 k0 : Nat} {z : zh_S} (X : zg_X p s m args meth c ze_Reader_readRealm 5 zr_Reader none h0 D dA tb) (hR : zg_R R c0 k0 z) (hF : 3 ≤ R.frames ∧ 73 ≤ R.locals) (hret : ∀ (pc : Nat) (lv : List (Nat × Value)), decode ze_Reader_readRealm pc = .ok (.return_, 1) → zg_G p l e R s m args below meth c Q h0 D dA 5 c0 k0 z z pc lv []) (n : Nat) : ∀ (s0 : zh_S) (a0 : Nat) (i4 : Int32), zb_Reader_readRealm_80 n s0 a0 i4 = some z → zg_G p l e R s m args below meth c Q h0 D dA 5 c0 k0 z s0 80 [(0, .ref (h0 + a0)), (4, .int i4)] [] := by
  obtain ⟨hx, hb, hml, hown, htT, hrt, hlk, x00, hIn⟩ := id X
  have hK := hIn.2.1
  have hT := hIn.2.2.1
  have hNe := hIn.2.2.2
  intro s0 a0 i4 hf
  rw [zb_Reader_readRealm_80] at hf
  refine zg_1 (pc' := 81) (fun _ _ _ _ _ hl w => lv_aload_n hx hb zd_Reader_readRealm_80 rfl (lv_at hl 0 rfl) w) ?_
  refine zg_1 (pc' := 83) (fun _ _ _ _ _ hl w => lv_iload hx hb zd_Reader_readRealm_81 (lv_at hl 1 rfl) w) ?_
  obtain ⟨h_2, hf⟩ := zx_ck hf
  obtain ⟨s_1, hq, hf⟩ := zx_p hf
  refine zg_call (pc' := 86) (y := s_1) (rv := none) (rest := []) X hR (zm_Reader_close hq) (fun H locs ls k j hsz hI hU hk => va_runV (As := [.int i4]) (rest := []) ⟨hx, hb, hml, hown, htT⟩ (zc_Reader_close l h0 D dA tb n hq) (cwV 1 htT (zw_gV zt_564 zt_566 zt_16 zt_75 zt_567) rfl rfl rfl (by decide +kernel) ⟨Nat.le_trans (Nat.le_of_ble_eq_true rfl) hF.1, Nat.le_trans (Nat.le_of_ble_eq_true rfl) hF.2⟩) ⟨(zg_pre hU).1, zg_recv hK hI h_2 rfl, (zg_pre hU).2⟩ rfl rfl hsz rfl (lv_room (Nat.le_of_ble_eq_true rfl)) zd_Reader_readRealm_83 hk) rfl ?_
  obtain rfl := zx_r1 hf
  exact hret _ _ zd_Reader_readRealm_86
set_option maxHeartbeats 4000000 in
theorem zw_Reader_readRealm_55 {p : Program} {l : Launch} {e : Env} {R : Room} {s : State} {m : MethodId} {args : Array Value} {below : List Frame} {meth : Method} {c : Code} {Q : State → Prop} {h0 : Nat} {D : va_G} {dA : Nat → ClassId} {tb : Nat → Nat} {c0 k0 : Nat} {z : zh_S} (X : zg_X p s m args meth c ze_Reader_readRealm 5 zr_Reader none h0 D dA tb) (hR : zg_R R c0 k0 z) (hF : 3 ≤ R.frames ∧ 73 ≤ R.locals) (hret : ∀ (pc : Nat) (lv : List (Nat × Value)), decode ze_Reader_readRealm pc = .ok (.return_, 1) → zg_G p l e R s m args below meth c Q h0 D dA 5 c0 k0 z z pc lv []) (n : Nat) : ∀ (s0 : zh_S) (a0 : Nat) (a1 : Nat) (i4 : Int32), zb_Reader_readRealm_55 n s0 a0 a1 i4 = some z → zg_G p l e R s m args below meth c Q h0 D dA 5 c0 k0 z s0 55 [(0, .ref (h0 + a0)), (1, .ref (h0 + a1)), (4, .int i4)] [] := by
  obtain ⟨hx, hb, hml, hown, htT, hrt, hlk, x00, hIn⟩ := id X
  have hK := hIn.2.1
  have hT := hIn.2.2.1
  have hNe := hIn.2.2.2
  intro s0 a0 a1 i4 hf
  rw [zb_Reader_readRealm_55] at hf
  refine zg_1 (pc' := 56) (fun _ _ _ _ _ hl w => lv_aload_n hx hb zd_Reader_readRealm_55 rfl (lv_at hl 0 rfl) w) ?_
  refine zg_1 (pc' := 59) (fun _ _ _ _ _ hl w => lv_sipush (v := (129 : Int32)) hx hb zd_Reader_readRealm_56 (by decide) w) ?_
  refine zg_1 (pc' := 61) (fun _ _ _ _ _ hl w => lv_iload hx hb zd_Reader_readRealm_59 (lv_at hl 2 rfl) w) ?_
  obtain ⟨h_1, hf⟩ := zx_ck hf
  obtain ⟨i_2, hq, hf⟩ := zx_p hf
  refine zg_call (pc' := 64) (y := s0) (rv := (some (.int i_2))) (rest := []) X hR ⟨Nat.le_refl _, Nat.le_refl _⟩ (fun H locs ls k j hsz hI hU hk => va_runV (As := [.int (129 : Int32), .int i4]) (rest := []) ⟨hx, hb, hml, hown, htT⟩ (zc_Reader_isNext l h0 D dA tb n hq) (cwV 2 htT (zw_gV zt_543 zt_545 zt_11 zt_75 zt_546) rfl rfl rfl (by decide +kernel) ⟨Nat.le_trans (Nat.le_of_ble_eq_true rfl) hF.1, Nat.le_trans (Nat.le_of_ble_eq_true rfl) hF.2⟩) ⟨(zg_pre hU).1, zg_recv hK hI h_1 rfl, (zg_pre hU).2⟩ rfl rfl hsz rfl (lv_room (Nat.le_of_ble_eq_true rfl)) zd_Reader_readRealm_61 hk) rfl ?_
  refine zg_2 (pc1 := 80) (pc2 := 67) (Classical.em _) (fun _ _ _ _ _ w1 w2 => lv_if_eq hx hb zd_Reader_readRealm_64 (by decide) w1 w2) (fun hc => ?_) (fun hc => ?_)
  · rw [if_pos hc] at hf
    refine zg_v [0, 2] rfl ?_
    exact zw_Reader_readRealm_80 X hR hF hret n s0 a0 i4 hf
  · rw [if_neg hc] at hf
    refine zg_1 (pc' := 68) (fun _ _ _ _ _ hl w => lv_aload_n hx hb zd_Reader_readRealm_67 rfl (lv_at hl 1 rfl) w) ?_
    refine zg_1 (pc' := 69) (fun _ _ _ _ _ hl w => lv_aload_n hx hb zd_Reader_readRealm_68 rfl (lv_at hl 0 rfl) w) ?_
    refine zg_1 (pc' := 72) (fun _ _ _ _ _ hl w => lv_sipush (v := (129 : Int32)) hx hb zd_Reader_readRealm_69 (by decide) w) ?_
    refine zg_1 (pc' := 74) (fun _ _ _ _ _ hl w => lv_iload hx hb zd_Reader_readRealm_72 (lv_at hl 2 rfl) w) ?_
    obtain ⟨j_4, s_3, hq, hf⟩ := zx_b hf
    refine zg_call (pc' := 77) (y := s_3) (rv := (some (.long j_4))) (rest := [.ref (h0 + a1)]) X hR (zm_Reader_readName hq) (fun H locs ls k j hsz hI hU hk => va_runV (As := [.int (129 : Int32), .int i4]) (rest := [.ref (h0 + a1)]) ⟨hx, hb, hml, hown, htT⟩ (zc_Reader_readName l h0 D dA tb n hq) (cwV 2 htT (zw_gV zt_535 zt_537 zt_10 zt_75 zt_538) rfl rfl rfl (by decide +kernel) ⟨Nat.le_trans (Nat.le_of_ble_eq_true rfl) hF.1, Nat.le_trans (Nat.le_of_ble_eq_true rfl) hF.2⟩) ⟨(zg_pre hU).1, zg_recv hK hI h_1 rfl, (zg_pre hU).2⟩ rfl rfl hsz rfl (lv_room (Nat.le_of_ble_eq_true rfl)) zd_Reader_readRealm_74 hk) rfl ?_
    obtain ⟨h_6, hf⟩ := zx_ck hf
    obtain ⟨s_5, e_s_5, hf⟩ := zx_l hf
    refine zg_putJ (pc' := 80) (ci := 0) (ty := .long) hx hb htT zi_Certificate zy_Certificate zo_Certificate zj_Certificate hown hK h_6 rfl rfl 13 (by decide) (htT _ zt_166) (fun _ h9 => h9) (Or.inl rfl) (by decide +kernel) rfl rfl rfl e_s_5 zd_Reader_readRealm_77 rfl ?_
    refine zg_v [0, 2] rfl ?_
    exact zw_Reader_readRealm_80 X hR hF hret n s_5 a0 i4 hf
set_option maxHeartbeats 4000000 in
theorem zw_Reader_readRealm_30 {p : Program} {l : Launch} {e : Env} {R : Room} {s : State} {m : MethodId} {args : Array Value} {below : List Frame} {meth : Method} {c : Code} {Q : State → Prop} {h0 : Nat} {D : va_G} {dA : Nat → ClassId} {tb : Nat → Nat} {c0 k0 : Nat} {z : zh_S} (X : zg_X p s m args meth c ze_Reader_readRealm 5 zr_Reader none h0 D dA tb) (hR : zg_R R c0 k0 z) (hF : 3 ≤ R.frames ∧ 73 ≤ R.locals) (hret : ∀ (pc : Nat) (lv : List (Nat × Value)), decode ze_Reader_readRealm pc = .ok (.return_, 1) → zg_G p l e R s m args below meth c Q h0 D dA 5 c0 k0 z z pc lv []) (n : Nat) : ∀ (s0 : zh_S) (a0 : Nat) (a1 : Nat) (i4 : Int32), zb_Reader_readRealm_30 n s0 a0 a1 i4 = some z → zg_G p l e R s m args below meth c Q h0 D dA 5 c0 k0 z s0 30 [(0, .ref (h0 + a0)), (1, .ref (h0 + a1)), (4, .int i4)] [] := by
  obtain ⟨hx, hb, hml, hown, htT, hrt, hlk, x00, hIn⟩ := id X
  have hK := hIn.2.1
  have hT := hIn.2.2.1
  have hNe := hIn.2.2.2
  intro s0 a0 a1 i4 hf
  rw [zb_Reader_readRealm_30] at hf
  refine zg_1 (pc' := 31) (fun _ _ _ _ _ hl w => lv_aload_n hx hb zd_Reader_readRealm_30 rfl (lv_at hl 0 rfl) w) ?_
  refine zg_1 (pc' := 34) (fun _ _ _ _ _ hl w => lv_sipush (v := (128 : Int32)) hx hb zd_Reader_readRealm_31 (by decide) w) ?_
  refine zg_1 (pc' := 36) (fun _ _ _ _ _ hl w => lv_iload hx hb zd_Reader_readRealm_34 (lv_at hl 2 rfl) w) ?_
  obtain ⟨h_1, hf⟩ := zx_ck hf
  obtain ⟨i_2, hq, hf⟩ := zx_p hf
  refine zg_call (pc' := 39) (y := s0) (rv := (some (.int i_2))) (rest := []) X hR ⟨Nat.le_refl _, Nat.le_refl _⟩ (fun H locs ls k j hsz hI hU hk => va_runV (As := [.int (128 : Int32), .int i4]) (rest := []) ⟨hx, hb, hml, hown, htT⟩ (zc_Reader_isNext l h0 D dA tb n hq) (cwV 2 htT (zw_gV zt_543 zt_545 zt_11 zt_75 zt_546) rfl rfl rfl (by decide +kernel) ⟨Nat.le_trans (Nat.le_of_ble_eq_true rfl) hF.1, Nat.le_trans (Nat.le_of_ble_eq_true rfl) hF.2⟩) ⟨(zg_pre hU).1, zg_recv hK hI h_1 rfl, (zg_pre hU).2⟩ rfl rfl hsz rfl (lv_room (Nat.le_of_ble_eq_true rfl)) zd_Reader_readRealm_36 hk) rfl ?_
  refine zg_2 (pc1 := 55) (pc2 := 42) (Classical.em _) (fun _ _ _ _ _ w1 w2 => lv_if_eq hx hb zd_Reader_readRealm_39 (by decide) w1 w2) (fun hc => ?_) (fun hc => ?_)
  · rw [if_pos hc] at hf
    exact zw_Reader_readRealm_55 X hR hF hret n s0 a0 a1 i4 hf
  · rw [if_neg hc] at hf
    refine zg_1 (pc' := 43) (fun _ _ _ _ _ hl w => lv_aload_n hx hb zd_Reader_readRealm_42 rfl (lv_at hl 1 rfl) w) ?_
    refine zg_1 (pc' := 44) (fun _ _ _ _ _ hl w => lv_aload_n hx hb zd_Reader_readRealm_43 rfl (lv_at hl 0 rfl) w) ?_
    refine zg_1 (pc' := 47) (fun _ _ _ _ _ hl w => lv_sipush (v := (128 : Int32)) hx hb zd_Reader_readRealm_44 (by decide) w) ?_
    refine zg_1 (pc' := 49) (fun _ _ _ _ _ hl w => lv_iload hx hb zd_Reader_readRealm_47 (lv_at hl 2 rfl) w) ?_
    obtain ⟨j_4, s_3, hq, hf⟩ := zx_b hf
    refine zg_call (pc' := 52) (y := s_3) (rv := (some (.long j_4))) (rest := [.ref (h0 + a1)]) X hR (zm_Reader_readName hq) (fun H locs ls k j hsz hI hU hk => va_runV (As := [.int (128 : Int32), .int i4]) (rest := [.ref (h0 + a1)]) ⟨hx, hb, hml, hown, htT⟩ (zc_Reader_readName l h0 D dA tb n hq) (cwV 2 htT (zw_gV zt_535 zt_537 zt_10 zt_75 zt_538) rfl rfl rfl (by decide +kernel) ⟨Nat.le_trans (Nat.le_of_ble_eq_true rfl) hF.1, Nat.le_trans (Nat.le_of_ble_eq_true rfl) hF.2⟩) ⟨(zg_pre hU).1, zg_recv hK hI h_1 rfl, (zg_pre hU).2⟩ rfl rfl hsz rfl (lv_room (Nat.le_of_ble_eq_true rfl)) zd_Reader_readRealm_49 hk) rfl ?_
    obtain ⟨h_6, hf⟩ := zx_ck hf
    obtain ⟨s_5, e_s_5, hf⟩ := zx_l hf
    refine zg_putJ (pc' := 55) (ci := 0) (ty := .long) hx hb htT zi_Certificate zy_Certificate zo_Certificate zj_Certificate hown hK h_6 rfl rfl 12 (by decide) (htT _ zt_163) (fun _ h9 => h9) (Or.inl rfl) (by decide +kernel) rfl rfl rfl e_s_5 zd_Reader_readRealm_52 rfl ?_
    exact zw_Reader_readRealm_55 X hR hF hret n s_5 a0 a1 i4 hf
set_option maxHeartbeats 4000000 in
theorem zc_Reader_readRealm (l : Launch) (h0 : Nat) (D : va_G) (dA : Nat → ClassId) (tb : Nat → Nat) (n : Nat) {s0 : zh_S} {a0 : Nat} {a1 : Nat} {i2 : Int32} {z : zh_S} (hf : zf_Reader_readRealm n s0 a0 a1 i2 = some z) : zc_M l zn_Reader_readRealm zs_Reader_readRealm 3 73 h0 D dA tb [.ref (h0 + a0), .ref (h0 + a1), .int i2] s0 none z := by
  rw [zf_Reader_readRealm] at hf
  refine zc_of (cc := ze_Reader_readRealm) (maxL := 5) (ret := none) (lv := [(0, .ref (h0 + a0)), (1, .ref (h0 + a1)), (2, .int i2)]) (by decide) rfl (Nat.le_of_ble_eq_true rfl) rfl ?_
  intro p e s m args below meth c X hnm
  obtain ⟨hx, hb, hml, hown, htT, hrt, hlk, x00, hIn⟩ := id X
  have hK := hIn.2.1
  have hT := hIn.2.2.1
  have hNe := hIn.2.2.2
  have hR : zg_R { frames := 3, cells := zh_N z - zh_N s0, slots := zh_M z - zh_M s0, locals := 73 } (zh_N s0) (zh_M s0) z := ⟨by show zh_N z ≤ zh_N s0 + (zh_N z - zh_N s0); omega, by show zh_M z ≤ zh_M s0 + (zh_M z - zh_M s0); omega⟩
  have hF : 3 ≤ ({ frames := 3, cells := zh_N z - zh_N s0, slots := zh_M z - zh_M s0, locals := 73 } : Room).frames ∧ 73 ≤ ({ frames := 3, cells := zh_N z - zh_N s0, slots := zh_M z - zh_M s0, locals := 73 } : Room).locals := ⟨Nat.le_refl _, Nat.le_refl _⟩
  have hret := fun (pc : Nat) (lv : List (Nat × Value)) (hd : decode ze_Reader_readRealm pc = .ok (.return_, 1)) => zg_vret (R := { frames := 3, cells := zh_N z - zh_N s0, slots := zh_M z - zh_M s0, locals := 73 }) (l := l) (e := e) (below := below) (c0 := zh_N s0) (s0 := zh_M s0) (z := z) (lv := lv) X hd
  refine zg_1 (pc' := 1) (fun _ _ _ _ _ hl w => lv_aload_n hx hb zd_Reader_readRealm_0 rfl (lv_at hl 0 rfl) w) ?_
  obtain ⟨h_1, hf⟩ := zx_ck hf
  refine zg_get (pc' := 4) (ci := 2) hx hb htT zi_Reader hown hK h_1 rfl rfl 1 (by decide) (htT _ zt_497) (fun _ h9 => h9) rfl zd_Reader_readRealm_1 rfl ?_
  obtain ⟨i_2, e_i_2, hf⟩ := zx_l hf
  refine zg_ti e_i_2 ?_
  refine zg_s (pc' := 5) (lv' := [(3, .int i_2), (0, .ref (h0 + a0)), (1, .ref (h0 + a1)), (2, .int i2)]) (fun _ _ _ _ _ hl w => lv_istore_n hx hb zd_Reader_readRealm_4 rfl hl (by decide) rfl w) ?_
  refine zg_1 (pc' := 6) (fun _ _ _ _ _ hl w => lv_aload_n hx hb zd_Reader_readRealm_5 rfl (lv_at hl 1 rfl) w) ?_
  refine zg_1 (pc' := 8) (fun _ _ _ _ _ hl w => lv_bipush (v := (48 : Int32)) hx hb zd_Reader_readRealm_6 (by decide) w) ?_
  refine zg_1 (pc' := 9) (fun _ _ _ _ _ hl w => lv_iload_n hx hb zd_Reader_readRealm_8 rfl (lv_at hl 3 rfl) w) ?_
  obtain ⟨i_4, s_3, hq, hf⟩ := zx_b hf
  refine zg_call (pc' := 12) (y := s_3) (rv := (some (.int i_4))) (rest := []) X hR (zm_Reader_open hq) (fun H locs ls k j hsz hI hU hk => va_runV (As := [.int (48 : Int32), .int i2]) (rest := []) ⟨hx, hb, hml, hown, htT⟩ (zc_Reader_open l h0 D dA tb n hq) (cwV 2 htT (zw_gV zt_519 zt_521 zt_6 zt_75 zt_522) rfl rfl rfl (by decide +kernel) ⟨Nat.le_trans (Nat.le_of_ble_eq_true rfl) hF.1, Nat.le_trans (Nat.le_of_ble_eq_true rfl) hF.2⟩) ⟨(zg_pre hU).1, zg_recv hK hI h_1 rfl, (zg_pre hU).2⟩ rfl rfl hsz rfl (lv_room (Nat.le_of_ble_eq_true rfl)) zd_Reader_readRealm_9 hk) rfl ?_
  refine zg_s (pc' := 14) (lv' := [(4, .int i_4), (3, .int i_2), (0, .ref (h0 + a0)), (1, .ref (h0 + a1)), (2, .int i2)]) (fun _ _ _ _ _ hl w => lv_istore hx hb zd_Reader_readRealm_12 hl (by decide) rfl w) ?_
  refine zg_1 (pc' := 15) (fun _ _ _ _ _ hl w => lv_aload_n hx hb zd_Reader_readRealm_14 rfl (lv_at hl 2 rfl) w) ?_
  obtain ⟨h_5, hf⟩ := zx_ck hf
  refine zg_get (pc' := 18) (ci := 2) hx hb htT zi_Reader hown hK h_5 rfl rfl 1 (by decide) (htT _ zt_497) (fun _ h9 => h9) rfl zd_Reader_readRealm_15 rfl ?_
  refine zg_1 (pc' := 20) (fun _ _ _ _ _ hl w => lv_iload hx hb zd_Reader_readRealm_18 (lv_at hl 0 rfl) w) ?_
  refine zg_2 (pc1 := 30) (pc2 := 23) (Classical.em _).symm (fun _ _ _ _ _ w1 w2 => lv_icmp_ne hx hb zd_Reader_readRealm_20 (by decide) w1 w2) (fun hc => ?_) (fun hc => ?_)
  · rw [if_neg hc] at hf
    refine zg_v [2, 3, 0] rfl ?_
    exact zw_Reader_readRealm_30 X hR hF hret n s_3 a0 a1 i_4 hf
  · rw [if_pos hc] at hf
    refine zg_1 (pc' := 24) (fun _ _ _ _ _ hl w => lv_aload_n hx hb zd_Reader_readRealm_23 rfl (lv_at hl 2 rfl) w) ?_
    refine zg_1 (pc' := 25) (fun _ _ _ _ _ hl w => lv_iconst (v := (4 : Int32)) hx hb zd_Reader_readRealm_24 (by decide) w) ?_
    refine zg_1 (pc' := 26) (fun _ _ _ _ _ hl w => lv_iload_n hx hb zd_Reader_readRealm_25 rfl (lv_at hl 1 rfl) w) ?_
    obtain ⟨i_7, s_6, hq, hf⟩ := zx_b hf
    refine zg_call (pc' := 29) (y := s_6) (rv := (some (.int i_7))) (rest := []) X hR (zm_Reader_fail hq) (fun H locs ls k j hsz hI hU hk => va_runV (As := [.int (4 : Int32), .int i_2]) (rest := []) ⟨hx, hb, hml, hown, htT⟩ (zc_Reader_fail l h0 D dA tb n hq) (cwV 2 htT (zw_gV zt_523 zt_525 zt_7 zt_75 zt_526) rfl rfl rfl (by decide +kernel) ⟨Nat.le_trans (Nat.le_of_ble_eq_true rfl) hF.1, Nat.le_trans (Nat.le_of_ble_eq_true rfl) hF.2⟩) ⟨(zg_pre hU).1, zg_recv hK hI h_5 rfl, (zg_pre hU).2⟩ rfl rfl hsz rfl (lv_room (Nat.le_of_ble_eq_true rfl)) zd_Reader_readRealm_26 hk) rfl ?_
    refine zg_1 (pc' := 30) (fun _ _ _ _ _ hl w => lv_pop hx hb zd_Reader_readRealm_29 rfl w) ?_
    refine zg_v [2, 3, 0] rfl ?_
    exact zw_Reader_readRealm_30 X hR hF hret n s_6 a0 a1 i_4 hf
set_option maxHeartbeats 4000000 in
theorem zw_Reader_readUsage_35 {p : Program} {l : Launch} {e : Env} {R : Room} {s : State} {m : MethodId} {args : Array Value} {below : List Frame} {meth : Method} {c : Code} {Q : State → Prop} {h0 : Nat} {D : va_G} {dA : Nat → ClassId} {tb : Nat → Nat} {c0 k0 : Nat} {z : zh_S} (X : zg_X p s m args meth c ze_Reader_readUsage 6 zr_Reader none h0 D dA tb) (hR : zg_R R c0 k0 z) (hF : 3 ≤ R.frames ∧ 71 ≤ R.locals) (hret : ∀ (pc : Nat) (lv : List (Nat × Value)), decode ze_Reader_readUsage pc = .ok (.return_, 1) → zg_G p l e R s m args below meth c Q h0 D dA 6 c0 k0 z z pc lv []) (n : Nat) : ∀ (s0 : zh_S) (a1 : Nat) (j4 : Int64), zb_Reader_readUsage_35 n s0 a1 j4 = some z → zg_G p l e R s m args below meth c Q h0 D dA 6 c0 k0 z s0 35 [(1, .ref (h0 + a1)), (4, .long j4)] [] := by
  obtain ⟨hx, hb, hml, hown, htT, hrt, hlk, x00, hIn⟩ := id X
  have hK := hIn.2.1
  have hT := hIn.2.2.1
  have hNe := hIn.2.2.2
  intro s0 a1 j4 hf
  rw [zb_Reader_readUsage_35] at hf
  refine zg_1 (pc' := 36) (fun _ _ _ _ _ hl w => lv_aload_n hx hb zd_Reader_readUsage_35 rfl (lv_at hl 0 rfl) w) ?_
  refine zg_1 (pc' := 38) (fun _ _ _ _ _ hl w => lv_lload hx hb zd_Reader_readUsage_36 (lv_at hl 1 rfl) w) ?_
  obtain ⟨h_2, hf⟩ := zx_ck hf
  obtain ⟨s_1, e_s_1, hf⟩ := zx_l hf
  refine zg_putJ (pc' := 41) (ci := 0) (ty := .long) hx hb htT zi_Certificate zy_Certificate zo_Certificate zj_Certificate hown hK h_2 rfl rfl 11 (by decide) (htT _ zt_161) (fun _ h9 => h9) (Or.inl rfl) (by decide +kernel) rfl rfl rfl e_s_1 zd_Reader_readUsage_38 rfl ?_
  obtain rfl := zx_r1 hf
  exact hret _ _ zd_Reader_readUsage_41
set_option maxHeartbeats 4000000 in
theorem zw_Reader_readUsage_28 {p : Program} {l : Launch} {e : Env} {R : Room} {s : State} {m : MethodId} {args : Array Value} {below : List Frame} {meth : Method} {c : Code} {Q : State → Prop} {h0 : Nat} {D : va_G} {dA : Nat → ClassId} {tb : Nat → Nat} {c0 k0 : Nat} {z : zh_S} (X : zg_X p s m args meth c ze_Reader_readUsage 6 zr_Reader none h0 D dA tb) (hR : zg_R R c0 k0 z) (hF : 3 ≤ R.frames ∧ 71 ≤ R.locals) (hret : ∀ (pc : Nat) (lv : List (Nat × Value)), decode ze_Reader_readUsage pc = .ok (.return_, 1) → zg_G p l e R s m args below meth c Q h0 D dA 6 c0 k0 z z pc lv []) (n : Nat) : ∀ (s0 : zh_S) (a0 : Nat) (a1 : Nat) (i3 : Int32) (j4 : Int64), zb_Reader_readUsage_28 n s0 a0 a1 i3 j4 = some z → zg_G p l e R s m args below meth c Q h0 D dA 6 c0 k0 z s0 28 [(0, .ref (h0 + a0)), (1, .ref (h0 + a1)), (3, .int i3), (4, .long j4)] [] := by
  obtain ⟨hx, hb, hml, hown, htT, hrt, hlk, x00, hIn⟩ := id X
  have hK := hIn.2.1
  have hT := hIn.2.2.1
  have hNe := hIn.2.2.2
  intro s0 a0 a1 i3 j4 hf
  rw [zb_Reader_readUsage_28] at hf
  refine zg_1 (pc' := 29) (fun _ _ _ _ _ hl w => lv_aload_n hx hb zd_Reader_readUsage_28 rfl (lv_at hl 0 rfl) w) ?_
  refine zg_1 (pc' := 30) (fun _ _ _ _ _ hl w => lv_iconst (v := (4 : Int32)) hx hb zd_Reader_readUsage_29 (by decide) w) ?_
  refine zg_1 (pc' := 31) (fun _ _ _ _ _ hl w => lv_iload_n hx hb zd_Reader_readUsage_30 rfl (lv_at hl 2 rfl) w) ?_
  obtain ⟨h_2, hf⟩ := zx_ck hf
  obtain ⟨i_3, s_1, hq, hf⟩ := zx_b hf
  refine zg_call (pc' := 34) (y := s_1) (rv := (some (.int i_3))) (rest := []) X hR (zm_Reader_fail hq) (fun H locs ls k j hsz hI hU hk => va_runV (As := [.int (4 : Int32), .int i3]) (rest := []) ⟨hx, hb, hml, hown, htT⟩ (zc_Reader_fail l h0 D dA tb n hq) (cwV 2 htT (zw_gV zt_523 zt_525 zt_7 zt_75 zt_526) rfl rfl rfl (by decide +kernel) ⟨Nat.le_trans (Nat.le_of_ble_eq_true rfl) hF.1, Nat.le_trans (Nat.le_of_ble_eq_true rfl) hF.2⟩) ⟨(zg_pre hU).1, zg_recv hK hI h_2 rfl, (zg_pre hU).2⟩ rfl rfl hsz rfl (lv_room (Nat.le_of_ble_eq_true rfl)) zd_Reader_readUsage_31 hk) rfl ?_
  refine zg_1 (pc' := 35) (fun _ _ _ _ _ hl w => lv_pop hx hb zd_Reader_readUsage_34 rfl w) ?_
  refine zg_v [1, 3] rfl ?_
  exact zw_Reader_readUsage_35 X hR hF hret n s_1 a1 j4 hf
set_option maxHeartbeats 4000000 in
theorem zc_Reader_readUsage (l : Launch) (h0 : Nat) (D : va_G) (dA : Nat → ClassId) (tb : Nat → Nat) (n : Nat) {s0 : zh_S} {a0 : Nat} {a1 : Nat} {i2 : Int32} {z : zh_S} (hf : zf_Reader_readUsage n s0 a0 a1 i2 = some z) : zc_M l zn_Reader_readUsage zs_Reader_readUsage 3 71 h0 D dA tb [.ref (h0 + a0), .ref (h0 + a1), .int i2] s0 none z := by
  rw [zf_Reader_readUsage] at hf
  refine zc_of (cc := ze_Reader_readUsage) (maxL := 6) (ret := none) (lv := [(0, .ref (h0 + a0)), (1, .ref (h0 + a1)), (2, .int i2)]) (by decide) rfl (Nat.le_of_ble_eq_true rfl) rfl ?_
  intro p e s m args below meth c X hnm
  obtain ⟨hx, hb, hml, hown, htT, hrt, hlk, x00, hIn⟩ := id X
  have hK := hIn.2.1
  have hT := hIn.2.2.1
  have hNe := hIn.2.2.2
  have hR : zg_R { frames := 3, cells := zh_N z - zh_N s0, slots := zh_M z - zh_M s0, locals := 71 } (zh_N s0) (zh_M s0) z := ⟨by show zh_N z ≤ zh_N s0 + (zh_N z - zh_N s0); omega, by show zh_M z ≤ zh_M s0 + (zh_M z - zh_M s0); omega⟩
  have hF : 3 ≤ ({ frames := 3, cells := zh_N z - zh_N s0, slots := zh_M z - zh_M s0, locals := 71 } : Room).frames ∧ 71 ≤ ({ frames := 3, cells := zh_N z - zh_N s0, slots := zh_M z - zh_M s0, locals := 71 } : Room).locals := ⟨Nat.le_refl _, Nat.le_refl _⟩
  have hret := fun (pc : Nat) (lv : List (Nat × Value)) (hd : decode ze_Reader_readUsage pc = .ok (.return_, 1)) => zg_vret (R := { frames := 3, cells := zh_N z - zh_N s0, slots := zh_M z - zh_M s0, locals := 71 }) (l := l) (e := e) (below := below) (c0 := zh_N s0) (s0 := zh_M s0) (z := z) (lv := lv) X hd
  refine zg_1 (pc' := 1) (fun _ _ _ _ _ hl w => lv_aload_n hx hb zd_Reader_readUsage_0 rfl (lv_at hl 0 rfl) w) ?_
  obtain ⟨h_1, hf⟩ := zx_ck hf
  refine zg_get (pc' := 4) (ci := 2) hx hb htT zi_Reader hown hK h_1 rfl rfl 1 (by decide) (htT _ zt_497) (fun _ h9 => h9) rfl zd_Reader_readUsage_1 rfl ?_
  obtain ⟨i_2, e_i_2, hf⟩ := zx_l hf
  refine zg_ti e_i_2 ?_
  refine zg_s (pc' := 5) (lv' := [(3, .int i_2), (0, .ref (h0 + a0)), (1, .ref (h0 + a1)), (2, .int i2)]) (fun _ _ _ _ _ hl w => lv_istore_n hx hb zd_Reader_readUsage_4 rfl hl (by decide) rfl w) ?_
  refine zg_1 (pc' := 6) (fun _ _ _ _ _ hl w => lv_aload_n hx hb zd_Reader_readUsage_5 rfl (lv_at hl 1 rfl) w) ?_
  refine zg_1 (pc' := 7) (fun _ _ _ _ _ hl w => lv_iload_n hx hb zd_Reader_readUsage_6 rfl (lv_at hl 3 rfl) w) ?_
  obtain ⟨j_4, s_3, hq, hf⟩ := zx_b hf
  refine zg_call (pc' := 10) (y := s_3) (rv := (some (.long j_4))) (rest := []) X hR (zm_Reader_readInteger hq) (fun H locs ls k j hsz hI hU hk => va_runV (As := [.int i2]) (rest := []) ⟨hx, hb, hml, hown, htT⟩ (zc_Reader_readInteger l h0 D dA tb n hq) (cwV 1 htT (zw_gV zt_527 zt_529 zt_8 zt_75 zt_530) rfl rfl rfl (by decide +kernel) ⟨Nat.le_trans (Nat.le_of_ble_eq_true rfl) hF.1, Nat.le_trans (Nat.le_of_ble_eq_true rfl) hF.2⟩) ⟨(zg_pre hU).1, zg_recv hK hI h_1 rfl, (zg_pre hU).2⟩ rfl rfl hsz rfl (lv_room (Nat.le_of_ble_eq_true rfl)) zd_Reader_readUsage_7 hk) rfl ?_
  refine zg_s (pc' := 12) (lv' := [(4, .long j_4), (3, .int i_2), (0, .ref (h0 + a0)), (1, .ref (h0 + a1)), (2, .int i2)]) (fun _ _ _ _ _ hl w => lv_lstore hx hb zd_Reader_readUsage_10 hl (by decide) rfl w) ?_
  refine zg_1 (pc' := 14) (fun _ _ _ _ _ hl w => lv_lload hx hb zd_Reader_readUsage_12 (lv_at hl 0 rfl) w) ?_
  refine zg_1 (pc' := 15) (fun _ _ _ _ _ hl w => lv_lconst (v := (1 : Int64)) hx hb zd_Reader_readUsage_14 (by decide) w) ?_
  refine zg_1 (pc' := 16) (fun _ _ _ _ _ hl w => W.lcmp hx hb zd_Reader_readUsage_15 w) ?_
  refine zg_2 (pc1 := 28) (pc2 := 19) (Classical.em _) (fun _ _ _ _ _ w1 w2 => lv_if_lt hx hb zd_Reader_readUsage_16 (by decide) w1 w2) (fun hc => ?_) (fun hc => ?_)
  · rw [if_pos hc] at hf
    refine zg_v [2, 3, 1, 0] rfl ?_
    exact zw_Reader_readUsage_28 X hR hF hret n s_3 a0 a1 i_2 j_4 hf
  · rw [if_neg hc] at hf
    refine zg_1 (pc' := 21) (fun _ _ _ _ _ hl w => lv_lload hx hb zd_Reader_readUsage_19 (lv_at hl 0 rfl) w) ?_
    refine zg_1 (pc' := 24) (fun _ _ _ _ _ hl w => lv_ldc2 (v := (7 : Int64)) hx hb hown (htT _ zt_573) zd_Reader_readUsage_21 w) ?_
    refine zg_1 (pc' := 25) (fun _ _ _ _ _ hl w => W.lcmp hx hb zd_Reader_readUsage_24 w) ?_
    refine zg_2 (pc1 := 35) (pc2 := 28) (Classical.em _) (fun _ _ _ _ _ w1 w2 => lv_if_le hx hb zd_Reader_readUsage_25 (by decide) w1 w2) (fun hc => ?_) (fun hc => ?_)
    · rw [if_pos hc] at hf
      refine zg_v [3, 0] rfl ?_
      exact zw_Reader_readUsage_35 X hR hF hret n s_3 a1 j_4 hf
    · rw [if_neg hc] at hf
      refine zg_v [2, 3, 1, 0] rfl ?_
      exact zw_Reader_readUsage_28 X hR hF hret n s_3 a0 a1 i_2 j_4 hf
set_option maxHeartbeats 4000000 in
theorem zw_Reader_readBasic_47 {p : Program} {l : Launch} {e : Env} {R : Room} {s : State} {m : MethodId} {args : Array Value} {below : List Frame} {meth : Method} {c : Code} {Q : State → Prop} {h0 : Nat} {D : va_G} {dA : Nat → ClassId} {tb : Nat → Nat} {c0 k0 : Nat} {z : zh_S} (X : zg_X p s m args meth c ze_Reader_readBasic 4 zr_Reader none h0 D dA tb) (hR : zg_R R c0 k0 z) (hF : 3 ≤ R.frames ∧ 71 ≤ R.locals) (hret : ∀ (pc : Nat) (lv : List (Nat × Value)), decode ze_Reader_readBasic pc = .ok (.return_, 1) → zg_G p l e R s m args below meth c Q h0 D dA 4 c0 k0 z z pc lv []) (n : Nat) : ∀ (s0 : zh_S) (a0 : Nat) (i3 : Int32), zb_Reader_readBasic_47 n s0 a0 i3 = some z → zg_G p l e R s m args below meth c Q h0 D dA 4 c0 k0 z s0 47 [(0, .ref (h0 + a0)), (3, .int i3)] [] := by
  obtain ⟨hx, hb, hml, hown, htT, hrt, hlk, x00, hIn⟩ := id X
  have hK := hIn.2.1
  have hT := hIn.2.2.1
  have hNe := hIn.2.2.2
  intro s0 a0 i3 hf
  rw [zb_Reader_readBasic_47] at hf
  refine zg_1 (pc' := 48) (fun _ _ _ _ _ hl w => lv_aload_n hx hb zd_Reader_readBasic_47 rfl (lv_at hl 0 rfl) w) ?_
  refine zg_1 (pc' := 49) (fun _ _ _ _ _ hl w => lv_iload_n hx hb zd_Reader_readBasic_48 rfl (lv_at hl 1 rfl) w) ?_
  obtain ⟨h_2, hf⟩ := zx_ck hf
  obtain ⟨s_1, hq, hf⟩ := zx_p hf
  refine zg_call (pc' := 52) (y := s_1) (rv := none) (rest := []) X hR (zm_Reader_close hq) (fun H locs ls k j hsz hI hU hk => va_runV (As := [.int i3]) (rest := []) ⟨hx, hb, hml, hown, htT⟩ (zc_Reader_close l h0 D dA tb n hq) (cwV 1 htT (zw_gV zt_564 zt_566 zt_16 zt_75 zt_567) rfl rfl rfl (by decide +kernel) ⟨Nat.le_trans (Nat.le_of_ble_eq_true rfl) hF.1, Nat.le_trans (Nat.le_of_ble_eq_true rfl) hF.2⟩) ⟨(zg_pre hU).1, zg_recv hK hI h_2 rfl, (zg_pre hU).2⟩ rfl rfl hsz rfl (lv_room (Nat.le_of_ble_eq_true rfl)) zd_Reader_readBasic_49 hk) rfl ?_
  obtain rfl := zx_r1 hf
  exact hret _ _ zd_Reader_readBasic_52
set_option maxHeartbeats 4000000 in
theorem zc_Reader_readBasic (l : Launch) (h0 : Nat) (D : va_G) (dA : Nat → ClassId) (tb : Nat → Nat) (n : Nat) {s0 : zh_S} {a0 : Nat} {a1 : Nat} {i2 : Int32} {z : zh_S} (hf : zf_Reader_readBasic n s0 a0 a1 i2 = some z) : zc_M l zn_Reader_readBasic zs_Reader_readBasic 3 71 h0 D dA tb [.ref (h0 + a0), .ref (h0 + a1), .int i2] s0 none z := by
  rw [zf_Reader_readBasic] at hf
  refine zc_of (cc := ze_Reader_readBasic) (maxL := 4) (ret := none) (lv := [(0, .ref (h0 + a0)), (1, .ref (h0 + a1)), (2, .int i2)]) (by decide) rfl (Nat.le_of_ble_eq_true rfl) rfl ?_
  intro p e s m args below meth c X hnm
  obtain ⟨hx, hb, hml, hown, htT, hrt, hlk, x00, hIn⟩ := id X
  have hK := hIn.2.1
  have hT := hIn.2.2.1
  have hNe := hIn.2.2.2
  have hR : zg_R { frames := 3, cells := zh_N z - zh_N s0, slots := zh_M z - zh_M s0, locals := 71 } (zh_N s0) (zh_M s0) z := ⟨by show zh_N z ≤ zh_N s0 + (zh_N z - zh_N s0); omega, by show zh_M z ≤ zh_M s0 + (zh_M z - zh_M s0); omega⟩
  have hF : 3 ≤ ({ frames := 3, cells := zh_N z - zh_N s0, slots := zh_M z - zh_M s0, locals := 71 } : Room).frames ∧ 71 ≤ ({ frames := 3, cells := zh_N z - zh_N s0, slots := zh_M z - zh_M s0, locals := 71 } : Room).locals := ⟨Nat.le_refl _, Nat.le_refl _⟩
  have hret := fun (pc : Nat) (lv : List (Nat × Value)) (hd : decode ze_Reader_readBasic pc = .ok (.return_, 1)) => zg_vret (R := { frames := 3, cells := zh_N z - zh_N s0, slots := zh_M z - zh_M s0, locals := 71 }) (l := l) (e := e) (below := below) (c0 := zh_N s0) (s0 := zh_M s0) (z := z) (lv := lv) X hd
  refine zg_1 (pc' := 1) (fun _ _ _ _ _ hl w => lv_aload_n hx hb zd_Reader_readBasic_0 rfl (lv_at hl 0 rfl) w) ?_
  refine zg_1 (pc' := 3) (fun _ _ _ _ _ hl w => lv_bipush (v := (48 : Int32)) hx hb zd_Reader_readBasic_1 (by decide) w) ?_
  refine zg_1 (pc' := 4) (fun _ _ _ _ _ hl w => lv_iload_n hx hb zd_Reader_readBasic_3 rfl (lv_at hl 2 rfl) w) ?_
  obtain ⟨h_2, hf⟩ := zx_ck hf
  obtain ⟨i_3, s_1, hq, hf⟩ := zx_b hf
  refine zg_call (pc' := 7) (y := s_1) (rv := (some (.int i_3))) (rest := []) X hR (zm_Reader_open hq) (fun H locs ls k j hsz hI hU hk => va_runV (As := [.int (48 : Int32), .int i2]) (rest := []) ⟨hx, hb, hml, hown, htT⟩ (zc_Reader_open l h0 D dA tb n hq) (cwV 2 htT (zw_gV zt_519 zt_521 zt_6 zt_75 zt_522) rfl rfl rfl (by decide +kernel) ⟨Nat.le_trans (Nat.le_of_ble_eq_true rfl) hF.1, Nat.le_trans (Nat.le_of_ble_eq_true rfl) hF.2⟩) ⟨(zg_pre hU).1, zg_recv hK hI h_2 rfl, (zg_pre hU).2⟩ rfl rfl hsz rfl (lv_room (Nat.le_of_ble_eq_true rfl)) zd_Reader_readBasic_4 hk) rfl ?_
  refine zg_s (pc' := 8) (lv' := [(3, .int i_3), (0, .ref (h0 + a0)), (1, .ref (h0 + a1)), (2, .int i2)]) (fun _ _ _ _ _ hl w => lv_istore_n hx hb zd_Reader_readBasic_7 rfl hl (by decide) rfl w) ?_
  refine zg_1 (pc' := 9) (fun _ _ _ _ _ hl w => lv_aload_n hx hb zd_Reader_readBasic_8 rfl (lv_at hl 2 rfl) w) ?_
  refine zg_1 (pc' := 10) (fun _ _ _ _ _ hl w => lv_iconst (v := (1 : Int32)) hx hb zd_Reader_readBasic_9 (by decide) w) ?_
  obtain ⟨h_5, hf⟩ := zx_ck hf
  obtain ⟨s_4, e_s_4, hf⟩ := zx_l hf
  refine zg_putI (pc' := 13) (ci := 0) (ty := .boolean) hx hb htT zi_Certificate zy_Certificate zo_Certificate zj_Certificate hown hK h_5 rfl rfl 15 (by decide) (htT _ zt_171) (fun _ h9 => h9) (Or.inl rfl) (by decide +kernel) rfl rfl rfl e_s_4 zd_Reader_readBasic_10 rfl ?_
  refine zg_1 (pc' := 14) (fun _ _ _ _ _ hl w => lv_aload_n hx hb zd_Reader_readBasic_13 rfl (lv_at hl 2 rfl) w) ?_
  refine zg_1 (pc' := 15) (fun _ _ _ _ _ hl w => lv_aload_n hx hb zd_Reader_readBasic_14 rfl (lv_at hl 1 rfl) w) ?_
  refine zg_1 (pc' := 16) (fun _ _ _ _ _ hl w => lv_iload_n hx hb zd_Reader_readBasic_15 rfl (lv_at hl 0 rfl) w) ?_
  obtain ⟨h_7, hf⟩ := zx_ck hf
  obtain ⟨i_8, s_6, hq, hf⟩ := zx_b hf
  refine zg_call (pc' := 19) (y := s_6) (rv := (some (.int i_8))) (rest := [.ref (h0 + a1)]) X hR (zm_Reader_readFlag hq) (fun H locs ls k j hsz hI hU hk => va_runV (As := [.int i_3]) (rest := [.ref (h0 + a1)]) ⟨hx, hb, hml, hown, htT⟩ (zc_Reader_readFlag l h0 D dA tb n hq) (cwV 1 htT (zw_gV zt_556 zt_558 zt_14 zt_75 zt_559) rfl rfl rfl (by decide +kernel) ⟨Nat.le_trans (Nat.le_of_ble_eq_true rfl) hF.1, Nat.le_trans (Nat.le_of_ble_eq_true rfl) hF.2⟩) ⟨(zg_pre hU).1, zg_recv hK hI h_7 rfl, (zg_pre hU).2⟩ rfl rfl hsz rfl (lv_room (Nat.le_of_ble_eq_true rfl)) zd_Reader_readBasic_16 hk) rfl ?_
  obtain ⟨h_10, hf⟩ := zx_ck hf
  obtain ⟨h_17, hf⟩ := zx_ck hf
  obtain ⟨s_9, e_s_9, hf⟩ := zx_l hf
  refine zg_putI (pc' := 22) (ci := 0) (ty := .boolean) hx hb htT zi_Certificate zy_Certificate zo_Certificate zj_Certificate hown hK h_10 rfl rfl 16 (by decide) (htT _ zt_173) (fun _ h9 => h9) (Or.inl rfl) (by decide +kernel) (zx_nz h_17) (zx_fz h_17) rfl e_s_9 zd_Reader_readBasic_19 rfl ?_
  refine zg_1 (pc' := 23) (fun _ _ _ _ _ hl w => lv_aload_n hx hb zd_Reader_readBasic_22 rfl (lv_at hl 2 rfl) w) ?_
  refine zg_get (pc' := 26) (ci := 0) hx hb htT zi_Certificate hown hK (zx_oI e_s_9 h_10) rfl rfl 16 (by decide) (htT _ zt_173) (fun _ h9 => h9) rfl zd_Reader_readBasic_23 rfl ?_
  refine zg_2 (pc1 := 47) (pc2 := 29) (Classical.em _) (fun _ _ _ _ _ w1 w2 => lv_if_eq hx hb zd_Reader_readBasic_26 (by decide) w1 w2) (fun hc => ?_) (fun hc => ?_)
  · rw [if_pos hc] at hf
    refine zg_v [1, 0] rfl ?_
    exact zw_Reader_readBasic_47 X hR hF hret n s_9 a0 i_3 hf
  · rw [if_neg hc] at hf
    refine zg_1 (pc' := 30) (fun _ _ _ _ _ hl w => lv_aload_n hx hb zd_Reader_readBasic_29 rfl (lv_at hl 1 rfl) w) ?_
    refine zg_1 (pc' := 31) (fun _ _ _ _ _ hl w => lv_iconst (v := (2 : Int32)) hx hb zd_Reader_readBasic_30 (by decide) w) ?_
    refine zg_1 (pc' := 32) (fun _ _ _ _ _ hl w => lv_iload_n hx hb zd_Reader_readBasic_31 rfl (lv_at hl 0 rfl) w) ?_
    obtain ⟨h_11, hf⟩ := zx_ck hf
    obtain ⟨i_12, hq, hf⟩ := zx_p hf
    refine zg_call (pc' := 35) (y := s_9) (rv := (some (.int i_12))) (rest := []) X hR ⟨Nat.le_refl _, Nat.le_refl _⟩ (fun H locs ls k j hsz hI hU hk => va_runV (As := [.int (2 : Int32), .int i_3]) (rest := []) ⟨hx, hb, hml, hown, htT⟩ (zc_Reader_isNext l h0 D dA tb n hq) (cwV 2 htT (zw_gV zt_543 zt_545 zt_11 zt_75 zt_546) rfl rfl rfl (by decide +kernel) ⟨Nat.le_trans (Nat.le_of_ble_eq_true rfl) hF.1, Nat.le_trans (Nat.le_of_ble_eq_true rfl) hF.2⟩) ⟨(zg_pre hU).1, zg_recv hK hI h_11 rfl, (zg_pre hU).2⟩ rfl rfl hsz rfl (lv_room (Nat.le_of_ble_eq_true rfl)) zd_Reader_readBasic_32 hk) rfl ?_
    refine zg_2 (pc1 := 47) (pc2 := 38) (Classical.em _) (fun _ _ _ _ _ w1 w2 => lv_if_eq hx hb zd_Reader_readBasic_35 (by decide) w1 w2) (fun hc => ?_) (fun hc => ?_)
    · rw [if_pos hc] at hf
      refine zg_v [1, 0] rfl ?_
      exact zw_Reader_readBasic_47 X hR hF hret n s_9 a0 i_3 hf
    · rw [if_neg hc] at hf
      refine zg_1 (pc' := 39) (fun _ _ _ _ _ hl w => lv_aload_n hx hb zd_Reader_readBasic_38 rfl (lv_at hl 2 rfl) w) ?_
      refine zg_1 (pc' := 40) (fun _ _ _ _ _ hl w => lv_aload_n hx hb zd_Reader_readBasic_39 rfl (lv_at hl 1 rfl) w) ?_
      refine zg_1 (pc' := 41) (fun _ _ _ _ _ hl w => lv_iload_n hx hb zd_Reader_readBasic_40 rfl (lv_at hl 0 rfl) w) ?_
      obtain ⟨j_14, s_13, hq, hf⟩ := zx_b hf
      refine zg_call (pc' := 44) (y := s_13) (rv := (some (.long j_14))) (rest := [.ref (h0 + a1)]) X hR (zm_Reader_readInteger hq) (fun H locs ls k j hsz hI hU hk => va_runV (As := [.int i_3]) (rest := [.ref (h0 + a1)]) ⟨hx, hb, hml, hown, htT⟩ (zc_Reader_readInteger l h0 D dA tb n hq) (cwV 1 htT (zw_gV zt_527 zt_529 zt_8 zt_75 zt_530) rfl rfl rfl (by decide +kernel) ⟨Nat.le_trans (Nat.le_of_ble_eq_true rfl) hF.1, Nat.le_trans (Nat.le_of_ble_eq_true rfl) hF.2⟩) ⟨(zg_pre hU).1, zg_recv hK hI h_11 rfl, (zg_pre hU).2⟩ rfl rfl hsz rfl (lv_room (Nat.le_of_ble_eq_true rfl)) zd_Reader_readBasic_41 hk) rfl ?_
      obtain ⟨h_16, hf⟩ := zx_ck hf
      obtain ⟨s_15, e_s_15, hf⟩ := zx_l hf
      refine zg_putJ (pc' := 47) (ci := 0) (ty := .long) hx hb htT zi_Certificate zy_Certificate zo_Certificate zj_Certificate hown hK h_16 rfl rfl 10 (by decide) (htT _ zt_158) (fun _ h9 => h9) (Or.inl rfl) (by decide +kernel) rfl rfl rfl e_s_15 zd_Reader_readBasic_44 rfl ?_
      refine zg_v [1, 0] rfl ?_
      exact zw_Reader_readBasic_47 X hR hF hret n s_15 a0 i_3 hf
set_option maxHeartbeats 4000000 in
theorem zw_Reader_readExtension_129 {p : Program} {l : Launch} {e : Env} {R : Room} {s : State} {m : MethodId} {args : Array Value} {below : List Frame} {meth : Method} {c : Code} {Q : State → Prop} {h0 : Nat} {D : va_G} {dA : Nat → ClassId} {tb : Nat → Nat} {c0 k0 : Nat} {z : zh_S} {r : Int64} (X : zg_X p s m args meth c ze_Reader_readExtension 10 zr_Reader (some .long) h0 D dA tb) (hR : zg_R R c0 k0 z) (hF : 4 ≤ R.frames ∧ 97 ≤ R.locals) (hret : ∀ (pc : Nat) (lv : List (Nat × Value)), decode ze_Reader_readExtension pc = .ok (.lreturn, 1) → zg_G p l e R s m args below meth c Q h0 D dA 10 c0 k0 z z pc lv [.long r]) (n : Nat) : ∀ (s0 : zh_S) (a0 : Nat) (a1 : Nat) (i5 : Int32) (j7 : Int64), zb_Reader_readExtension_129 n s0 a0 a1 i5 j7 = some (r, z) → zg_G p l e R s m args below meth c Q h0 D dA 10 c0 k0 z s0 129 [(0, .ref (h0 + a0)), (1, .ref (h0 + a1)), (5, .int i5), (7, .long j7)] [] := by
  obtain ⟨hx, hb, hml, hown, htT, hrt, hlk, x00, hIn⟩ := id X
  have hK := hIn.2.1
  have hT := hIn.2.2.1
  have hNe := hIn.2.2.2
  intro s0 a0 a1 i5 j7 hf
  rw [zb_Reader_readExtension_129] at hf
  refine zg_1 (pc' := 130) (fun _ _ _ _ _ hl w => lv_aload_n hx hb zd_Reader_readExtension_129 rfl (lv_at hl 1 rfl) w) ?_
  refine zg_1 (pc' := 131) (fun _ _ _ _ _ hl w => lv_dup hx hb zd_Reader_readExtension_130 rfl w) ?_
  obtain ⟨h_1, hf⟩ := zx_ck hf
  refine zg_get (pc' := 134) (ci := 0) hx hb htT zi_Certificate hown hK h_1 rfl rfl 14 (by decide) (htT _ zt_169) (fun _ h9 => h9) rfl zd_Reader_readExtension_131 rfl ?_
  refine zg_1 (pc' := 135) (fun _ _ _ _ _ hl w => lv_iconst (v := (1 : Int32)) hx hb zd_Reader_readExtension_134 (by decide) w) ?_
  refine zg_1 (pc' := 136) (fun _ _ _ _ _ hl w => lv_iadd hx hb zd_Reader_readExtension_135 w) ?_
  obtain ⟨s_2, e_s_2, hf⟩ := zx_l hf
  refine zg_putI (pc' := 139) (ci := 0) (ty := .int) hx hb htT zi_Certificate zy_Certificate zo_Certificate zj_Certificate hown hK h_1 rfl rfl 14 (by decide) (htT _ zt_169) (fun _ h9 => h9) (Or.inl rfl) (by decide +kernel) rfl rfl rfl e_s_2 zd_Reader_readExtension_136 rfl ?_
  refine zg_1 (pc' := 140) (fun _ _ _ _ _ hl w => lv_aload_n hx hb zd_Reader_readExtension_139 rfl (lv_at hl 0 rfl) w) ?_
  refine zg_1 (pc' := 142) (fun _ _ _ _ _ hl w => lv_iload hx hb zd_Reader_readExtension_140 (lv_at hl 2 rfl) w) ?_
  obtain ⟨h_4, hf⟩ := zx_ck hf
  obtain ⟨s_3, hq, hf⟩ := zx_p hf
  refine zg_call (pc' := 145) (y := s_3) (rv := none) (rest := []) X hR (zm_Reader_close hq) (fun H locs ls k j hsz hI hU hk => va_runV (As := [.int i5]) (rest := []) ⟨hx, hb, hml, hown, htT⟩ (zc_Reader_close l h0 D dA tb n hq) (cwV 1 htT (zw_gV zt_564 zt_566 zt_16 zt_75 zt_567) rfl rfl rfl (by decide +kernel) ⟨Nat.le_trans (Nat.le_of_ble_eq_true rfl) hF.1, Nat.le_trans (Nat.le_of_ble_eq_true rfl) hF.2⟩) ⟨(zg_pre hU).1, zg_recv hK hI h_4 rfl, (zg_pre hU).2⟩ rfl rfl hsz rfl (lv_room (Nat.le_of_ble_eq_true rfl)) zd_Reader_readExtension_142 hk) rfl ?_
  refine zg_1 (pc' := 147) (fun _ _ _ _ _ hl w => lv_lload hx hb zd_Reader_readExtension_145 (lv_at hl 3 rfl) w) ?_
  obtain ⟨rfl, rfl⟩ := zx_r2 hf
  exact hret _ _ zd_Reader_readExtension_147
set_option maxHeartbeats 4000000 in
theorem zw_Reader_readExtension_126 {p : Program} {l : Launch} {e : Env} {R : Room} {s : State} {m : MethodId} {args : Array Value} {below : List Frame} {meth : Method} {c : Code} {Q : State → Prop} {h0 : Nat} {D : va_G} {dA : Nat → ClassId} {tb : Nat → Nat} {c0 k0 : Nat} {z : zh_S} {r : Int64} (X : zg_X p s m args meth c ze_Reader_readExtension 10 zr_Reader (some .long) h0 D dA tb) (hR : zg_R R c0 k0 z) (hF : 4 ≤ R.frames ∧ 97 ≤ R.locals) (hret : ∀ (pc : Nat) (lv : List (Nat × Value)), decode ze_Reader_readExtension pc = .ok (.lreturn, 1) → zg_G p l e R s m args below meth c Q h0 D dA 10 c0 k0 z z pc lv [.long r]) (n : Nat) : ∀ (s0 : zh_S) (a0 : Nat) (a1 : Nat) (i5 : Int32) (j7 : Int64) (at0 : Nat) (it1 : Int32), zb_Reader_readExtension_126 n s0 a0 a1 i5 j7 at0 it1 = some (r, z) → zg_G p l e R s m args below meth c Q h0 D dA 10 c0 k0 z s0 126 [(0, .ref (h0 + a0)), (1, .ref (h0 + a1)), (5, .int i5), (7, .long j7)] [.int it1, .ref (h0 + at0)] := by
  obtain ⟨hx, hb, hml, hown, htT, hrt, hlk, x00, hIn⟩ := id X
  have hK := hIn.2.1
  have hT := hIn.2.2.1
  have hNe := hIn.2.2.2
  intro s0 a0 a1 i5 j7 at0 it1 hf
  rw [zb_Reader_readExtension_126] at hf
  obtain ⟨h_2, hf⟩ := zx_ck hf
  obtain ⟨h_3, hf⟩ := zx_ck hf
  obtain ⟨s_1, e_s_1, hf⟩ := zx_l hf
  refine zg_putI (pc' := 129) (ci := 0) (ty := .boolean) hx hb htT zi_Certificate zy_Certificate zo_Certificate zj_Certificate hown hK h_2 rfl rfl 17 (by decide) (htT _ zt_176) (fun _ h9 => h9) (Or.inl rfl) (by decide +kernel) (zx_nz h_3) (zx_fz h_3) rfl e_s_1 zd_Reader_readExtension_126 rfl ?_
  exact zw_Reader_readExtension_129 X hR hF hret n s_1 a0 a1 i5 j7 hf
set_option maxHeartbeats 4000000 in
theorem zw_Reader_readExtension_121 {p : Program} {l : Launch} {e : Env} {R : Room} {s : State} {m : MethodId} {args : Array Value} {below : List Frame} {meth : Method} {c : Code} {Q : State → Prop} {h0 : Nat} {D : va_G} {dA : Nat → ClassId} {tb : Nat → Nat} {c0 k0 : Nat} {z : zh_S} {r : Int64} (X : zg_X p s m args meth c ze_Reader_readExtension 10 zr_Reader (some .long) h0 D dA tb) (hR : zg_R R c0 k0 z) (hF : 4 ≤ R.frames ∧ 97 ≤ R.locals) (hret : ∀ (pc : Nat) (lv : List (Nat × Value)), decode ze_Reader_readExtension pc = .ok (.lreturn, 1) → zg_G p l e R s m args below meth c Q h0 D dA 10 c0 k0 z z pc lv [.long r]) (n : Nat) : ∀ (s0 : zh_S) (a0 : Nat) (a1 : Nat) (i5 : Int32) (j7 : Int64) (at0 : Nat), zb_Reader_readExtension_121 n s0 a0 a1 i5 j7 at0 = some (r, z) → zg_G p l e R s m args below meth c Q h0 D dA 10 c0 k0 z s0 121 [(0, .ref (h0 + a0)), (1, .ref (h0 + a1)), (5, .int i5), (7, .long j7)] [.ref (h0 + at0)] := by
  obtain ⟨hx, hb, hml, hown, htT, hrt, hlk, x00, hIn⟩ := id X
  have hK := hIn.2.1
  have hT := hIn.2.2.1
  have hNe := hIn.2.2.2
  intro s0 a0 a1 i5 j7 at0 hf
  rw [zb_Reader_readExtension_121] at hf
  refine zg_1 (pc' := 122) (fun _ _ _ _ _ hl w => lv_iconst (v := (1 : Int32)) hx hb zd_Reader_readExtension_121 (by decide) w) ?_
  refine zg_1 (pc' := 126) (fun _ _ _ _ _ hl w => lv_goto hx hb zd_Reader_readExtension_122 (by decide) w) ?_
  exact zw_Reader_readExtension_126 X hR hF hret n s0 a0 a1 i5 j7 at0 (1 : Int32) hf
set_option maxHeartbeats 4000000 in
theorem zw_Reader_readExtension_39 {p : Program} {l : Launch} {e : Env} {R : Room} {s : State} {m : MethodId} {args : Array Value} {below : List Frame} {meth : Method} {c : Code} {Q : State → Prop} {h0 : Nat} {D : va_G} {dA : Nat → ClassId} {tb : Nat → Nat} {c0 k0 : Nat} {z : zh_S} {r : Int64} (X : zg_X p s m args meth c ze_Reader_readExtension 10 zr_Reader (some .long) h0 D dA tb) (hR : zg_R R c0 k0 z) (hF : 4 ≤ R.frames ∧ 97 ≤ R.locals) (hret : ∀ (pc : Nat) (lv : List (Nat × Value)), decode ze_Reader_readExtension pc = .ok (.lreturn, 1) → zg_G p l e R s m args below meth c Q h0 D dA 10 c0 k0 z z pc lv [.long r]) (n : Nat) : ∀ (s0 : zh_S) (a0 : Nat) (a1 : Nat) (i5 : Int32) (j7 : Int64), zb_Reader_readExtension_39 n s0 a0 a1 i5 j7 = some (r, z) → zg_G p l e R s m args below meth c Q h0 D dA 10 c0 k0 z s0 39 [(0, .ref (h0 + a0)), (1, .ref (h0 + a1)), (5, .int i5), (7, .long j7)] [] := by
  obtain ⟨hx, hb, hml, hown, htT, hrt, hlk, x00, hIn⟩ := id X
  have hK := hIn.2.1
  have hT := hIn.2.2.1
  have hNe := hIn.2.2.2
  intro s0 a0 a1 i5 j7 hf
  rw [zb_Reader_readExtension_39] at hf
  refine zg_1 (pc' := 40) (fun _ _ _ _ _ hl w => lv_aload_n hx hb zd_Reader_readExtension_39 rfl (lv_at hl 0 rfl) w) ?_
  refine zg_1 (pc' := 42) (fun _ _ _ _ _ hl w => lv_iload hx hb zd_Reader_readExtension_40 (lv_at hl 2 rfl) w) ?_
  obtain ⟨h_2, hf⟩ := zx_ck hf
  obtain ⟨i_3, s_1, hq, hf⟩ := zx_b hf
  refine zg_call (pc' := 45) (y := s_1) (rv := (some (.int i_3))) (rest := []) X hR (zm_Reader_readFlag hq) (fun H locs ls k j hsz hI hU hk => va_runV (As := [.int i5]) (rest := []) ⟨hx, hb, hml, hown, htT⟩ (zc_Reader_readFlag l h0 D dA tb n hq) (cwV 1 htT (zw_gV zt_556 zt_558 zt_14 zt_75 zt_559) rfl rfl rfl (by decide +kernel) ⟨Nat.le_trans (Nat.le_of_ble_eq_true rfl) hF.1, Nat.le_trans (Nat.le_of_ble_eq_true rfl) hF.2⟩) ⟨(zg_pre hU).1, zg_recv hK hI h_2 rfl, (zg_pre hU).2⟩ rfl rfl hsz rfl (lv_room (Nat.le_of_ble_eq_true rfl)) zd_Reader_readExtension_42 hk) rfl ?_
  refine zg_s (pc' := 47) (lv' := [(9, .int i_3), (0, .ref (h0 + a0)), (1, .ref (h0 + a1)), (5, .int i5), (7, .long j7)]) (fun _ _ _ _ _ hl w => lv_istore hx hb zd_Reader_readExtension_45 hl (by decide) rfl w) ?_
  refine zg_1 (pc' := 49) (fun _ _ _ _ _ hl w => lv_lload hx hb zd_Reader_readExtension_47 (lv_at hl 4 rfl) w) ?_
  refine zg_1 (pc' := 50) (fun _ _ _ _ _ hl w => lv_lconst (v := (1 : Int64)) hx hb zd_Reader_readExtension_49 (by decide) w) ?_
  refine zg_1 (pc' := 51) (fun _ _ _ _ _ hl w => W.lcmp hx hb zd_Reader_readExtension_50 w) ?_
  refine zg_2 (pc1 := 64) (pc2 := 54) (Classical.em _).symm (fun _ _ _ _ _ w1 w2 => lv_if_ne hx hb zd_Reader_readExtension_51 (by decide) w1 w2) (fun hc => ?_) (fun hc => ?_)
  · rw [if_neg hc] at hf
    refine zg_1 (pc' := 66) (fun _ _ _ _ _ hl w => lv_lload hx hb zd_Reader_readExtension_64 (lv_at hl 4 rfl) w) ?_
    refine zg_1 (pc' := 69) (fun _ _ _ _ _ hl w => lv_ldc2 (v := (2 : Int64)) hx hb hown (htT _ zt_568) zd_Reader_readExtension_66 w) ?_
    refine zg_1 (pc' := 70) (fun _ _ _ _ _ hl w => W.lcmp hx hb zd_Reader_readExtension_69 w) ?_
    refine zg_2 (pc1 := 83) (pc2 := 73) (Classical.em _).symm (fun _ _ _ _ _ w1 w2 => lv_if_ne hx hb zd_Reader_readExtension_70 (by decide) w1 w2) (fun hc => ?_) (fun hc => ?_)
    · rw [if_neg hc] at hf
      refine zg_1 (pc' := 85) (fun _ _ _ _ _ hl w => lv_lload hx hb zd_Reader_readExtension_83 (lv_at hl 4 rfl) w) ?_
      refine zg_1 (pc' := 88) (fun _ _ _ _ _ hl w => lv_ldc2 (v := (3 : Int64)) hx hb hown (htT _ zt_574) zd_Reader_readExtension_85 w) ?_
      refine zg_1 (pc' := 89) (fun _ _ _ _ _ hl w => W.lcmp hx hb zd_Reader_readExtension_88 w) ?_
      refine zg_2 (pc1 := 102) (pc2 := 92) (Classical.em _).symm (fun _ _ _ _ _ w1 w2 => lv_if_ne hx hb zd_Reader_readExtension_89 (by decide) w1 w2) (fun hc => ?_) (fun hc => ?_)
      · rw [if_neg hc] at hf
        refine zg_1 (pc' := 103) (fun _ _ _ _ _ hl w => lv_aload_n hx hb zd_Reader_readExtension_102 rfl (lv_at hl 1 rfl) w) ?_
        refine zg_1 (pc' := 105) (fun _ _ _ _ _ hl w => lv_iload hx hb zd_Reader_readExtension_103 (lv_at hl 3 rfl) w) ?_
        obtain ⟨h_5, hf⟩ := zx_ck hf
        obtain ⟨s_4, hq, hf⟩ := zx_p hf
        refine zg_call (pc' := 108) (y := s_4) (rv := none) (rest := []) X hR (zm_Reader_skipOpaque hq) (fun H locs ls k j hsz hI hU hk => va_runV (As := [.int i5]) (rest := []) ⟨hx, hb, hml, hown, htT⟩ (zc_Reader_skipOpaque l h0 D dA tb n hq) (cwV 1 htT (zw_gV zt_579 zt_581 zt_19 zt_75 zt_582) rfl rfl rfl (by decide +kernel) ⟨Nat.le_trans (Nat.le_of_ble_eq_true rfl) hF.1, Nat.le_trans (Nat.le_of_ble_eq_true rfl) hF.2⟩) ⟨(zg_pre hU).1, zg_recv hK hI h_5 rfl, (zg_pre hU).2⟩ rfl rfl hsz rfl (lv_room (Nat.le_of_ble_eq_true rfl)) zd_Reader_readExtension_105 hk) rfl ?_
        refine zg_1 (pc' := 109) (fun _ _ _ _ _ hl w => lv_aload_n hx hb zd_Reader_readExtension_108 rfl (lv_at hl 2 rfl) w) ?_
        refine zg_1 (pc' := 110) (fun _ _ _ _ _ hl w => lv_aload_n hx hb zd_Reader_readExtension_109 rfl (lv_at hl 2 rfl) w) ?_
        obtain ⟨h_6, hf⟩ := zx_ck hf
        refine zg_get (pc' := 113) (ci := 0) hx hb htT zi_Certificate hown hK h_6 rfl rfl 17 (by decide) (htT _ zt_176) (fun _ h9 => h9) rfl zd_Reader_readExtension_110 rfl ?_
        refine zg_2 (pc1 := 121) (pc2 := 116) (Classical.em _).symm (fun _ _ _ _ _ w1 w2 => lv_if_ne hx hb zd_Reader_readExtension_113 (by decide) w1 w2) (fun hc => ?_) (fun hc => ?_)
        · rw [if_neg hc] at hf
          refine zg_v [1, 2, 3, 4] rfl ?_
          exact zw_Reader_readExtension_121 X hR hF hret n s_4 a0 a1 i5 j7 a1 hf
        · rw [if_pos hc] at hf
          refine zg_1 (pc' := 118) (fun _ _ _ _ _ hl w => lv_iload hx hb zd_Reader_readExtension_116 (lv_at hl 0 rfl) w) ?_
          refine zg_2 (pc1 := 125) (pc2 := 121) (Classical.em _) (fun _ _ _ _ _ w1 w2 => lv_if_eq hx hb zd_Reader_readExtension_118 (by decide) w1 w2) (fun hc => ?_) (fun hc => ?_)
          · rw [if_pos hc] at hf
            refine zg_1 (pc' := 126) (fun _ _ _ _ _ hl w => lv_iconst (v := (0 : Int32)) hx hb zd_Reader_readExtension_125 (by decide) w) ?_
            refine zg_v [1, 2, 3, 4] rfl ?_
            exact zw_Reader_readExtension_126 X hR hF hret n s_4 a0 a1 i5 j7 a1 (0 : Int32) hf
          · rw [if_neg hc] at hf
            refine zg_v [1, 2, 3, 4] rfl ?_
            exact zw_Reader_readExtension_121 X hR hF hret n s_4 a0 a1 i5 j7 a1 hf
      · rw [if_pos hc] at hf
        refine zg_1 (pc' := 93) (fun _ _ _ _ _ hl w => lv_aload_n hx hb zd_Reader_readExtension_92 rfl (lv_at hl 1 rfl) w) ?_
        refine zg_1 (pc' := 94) (fun _ _ _ _ _ hl w => lv_aload_n hx hb zd_Reader_readExtension_93 rfl (lv_at hl 2 rfl) w) ?_
        refine zg_1 (pc' := 96) (fun _ _ _ _ _ hl w => lv_iload hx hb zd_Reader_readExtension_94 (lv_at hl 3 rfl) w) ?_
        obtain ⟨h_8, hf⟩ := zx_ck hf
        obtain ⟨s_7, hq, hf⟩ := zx_p hf
        refine zg_call (pc' := 99) (y := s_7) (rv := none) (rest := []) X hR (zm_Reader_readRealm hq) (fun H locs ls k j hsz hI hU hk => va_runV (As := [.ref (h0 + a1), .int i5]) (rest := []) ⟨hx, hb, hml, hown, htT⟩ (zc_Reader_readRealm l h0 D dA tb n hq) (cwV 2 htT (zw_gV zt_575 zt_577 zt_18 zt_75 zt_578) rfl rfl rfl (by decide +kernel) ⟨Nat.le_trans (Nat.le_of_ble_eq_true rfl) hF.1, Nat.le_trans (Nat.le_of_ble_eq_true rfl) hF.2⟩) ⟨(zg_pre hU).1, zg_recv hK hI h_8 rfl, (zg_pre hU).2⟩ rfl rfl hsz rfl (lv_room (Nat.le_of_ble_eq_true rfl)) zd_Reader_readExtension_96 hk) rfl ?_
        refine zg_1 (pc' := 129) (fun _ _ _ _ _ hl w => lv_goto hx hb zd_Reader_readExtension_99 (by decide) w) ?_
        refine zg_v [1, 2, 3, 4] rfl ?_
        exact zw_Reader_readExtension_129 X hR hF hret n s_7 a0 a1 i5 j7 hf
    · rw [if_pos hc] at hf
      refine zg_1 (pc' := 74) (fun _ _ _ _ _ hl w => lv_aload_n hx hb zd_Reader_readExtension_73 rfl (lv_at hl 1 rfl) w) ?_
      refine zg_1 (pc' := 75) (fun _ _ _ _ _ hl w => lv_aload_n hx hb zd_Reader_readExtension_74 rfl (lv_at hl 2 rfl) w) ?_
      refine zg_1 (pc' := 77) (fun _ _ _ _ _ hl w => lv_iload hx hb zd_Reader_readExtension_75 (lv_at hl 3 rfl) w) ?_
      obtain ⟨h_10, hf⟩ := zx_ck hf
      obtain ⟨s_9, hq, hf⟩ := zx_p hf
      refine zg_call (pc' := 80) (y := s_9) (rv := none) (rest := []) X hR (zm_Reader_readUsage hq) (fun H locs ls k j hsz hI hU hk => va_runV (As := [.ref (h0 + a1), .int i5]) (rest := []) ⟨hx, hb, hml, hown, htT⟩ (zc_Reader_readUsage l h0 D dA tb n hq) (cwV 2 htT (zw_gV zt_569 zt_571 zt_17 zt_75 zt_572) rfl rfl rfl (by decide +kernel) ⟨Nat.le_trans (Nat.le_of_ble_eq_true rfl) hF.1, Nat.le_trans (Nat.le_of_ble_eq_true rfl) hF.2⟩) ⟨(zg_pre hU).1, zg_recv hK hI h_10 rfl, (zg_pre hU).2⟩ rfl rfl hsz rfl (lv_room (Nat.le_of_ble_eq_true rfl)) zd_Reader_readExtension_77 hk) rfl ?_
      refine zg_1 (pc' := 129) (fun _ _ _ _ _ hl w => lv_goto hx hb zd_Reader_readExtension_80 (by decide) w) ?_
      refine zg_v [1, 2, 3, 4] rfl ?_
      exact zw_Reader_readExtension_129 X hR hF hret n s_9 a0 a1 i5 j7 hf
  · rw [if_pos hc] at hf
    refine zg_1 (pc' := 55) (fun _ _ _ _ _ hl w => lv_aload_n hx hb zd_Reader_readExtension_54 rfl (lv_at hl 1 rfl) w) ?_
    refine zg_1 (pc' := 56) (fun _ _ _ _ _ hl w => lv_aload_n hx hb zd_Reader_readExtension_55 rfl (lv_at hl 2 rfl) w) ?_
    refine zg_1 (pc' := 58) (fun _ _ _ _ _ hl w => lv_iload hx hb zd_Reader_readExtension_56 (lv_at hl 3 rfl) w) ?_
    obtain ⟨h_12, hf⟩ := zx_ck hf
    obtain ⟨s_11, hq, hf⟩ := zx_p hf
    refine zg_call (pc' := 61) (y := s_11) (rv := none) (rest := []) X hR (zm_Reader_readBasic hq) (fun H locs ls k j hsz hI hU hk => va_runV (As := [.ref (h0 + a1), .int i5]) (rest := []) ⟨hx, hb, hml, hown, htT⟩ (zc_Reader_readBasic l h0 D dA tb n hq) (cwV 2 htT (zw_gV zt_560 zt_562 zt_15 zt_75 zt_563) rfl rfl rfl (by decide +kernel) ⟨Nat.le_trans (Nat.le_of_ble_eq_true rfl) hF.1, Nat.le_trans (Nat.le_of_ble_eq_true rfl) hF.2⟩) ⟨(zg_pre hU).1, zg_recv hK hI h_12 rfl, (zg_pre hU).2⟩ rfl rfl hsz rfl (lv_room (Nat.le_of_ble_eq_true rfl)) zd_Reader_readExtension_58 hk) rfl ?_
    refine zg_1 (pc' := 129) (fun _ _ _ _ _ hl w => lv_goto hx hb zd_Reader_readExtension_61 (by decide) w) ?_
    refine zg_v [1, 2, 3, 4] rfl ?_
    exact zw_Reader_readExtension_129 X hR hF hret n s_11 a0 a1 i5 j7 hf
set_option maxHeartbeats 4000000 in
theorem zc_Reader_readExtension (l : Launch) (h0 : Nat) (D : va_G) (dA : Nat → ClassId) (tb : Nat → Nat) (n : Nat) {s0 : zh_S} {a0 : Nat} {a1 : Nat} {j2 : Int64} {i4 : Int32} {r : Int64} {z : zh_S} (hf : zf_Reader_readExtension n s0 a0 a1 j2 i4 = some (r, z)) : zc_M l zn_Reader_readExtension zs_Reader_readExtension 4 97 h0 D dA tb [.ref (h0 + a0), .ref (h0 + a1), .long j2, .int i4] s0 (some (.long r)) z := by
  rw [zf_Reader_readExtension] at hf
  refine zc_of (cc := ze_Reader_readExtension) (maxL := 10) (ret := (some .long)) (lv := [(0, .ref (h0 + a0)), (1, .ref (h0 + a1)), (2, .long j2), (4, .int i4)]) (by decide) rfl (Nat.le_of_ble_eq_true rfl) rfl ?_
  intro p e s m args below meth c X hnm
  obtain ⟨hx, hb, hml, hown, htT, hrt, hlk, x00, hIn⟩ := id X
  have hK := hIn.2.1
  have hT := hIn.2.2.1
  have hNe := hIn.2.2.2
  have hR : zg_R { frames := 4, cells := zh_N z - zh_N s0, slots := zh_M z - zh_M s0, locals := 97 } (zh_N s0) (zh_M s0) z := ⟨by show zh_N z ≤ zh_N s0 + (zh_N z - zh_N s0); omega, by show zh_M z ≤ zh_M s0 + (zh_M z - zh_M s0); omega⟩
  have hF : 4 ≤ ({ frames := 4, cells := zh_N z - zh_N s0, slots := zh_M z - zh_M s0, locals := 97 } : Room).frames ∧ 97 ≤ ({ frames := 4, cells := zh_N z - zh_N s0, slots := zh_M z - zh_M s0, locals := 97 } : Room).locals := ⟨Nat.le_refl _, Nat.le_refl _⟩
  have hret := fun (pc : Nat) (lv : List (Nat × Value)) (hd : decode ze_Reader_readExtension pc = .ok (.lreturn, 1)) => zg_lret (R := { frames := 4, cells := zh_N z - zh_N s0, slots := zh_M z - zh_M s0, locals := 97 }) (l := l) (e := e) (below := below) (c0 := zh_N s0) (s0 := zh_M s0) (z := z) (lv := lv) (v := r) X hd
  refine zg_1 (pc' := 1) (fun _ _ _ _ _ hl w => lv_aload_n hx hb zd_Reader_readExtension_0 rfl (lv_at hl 0 rfl) w) ?_
  refine zg_1 (pc' := 3) (fun _ _ _ _ _ hl w => lv_bipush (v := (48 : Int32)) hx hb zd_Reader_readExtension_1 (by decide) w) ?_
  refine zg_1 (pc' := 5) (fun _ _ _ _ _ hl w => lv_iload hx hb zd_Reader_readExtension_3 (lv_at hl 3 rfl) w) ?_
  obtain ⟨h_2, hf⟩ := zx_ck hf
  obtain ⟨i_3, s_1, hq, hf⟩ := zx_b hf
  refine zg_call (pc' := 8) (y := s_1) (rv := (some (.int i_3))) (rest := []) X hR (zm_Reader_open hq) (fun H locs ls k j hsz hI hU hk => va_runV (As := [.int (48 : Int32), .int i4]) (rest := []) ⟨hx, hb, hml, hown, htT⟩ (zc_Reader_open l h0 D dA tb n hq) (cwV 2 htT (zw_gV zt_519 zt_521 zt_6 zt_75 zt_522) rfl rfl rfl (by decide +kernel) ⟨Nat.le_trans (Nat.le_of_ble_eq_true rfl) hF.1, Nat.le_trans (Nat.le_of_ble_eq_true rfl) hF.2⟩) ⟨(zg_pre hU).1, zg_recv hK hI h_2 rfl, (zg_pre hU).2⟩ rfl rfl hsz rfl (lv_room (Nat.le_of_ble_eq_true rfl)) zd_Reader_readExtension_5 hk) rfl ?_
  refine zg_s (pc' := 10) (lv' := [(5, .int i_3), (0, .ref (h0 + a0)), (1, .ref (h0 + a1)), (2, .long j2), (4, .int i4)]) (fun _ _ _ _ _ hl w => lv_istore hx hb zd_Reader_readExtension_8 hl (by decide) rfl w) ?_
  refine zg_1 (pc' := 11) (fun _ _ _ _ _ hl w => lv_aload_n hx hb zd_Reader_readExtension_10 rfl (lv_at hl 1 rfl) w) ?_
  obtain ⟨h_4, hf⟩ := zx_ck hf
  refine zg_get (pc' := 14) (ci := 2) hx hb htT zi_Reader hown hK h_4 rfl rfl 1 (by decide) (htT _ zt_497) (fun _ h9 => h9) rfl zd_Reader_readExtension_11 rfl ?_
  obtain ⟨i_5, e_i_5, hf⟩ := zx_l hf
  refine zg_ti e_i_5 ?_
  refine zg_s (pc' := 16) (lv' := [(6, .int i_5), (5, .int i_3), (0, .ref (h0 + a0)), (1, .ref (h0 + a1)), (2, .long j2), (4, .int i4)]) (fun _ _ _ _ _ hl w => lv_istore hx hb zd_Reader_readExtension_14 hl (by decide) rfl w) ?_
  refine zg_1 (pc' := 17) (fun _ _ _ _ _ hl w => lv_aload_n hx hb zd_Reader_readExtension_16 rfl (lv_at hl 2 rfl) w) ?_
  refine zg_1 (pc' := 19) (fun _ _ _ _ _ hl w => lv_iload hx hb zd_Reader_readExtension_17 (lv_at hl 1 rfl) w) ?_
  obtain ⟨j_7, s_6, hq, hf⟩ := zx_b hf
  refine zg_call (pc' := 22) (y := s_6) (rv := (some (.long j_7))) (rest := []) X hR (zm_Reader_readInteger hq) (fun H locs ls k j hsz hI hU hk => va_runV (As := [.int i_3]) (rest := []) ⟨hx, hb, hml, hown, htT⟩ (zc_Reader_readInteger l h0 D dA tb n hq) (cwV 1 htT (zw_gV zt_527 zt_529 zt_8 zt_75 zt_530) rfl rfl rfl (by decide +kernel) ⟨Nat.le_trans (Nat.le_of_ble_eq_true rfl) hF.1, Nat.le_trans (Nat.le_of_ble_eq_true rfl) hF.2⟩) ⟨(zg_pre hU).1, zg_recv hK hI h_4 rfl, (zg_pre hU).2⟩ rfl rfl hsz rfl (lv_room (Nat.le_of_ble_eq_true rfl)) zd_Reader_readExtension_19 hk) rfl ?_
  refine zg_s (pc' := 24) (lv' := [(7, .long j_7), (6, .int i_5), (5, .int i_3), (0, .ref (h0 + a0)), (1, .ref (h0 + a1)), (2, .long j2), (4, .int i4)]) (fun _ _ _ _ _ hl w => lv_lstore hx hb zd_Reader_readExtension_22 hl (by decide) rfl w) ?_
  refine zg_1 (pc' := 26) (fun _ _ _ _ _ hl w => lv_lload hx hb zd_Reader_readExtension_24 (lv_at hl 0 rfl) w) ?_
  refine zg_1 (pc' := 27) (fun _ _ _ _ _ hl w => lv_lload_n hx hb zd_Reader_readExtension_26 rfl (lv_at hl 5 rfl) w) ?_
  refine zg_1 (pc' := 28) (fun _ _ _ _ _ hl w => W.lcmp hx hb zd_Reader_readExtension_27 w) ?_
  refine zg_2 (pc1 := 39) (pc2 := 31) (Classical.em _) (fun _ _ _ _ _ w1 w2 => lv_if_gt hx hb zd_Reader_readExtension_28 (by decide) w1 w2) (fun hc => ?_) (fun hc => ?_)
  · rw [if_pos hc] at hf
    refine zg_v [3, 4, 2, 0] rfl ?_
    exact zw_Reader_readExtension_39 X hR hF hret n s_6 a0 a1 i_3 j_7 hf
  · rw [if_neg hc] at hf
    refine zg_1 (pc' := 32) (fun _ _ _ _ _ hl w => lv_aload_n hx hb zd_Reader_readExtension_31 rfl (lv_at hl 3 rfl) w) ?_
    refine zg_1 (pc' := 33) (fun _ _ _ _ _ hl w => lv_iconst (v := (4 : Int32)) hx hb zd_Reader_readExtension_32 (by decide) w) ?_
    refine zg_1 (pc' := 35) (fun _ _ _ _ _ hl w => lv_iload hx hb zd_Reader_readExtension_33 (lv_at hl 1 rfl) w) ?_
    obtain ⟨h_9, hf⟩ := zx_ck hf
    obtain ⟨i_10, s_8, hq, hf⟩ := zx_b hf
    refine zg_call (pc' := 38) (y := s_8) (rv := (some (.int i_10))) (rest := []) X hR (zm_Reader_fail hq) (fun H locs ls k j hsz hI hU hk => va_runV (As := [.int (4 : Int32), .int i_5]) (rest := []) ⟨hx, hb, hml, hown, htT⟩ (zc_Reader_fail l h0 D dA tb n hq) (cwV 2 htT (zw_gV zt_523 zt_525 zt_7 zt_75 zt_526) rfl rfl rfl (by decide +kernel) ⟨Nat.le_trans (Nat.le_of_ble_eq_true rfl) hF.1, Nat.le_trans (Nat.le_of_ble_eq_true rfl) hF.2⟩) ⟨(zg_pre hU).1, zg_recv hK hI h_9 rfl, (zg_pre hU).2⟩ rfl rfl hsz rfl (lv_room (Nat.le_of_ble_eq_true rfl)) zd_Reader_readExtension_35 hk) rfl ?_
    refine zg_1 (pc' := 39) (fun _ _ _ _ _ hl w => lv_pop hx hb zd_Reader_readExtension_38 rfl w) ?_
    refine zg_v [3, 4, 2, 0] rfl ?_
    exact zw_Reader_readExtension_39 X hR hF hret n s_8 a0 a1 i_3 j_7 hf
set_option maxHeartbeats 4000000 in
theorem zw_Reader_readExtensions_55 {p : Program} {l : Launch} {e : Env} {R : Room} {s : State} {m : MethodId} {args : Array Value} {below : List Frame} {meth : Method} {c : Code} {Q : State → Prop} {h0 : Nat} {D : va_G} {dA : Nat → ClassId} {tb : Nat → Nat} {c0 k0 : Nat} {z : zh_S} (X : zg_X p s m args meth c ze_Reader_readExtensions 7 zr_Reader none h0 D dA tb) (hR : zg_R R c0 k0 z) (hF : 5 ≤ R.frames ∧ 126 ≤ R.locals) (hret : ∀ (pc : Nat) (lv : List (Nat × Value)), decode ze_Reader_readExtensions pc = .ok (.return_, 1) → zg_G p l e R s m args below meth c Q h0 D dA 7 c0 k0 z z pc lv []) (n : Nat) : ∀ (s0 : zh_S) (a0 : Nat) (i3 : Int32), zb_Reader_readExtensions_55 n s0 a0 i3 = some z → zg_G p l e R s m args below meth c Q h0 D dA 7 c0 k0 z s0 55 [(0, .ref (h0 + a0)), (3, .int i3)] [] := by
  obtain ⟨hx, hb, hml, hown, htT, hrt, hlk, x00, hIn⟩ := id X
  have hK := hIn.2.1
  have hT := hIn.2.2.1
  have hNe := hIn.2.2.2
  intro s0 a0 i3 hf
  rw [zb_Reader_readExtensions_55] at hf
  refine zg_1 (pc' := 56) (fun _ _ _ _ _ hl w => lv_aload_n hx hb zd_Reader_readExtensions_55 rfl (lv_at hl 0 rfl) w) ?_
  refine zg_1 (pc' := 57) (fun _ _ _ _ _ hl w => lv_iload_n hx hb zd_Reader_readExtensions_56 rfl (lv_at hl 1 rfl) w) ?_
  obtain ⟨h_2, hf⟩ := zx_ck hf
  obtain ⟨s_1, hq, hf⟩ := zx_p hf
  refine zg_call (pc' := 60) (y := s_1) (rv := none) (rest := []) X hR (zm_Reader_close hq) (fun H locs ls k j hsz hI hU hk => va_runV (As := [.int i3]) (rest := []) ⟨hx, hb, hml, hown, htT⟩ (zc_Reader_close l h0 D dA tb n hq) (cwV 1 htT (zw_gV zt_564 zt_566 zt_16 zt_75 zt_567) rfl rfl rfl (by decide +kernel) ⟨Nat.le_trans (Nat.le_of_ble_eq_true rfl) hF.1, Nat.le_trans (Nat.le_of_ble_eq_true rfl) hF.2⟩) ⟨(zg_pre hU).1, zg_recv hK hI h_2 rfl, (zg_pre hU).2⟩ rfl rfl hsz rfl (lv_room (Nat.le_of_ble_eq_true rfl)) zd_Reader_readExtensions_57 hk) rfl ?_
  obtain rfl := zx_r1 hf
  exact hret _ _ zd_Reader_readExtensions_60
set_option maxHeartbeats 4000000 in
theorem zw_Reader_readExtensions_39 {p : Program} {l : Launch} {e : Env} {R : Room} {s : State} {m : MethodId} {args : Array Value} {below : List Frame} {meth : Method} {c : Code} {Q : State → Prop} {h0 : Nat} {D : va_G} {dA : Nat → ClassId} {tb : Nat → Nat} {c0 k0 : Nat} {z : zh_S} (X : zg_X p s m args meth c ze_Reader_readExtensions 7 zr_Reader none h0 D dA tb) (hR : zg_R R c0 k0 z) (hF : 5 ≤ R.frames ∧ 126 ≤ R.locals) (hret : ∀ (pc : Nat) (lv : List (Nat × Value)), decode ze_Reader_readExtensions pc = .ok (.return_, 1) → zg_G p l e R s m args below meth c Q h0 D dA 7 c0 k0 z z pc lv []) (n : Nat) (r16 : zh_S → Nat → Nat → Int32 → Int64 → Int32 → Option zh_S) (hr16 : ∀ (s0 : zh_S) (a0 : Nat) (a1 : Nat) (i3 : Int32) (j4 : Int64) (i6 : Int32), r16 s0 a0 a1 i3 j4 i6 = some z → zg_G p l e R s m args below meth c Q h0 D dA 7 c0 k0 z s0 16 [(0, .ref (h0 + a0)), (1, .ref (h0 + a1)), (3, .int i3), (4, .long j4), (6, .int i6)] []) : ∀ (s0 : zh_S) (a0 : Nat) (a1 : Nat) (i3 : Int32) (j4 : Int64) (i6 : Int32), zb_Reader_readExtensions_39 n r16 s0 a0 a1 i3 j4 i6 = some z → zg_G p l e R s m args below meth c Q h0 D dA 7 c0 k0 z s0 39 [(0, .ref (h0 + a0)), (1, .ref (h0 + a1)), (3, .int i3), (4, .long j4), (6, .int i6)] [] := by
  obtain ⟨hx, hb, hml, hown, htT, hrt, hlk, x00, hIn⟩ := id X
  have hK := hIn.2.1
  have hT := hIn.2.2.1
  have hNe := hIn.2.2.2
  intro s0 a0 a1 i3 j4 i6 hf
  rw [zb_Reader_readExtensions_39] at hf
  refine zg_1 (pc' := 40) (fun _ _ _ _ _ hl w => lv_aload_n hx hb zd_Reader_readExtensions_39 rfl (lv_at hl 0 rfl) w) ?_
  refine zg_1 (pc' := 41) (fun _ _ _ _ _ hl w => lv_aload_n hx hb zd_Reader_readExtensions_40 rfl (lv_at hl 1 rfl) w) ?_
  refine zg_1 (pc' := 43) (fun _ _ _ _ _ hl w => lv_lload hx hb zd_Reader_readExtensions_41 (lv_at hl 3 rfl) w) ?_
  refine zg_1 (pc' := 44) (fun _ _ _ _ _ hl w => lv_iload_n hx hb zd_Reader_readExtensions_43 rfl (lv_at hl 2 rfl) w) ?_
  obtain ⟨h_2, hf⟩ := zx_ck hf
  obtain ⟨j_3, s_1, hq, hf⟩ := zx_b hf
  refine zg_call (pc' := 47) (y := s_1) (rv := (some (.long j_3))) (rest := []) X hR (zm_Reader_readExtension hq) (fun H locs ls k j hsz hI hU hk => va_runV (As := [.ref (h0 + a1), .long j4, .int i3]) (rest := []) ⟨hx, hb, hml, hown, htT⟩ (zc_Reader_readExtension l h0 D dA tb n hq) (cwV 3 htT (zw_gV zt_552 zt_554 zt_13 zt_75 zt_555) rfl rfl rfl (by decide +kernel) ⟨Nat.le_trans (Nat.le_of_ble_eq_true rfl) hF.1, Nat.le_trans (Nat.le_of_ble_eq_true rfl) hF.2⟩) ⟨(zg_pre hU).1, zg_recv hK hI h_2 rfl, (zg_pre hU).2⟩ rfl rfl hsz rfl (lv_room (Nat.le_of_ble_eq_true rfl)) zd_Reader_readExtensions_44 hk) rfl ?_
  refine zg_s (pc' := 49) (lv' := [(4, .long j_3), (0, .ref (h0 + a0)), (1, .ref (h0 + a1)), (3, .int i3), (6, .int i6)]) (fun _ _ _ _ _ hl w => lv_lstore hx hb zd_Reader_readExtensions_47 hl (by decide) rfl w) ?_
  obtain ⟨i_4, e_i_4, hf⟩ := zx_l hf
  refine zg_s (pc' := 52) (lv' := [(6, .int i_4), (4, .long j_3), (0, .ref (h0 + a0)), (1, .ref (h0 + a1)), (3, .int i3)]) (fun _ _ _ _ _ hl w => lv_iinc (k := 4) (v := i_4) hx hb zd_Reader_readExtensions_49 hl rfl (by rw [e_i_4]; rfl) (by decide) rfl w) ?_
  refine zg_1 (pc' := 16) (fun _ _ _ _ _ hl w => lv_goto hx hb zd_Reader_readExtensions_52 (by decide) w) ?_
  refine zg_v [2, 3, 4, 1, 0] rfl ?_
  exact hr16 s_1 a0 a1 i3 j_3 i_4 hf
set_option maxHeartbeats 4000000 in
theorem zw_Reader_readExtensions_16 {p : Program} {l : Launch} {e : Env} {R : Room} {s : State} {m : MethodId} {args : Array Value} {below : List Frame} {meth : Method} {c : Code} {Q : State → Prop} {h0 : Nat} {D : va_G} {dA : Nat → ClassId} {tb : Nat → Nat} {c0 k0 : Nat} {z : zh_S} (X : zg_X p s m args meth c ze_Reader_readExtensions 7 zr_Reader none h0 D dA tb) (hR : zg_R R c0 k0 z) (hF : 5 ≤ R.frames ∧ 126 ≤ R.locals) (hret : ∀ (pc : Nat) (lv : List (Nat × Value)), decode ze_Reader_readExtensions pc = .ok (.return_, 1) → zg_G p l e R s m args below meth c Q h0 D dA 7 c0 k0 z z pc lv []) (n : Nat) (k : Nat) : ∀ (s0 : zh_S) (a0 : Nat) (a1 : Nat) (i3 : Int32) (j4 : Int64) (i6 : Int32), zl_Reader_readExtensions_16 n k s0 a0 a1 i3 j4 i6 = some z → zg_G p l e R s m args below meth c Q h0 D dA 7 c0 k0 z s0 16 [(0, .ref (h0 + a0)), (1, .ref (h0 + a1)), (3, .int i3), (4, .long j4), (6, .int i6)] [] := by
  obtain ⟨hx, hb, hml, hown, htT, hrt, hlk, x00, hIn⟩ := id X
  have hK := hIn.2.1
  have hT := hIn.2.2.1
  have hNe := hIn.2.2.2
  induction k with
  | zero => intro s0 a0 a1 i3 j4 i6 hf; cases hf
  | succ k ih =>
    intro s0 a0 a1 i3 j4 i6 hf
    rw [zl_Reader_readExtensions_16] at hf
    refine zg_1 (pc' := 18) (fun _ _ _ _ _ hl w => lv_iload hx hb zd_Reader_readExtensions_16 (lv_at hl 4 rfl) w) ?_
    refine zg_1 (pc' := 21) (fun _ _ _ _ _ hl w => lv_sipush (v := (200 : Int32)) hx hb zd_Reader_readExtensions_18 (by decide) w) ?_
    refine zg_2 (pc1 := 55) (pc2 := 24) (Classical.em _) (fun _ _ _ _ _ w1 w2 => lv_icmp_ge hx hb zd_Reader_readExtensions_21 (by decide) w1 w2) (fun hc => ?_) (fun hc => ?_)
    · rw [if_pos hc] at hf
      refine zg_v [0, 2] rfl ?_
      exact zw_Reader_readExtensions_55 X hR hF hret n s0 a0 i3 hf
    · rw [if_neg hc] at hf
      refine zg_1 (pc' := 26) (fun _ _ _ _ _ hl w => lv_iload hx hb zd_Reader_readExtensions_24 (lv_at hl 4 rfl) w) ?_
      refine zg_2 (pc1 := 39) (pc2 := 29) (Classical.em _) (fun _ _ _ _ _ w1 w2 => lv_if_eq hx hb zd_Reader_readExtensions_26 (by decide) w1 w2) (fun hc => ?_) (fun hc => ?_)
      · rw [if_pos hc] at hf
        exact zw_Reader_readExtensions_39 X hR hF hret n _ ih s0 a0 a1 i3 j4 i6 hf
      · rw [if_neg hc] at hf
        refine zg_1 (pc' := 30) (fun _ _ _ _ _ hl w => lv_aload_n hx hb zd_Reader_readExtensions_29 rfl (lv_at hl 0 rfl) w) ?_
        refine zg_1 (pc' := 32) (fun _ _ _ _ _ hl w => lv_bipush (v := (48 : Int32)) hx hb zd_Reader_readExtensions_30 (by decide) w) ?_
        refine zg_1 (pc' := 33) (fun _ _ _ _ _ hl w => lv_iload_n hx hb zd_Reader_readExtensions_32 rfl (lv_at hl 2 rfl) w) ?_
        obtain ⟨h_1, hf⟩ := zx_ck hf
        obtain ⟨i_2, hq, hf⟩ := zx_p hf
        refine zg_call (pc' := 36) (y := s0) (rv := (some (.int i_2))) (rest := []) X hR ⟨Nat.le_refl _, Nat.le_refl _⟩ (fun H locs ls k j hsz hI hU hk => va_runV (As := [.int (48 : Int32), .int i3]) (rest := []) ⟨hx, hb, hml, hown, htT⟩ (zc_Reader_isNext l h0 D dA tb n hq) (cwV 2 htT (zw_gV zt_543 zt_545 zt_11 zt_75 zt_546) rfl rfl rfl (by decide +kernel) ⟨Nat.le_trans (Nat.le_of_ble_eq_true rfl) hF.1, Nat.le_trans (Nat.le_of_ble_eq_true rfl) hF.2⟩) ⟨(zg_pre hU).1, zg_recv hK hI h_1 rfl, (zg_pre hU).2⟩ rfl rfl hsz rfl (lv_room (Nat.le_of_ble_eq_true rfl)) zd_Reader_readExtensions_33 hk) rfl ?_
        refine zg_2 (pc1 := 55) (pc2 := 39) (Classical.em _) (fun _ _ _ _ _ w1 w2 => lv_if_eq hx hb zd_Reader_readExtensions_36 (by decide) w1 w2) (fun hc => ?_) (fun hc => ?_)
        · rw [if_pos hc] at hf
          refine zg_v [0, 2] rfl ?_
          exact zw_Reader_readExtensions_55 X hR hF hret n s0 a0 i3 hf
        · rw [if_neg hc] at hf
          exact zw_Reader_readExtensions_39 X hR hF hret n _ ih s0 a0 a1 i3 j4 i6 hf
set_option maxHeartbeats 4000000 in
theorem zc_Reader_readExtensions (l : Launch) (h0 : Nat) (D : va_G) (dA : Nat → ClassId) (tb : Nat → Nat) (n : Nat) {s0 : zh_S} {a0 : Nat} {a1 : Nat} {i2 : Int32} {z : zh_S} (hf : zf_Reader_readExtensions n s0 a0 a1 i2 = some z) : zc_M l zn_Reader_readExtensions zs_Reader_readExtensions 5 126 h0 D dA tb [.ref (h0 + a0), .ref (h0 + a1), .int i2] s0 none z := by
  rw [zf_Reader_readExtensions] at hf
  refine zc_of (cc := ze_Reader_readExtensions) (maxL := 7) (ret := none) (lv := [(0, .ref (h0 + a0)), (1, .ref (h0 + a1)), (2, .int i2)]) (by decide) rfl (Nat.le_of_ble_eq_true rfl) rfl ?_
  intro p e s m args below meth c X hnm
  obtain ⟨hx, hb, hml, hown, htT, hrt, hlk, x00, hIn⟩ := id X
  have hK := hIn.2.1
  have hT := hIn.2.2.1
  have hNe := hIn.2.2.2
  have hR : zg_R { frames := 5, cells := zh_N z - zh_N s0, slots := zh_M z - zh_M s0, locals := 126 } (zh_N s0) (zh_M s0) z := ⟨by show zh_N z ≤ zh_N s0 + (zh_N z - zh_N s0); omega, by show zh_M z ≤ zh_M s0 + (zh_M z - zh_M s0); omega⟩
  have hF : 5 ≤ ({ frames := 5, cells := zh_N z - zh_N s0, slots := zh_M z - zh_M s0, locals := 126 } : Room).frames ∧ 126 ≤ ({ frames := 5, cells := zh_N z - zh_N s0, slots := zh_M z - zh_M s0, locals := 126 } : Room).locals := ⟨Nat.le_refl _, Nat.le_refl _⟩
  have hret := fun (pc : Nat) (lv : List (Nat × Value)) (hd : decode ze_Reader_readExtensions pc = .ok (.return_, 1)) => zg_vret (R := { frames := 5, cells := zh_N z - zh_N s0, slots := zh_M z - zh_M s0, locals := 126 }) (l := l) (e := e) (below := below) (c0 := zh_N s0) (s0 := zh_M s0) (z := z) (lv := lv) X hd
  refine zg_1 (pc' := 1) (fun _ _ _ _ _ hl w => lv_aload_n hx hb zd_Reader_readExtensions_0 rfl (lv_at hl 0 rfl) w) ?_
  refine zg_1 (pc' := 3) (fun _ _ _ _ _ hl w => lv_bipush (v := (48 : Int32)) hx hb zd_Reader_readExtensions_1 (by decide) w) ?_
  refine zg_1 (pc' := 4) (fun _ _ _ _ _ hl w => lv_iload_n hx hb zd_Reader_readExtensions_3 rfl (lv_at hl 2 rfl) w) ?_
  obtain ⟨h_2, hf⟩ := zx_ck hf
  obtain ⟨i_3, s_1, hq, hf⟩ := zx_b hf
  refine zg_call (pc' := 7) (y := s_1) (rv := (some (.int i_3))) (rest := []) X hR (zm_Reader_open hq) (fun H locs ls k j hsz hI hU hk => va_runV (As := [.int (48 : Int32), .int i2]) (rest := []) ⟨hx, hb, hml, hown, htT⟩ (zc_Reader_open l h0 D dA tb n hq) (cwV 2 htT (zw_gV zt_519 zt_521 zt_6 zt_75 zt_522) rfl rfl rfl (by decide +kernel) ⟨Nat.le_trans (Nat.le_of_ble_eq_true rfl) hF.1, Nat.le_trans (Nat.le_of_ble_eq_true rfl) hF.2⟩) ⟨(zg_pre hU).1, zg_recv hK hI h_2 rfl, (zg_pre hU).2⟩ rfl rfl hsz rfl (lv_room (Nat.le_of_ble_eq_true rfl)) zd_Reader_readExtensions_4 hk) rfl ?_
  refine zg_s (pc' := 8) (lv' := [(3, .int i_3), (0, .ref (h0 + a0)), (1, .ref (h0 + a1)), (2, .int i2)]) (fun _ _ _ _ _ hl w => lv_istore_n hx hb zd_Reader_readExtensions_7 rfl hl (by decide) rfl w) ?_
  refine zg_1 (pc' := 11) (fun _ _ _ _ _ hl w => lv_ldc2 (v := (-1 : Int64)) hx hb hown (htT _ zt_551) zd_Reader_readExtensions_8 w) ?_
  refine zg_s (pc' := 13) (lv' := [(4, .long (-1 : Int64)), (3, .int i_3), (0, .ref (h0 + a0)), (1, .ref (h0 + a1)), (2, .int i2)]) (fun _ _ _ _ _ hl w => lv_lstore hx hb zd_Reader_readExtensions_11 hl (by decide) rfl w) ?_
  refine zg_1 (pc' := 14) (fun _ _ _ _ _ hl w => lv_iconst (v := (0 : Int32)) hx hb zd_Reader_readExtensions_13 (by decide) w) ?_
  refine zg_s (pc' := 16) (lv' := [(6, .int (0 : Int32)), (4, .long (-1 : Int64)), (3, .int i_3), (0, .ref (h0 + a0)), (1, .ref (h0 + a1)), (2, .int i2)]) (fun _ _ _ _ _ hl w => lv_istore hx hb zd_Reader_readExtensions_14 hl (by decide) rfl w) ?_
  refine zg_v [3, 4, 2, 1, 0] rfl ?_
  exact zw_Reader_readExtensions_16 X hR hF hret n n s_1 a0 a1 i_3 (-1 : Int64) (0 : Int32) hf
set_option maxHeartbeats 4000000 in
theorem zw_Reader_readCertificate_124 {p : Program} {l : Launch} {e : Env} {R : Room} {s : State} {m : MethodId} {args : Array Value} {below : List Frame} {meth : Method} {c : Code} {Q : State → Prop} {h0 : Nat} {D : va_G} {dA : Nat → ClassId} {tb : Nat → Nat} {c0 k0 : Nat} {z : zh_S} {r : Int32} (X : zg_X p s m args meth c ze_Reader_readCertificate 5 zr_Reader (some .int) h0 D dA tb) (hR : zg_R R c0 k0 z) (hF : 6 ≤ R.frames ∧ 152 ≤ R.locals) (hret : ∀ (pc : Nat) (lv : List (Nat × Value)), decode ze_Reader_readCertificate pc = .ok (.ireturn, 1) → zg_G p l e R s m args below meth c Q h0 D dA 5 c0 k0 z z pc lv [.int r]) (n : Nat) : ∀ (s0 : zh_S) (a0 : Nat) (a1 : Nat) (i2 : Int32) (i3 : Int32) (i4 : Int32), zb_Reader_readCertificate_124 n s0 a0 a1 i2 i3 i4 = some (r, z) → zg_G p l e R s m args below meth c Q h0 D dA 5 c0 k0 z s0 124 [(0, .ref (h0 + a0)), (1, .ref (h0 + a1)), (2, .int i2), (3, .int i3), (4, .int i4)] [] := by
  obtain ⟨hx, hb, hml, hown, htT, hrt, hlk, x00, hIn⟩ := id X
  have hK := hIn.2.1
  have hT := hIn.2.2.1
  have hNe := hIn.2.2.2
  intro s0 a0 a1 i2 i3 i4 hf
  rw [zb_Reader_readCertificate_124] at hf
  refine zg_1 (pc' := 125) (fun _ _ _ _ _ hl w => lv_aload_n hx hb zd_Reader_readCertificate_124 rfl (lv_at hl 0 rfl) w) ?_
  refine zg_1 (pc' := 127) (fun _ _ _ _ _ hl w => lv_iload hx hb zd_Reader_readCertificate_125 (lv_at hl 4 rfl) w) ?_
  obtain ⟨h_2, hf⟩ := zx_ck hf
  obtain ⟨s_1, hq, hf⟩ := zx_p hf
  refine zg_call (pc' := 130) (y := s_1) (rv := none) (rest := []) X hR (zm_Reader_close hq) (fun H locs ls k j hsz hI hU hk => va_runV (As := [.int i4]) (rest := []) ⟨hx, hb, hml, hown, htT⟩ (zc_Reader_close l h0 D dA tb n hq) (cwV 1 htT (zw_gV zt_564 zt_566 zt_16 zt_75 zt_567) rfl rfl rfl (by decide +kernel) ⟨Nat.le_trans (Nat.le_of_ble_eq_true rfl) hF.1, Nat.le_trans (Nat.le_of_ble_eq_true rfl) hF.2⟩) ⟨(zg_pre hU).1, zg_recv hK hI h_2 rfl, (zg_pre hU).2⟩ rfl rfl hsz rfl (lv_room (Nat.le_of_ble_eq_true rfl)) zd_Reader_readCertificate_127 hk) rfl ?_
  refine zg_1 (pc' := 131) (fun _ _ _ _ _ hl w => lv_aload_n hx hb zd_Reader_readCertificate_130 rfl (lv_at hl 0 rfl) w) ?_
  refine zg_1 (pc' := 132) (fun _ _ _ _ _ hl w => lv_aload_n hx hb zd_Reader_readCertificate_131 rfl (lv_at hl 1 rfl) w) ?_
  refine zg_1 (pc' := 133) (fun _ _ _ _ _ hl w => lv_iload_n hx hb zd_Reader_readCertificate_132 rfl (lv_at hl 3 rfl) w) ?_
  refine zg_1 (pc' := 134) (fun _ _ _ _ _ hl w => lv_iload_n hx hb zd_Reader_readCertificate_133 rfl (lv_at hl 2 rfl) w) ?_
  obtain ⟨h_4, hf⟩ := zx_ck hf
  obtain ⟨s_3, hq, hf⟩ := zx_p hf
  refine zg_call (pc' := 137) (y := s_3) (rv := none) (rest := []) X hR (zm_Reader_readSignature_C hq) (fun H locs ls k j hsz hI hU hk => va_runV (As := [.ref (h0 + a1), .int i3, .int i2]) (rest := []) ⟨hx, hb, hml, hown, htT⟩ (zc_Reader_readSignature_C l h0 D dA tb n hq) (cwV 3 htT (zw_gV zt_583 zt_585 zt_20 zt_75 zt_586) rfl rfl rfl (by decide +kernel) ⟨Nat.le_trans (Nat.le_of_ble_eq_true rfl) hF.1, Nat.le_trans (Nat.le_of_ble_eq_true rfl) hF.2⟩) ⟨(zg_pre hU).1, zg_recv hK hI h_4 rfl, (zg_pre hU).2⟩ rfl rfl hsz rfl (lv_room (Nat.le_of_ble_eq_true rfl)) zd_Reader_readCertificate_134 hk) rfl ?_
  refine zg_1 (pc' := 138) (fun _ _ _ _ _ hl w => lv_aload_n hx hb zd_Reader_readCertificate_137 rfl (lv_at hl 0 rfl) w) ?_
  obtain ⟨h_5, hf⟩ := zx_ck hf
  refine zg_get (pc' := 141) (ci := 2) hx hb htT zi_Reader hown hK h_5 rfl rfl 2 (by decide) (htT _ zt_498) (fun _ h9 => h9) rfl zd_Reader_readCertificate_138 rfl ?_
  obtain ⟨rfl, rfl⟩ := zx_r2 hf
  exact hret _ _ zd_Reader_readCertificate_141
set_option maxHeartbeats 4000000 in
theorem zc_Reader_readCertificate (l : Launch) (h0 : Nat) (D : va_G) (dA : Nat → ClassId) (tb : Nat → Nat) (n : Nat) {s0 : zh_S} {a0 : Nat} {a1 : Nat} {r : Int32} {z : zh_S} (hf : zf_Reader_readCertificate n s0 a0 a1 = some (r, z)) : zc_M l zn_Reader_readCertificate zs_Reader_readCertificate 6 152 h0 D dA tb [.ref (h0 + a0), .ref (h0 + a1)] s0 (some (.int r)) z := by
  rw [zf_Reader_readCertificate] at hf
  refine zc_of (cc := ze_Reader_readCertificate) (maxL := 5) (ret := (some .int)) (lv := [(0, .ref (h0 + a0)), (1, .ref (h0 + a1))]) (by decide) rfl (Nat.le_of_ble_eq_true rfl) rfl ?_
  intro p e s m args below meth c X hnm
  obtain ⟨hx, hb, hml, hown, htT, hrt, hlk, x00, hIn⟩ := id X
  have hK := hIn.2.1
  have hT := hIn.2.2.1
  have hNe := hIn.2.2.2
  have hR : zg_R { frames := 6, cells := zh_N z - zh_N s0, slots := zh_M z - zh_M s0, locals := 152 } (zh_N s0) (zh_M s0) z := ⟨by show zh_N z ≤ zh_N s0 + (zh_N z - zh_N s0); omega, by show zh_M z ≤ zh_M s0 + (zh_M z - zh_M s0); omega⟩
  have hF : 6 ≤ ({ frames := 6, cells := zh_N z - zh_N s0, slots := zh_M z - zh_M s0, locals := 152 } : Room).frames ∧ 152 ≤ ({ frames := 6, cells := zh_N z - zh_N s0, slots := zh_M z - zh_M s0, locals := 152 } : Room).locals := ⟨Nat.le_refl _, Nat.le_refl _⟩
  have hret := fun (pc : Nat) (lv : List (Nat × Value)) (hd : decode ze_Reader_readCertificate pc = .ok (.ireturn, 1)) => zg_iret (R := { frames := 6, cells := zh_N z - zh_N s0, slots := zh_M z - zh_M s0, locals := 152 }) (l := l) (e := e) (below := below) (c0 := zh_N s0) (s0 := zh_M s0) (z := z) (lv := lv) (v := r) X rfl hd
  refine zg_1 (pc' := 1) (fun _ _ _ _ _ hl w => lv_aload_n hx hb zd_Reader_readCertificate_0 rfl (lv_at hl 1 rfl) w) ?_
  obtain ⟨h_2, hf⟩ := zx_ck hf
  obtain ⟨s_1, hq, hf⟩ := zx_p hf
  refine zg_call (pc' := 4) (y := s_1) (rv := none) (rest := []) X hR (zm_Certificate_forget hq) (fun H locs ls k j hsz hI hU hk => va_runV (As := []) (rest := []) ⟨hx, hb, hml, hown, htT⟩ (zc_Certificate_forget l h0 D dA tb n hq) (cwV 0 htT (zw_gV zt_514 zt_515 zt_516 zt_69 zt_517) rfl rfl rfl (by decide +kernel) ⟨Nat.le_trans (Nat.le_of_ble_eq_true rfl) hF.1, Nat.le_trans (Nat.le_of_ble_eq_true rfl) hF.2⟩) ⟨(zg_pre hU).1, zg_recv hK hI h_2 rfl, (zg_pre hU).2⟩ rfl rfl hsz rfl (lv_room (Nat.le_of_ble_eq_true rfl)) zd_Reader_readCertificate_1 hk) rfl ?_
  refine zg_1 (pc' := 5) (fun _ _ _ _ _ hl w => lv_aload_n hx hb zd_Reader_readCertificate_4 rfl (lv_at hl 0 rfl) w) ?_
  refine zg_1 (pc' := 7) (fun _ _ _ _ _ hl w => lv_bipush (v := (48 : Int32)) hx hb zd_Reader_readCertificate_5 (by decide) w) ?_
  refine zg_1 (pc' := 8) (fun _ _ _ _ _ hl w => lv_aload_n hx hb zd_Reader_readCertificate_7 rfl (lv_at hl 0 rfl) w) ?_
  obtain ⟨h_3, hf⟩ := zx_ck hf
  obtain ⟨a_4, h_5, hf⟩ := zx_p hf
  refine zg_get (pc' := 11) (ci := 2) hx hb htT zi_Reader hown hK h_3 rfl rfl 0 (by decide) (htT _ zt_496) (fun _ h9 => h9) (zx_hv h_5) zd_Reader_readCertificate_8 rfl ?_
  obtain ⟨h_6, hf⟩ := zx_ck hf
  refine zg_get (pc' := 14) (ci := 1) hx hb htT zi_Draft hown hK h_6 rfl rfl 1 (by decide) (htT _ zt_95) (fun _ h9 => h9) rfl zd_Reader_readCertificate_11 rfl ?_
  obtain ⟨i_8, s_7, hq, hf⟩ := zx_b hf
  refine zg_call (pc' := 17) (y := s_7) (rv := (some (.int i_8))) (rest := []) X hR (zm_Reader_open hq) (fun H locs ls k j hsz hI hU hk => va_runV (As := [.int (48 : Int32), .int (zh_I s_1 a_4 1)]) (rest := []) ⟨hx, hb, hml, hown, htT⟩ (zc_Reader_open l h0 D dA tb n hq) (cwV 2 htT (zw_gV zt_519 zt_521 zt_6 zt_75 zt_522) rfl rfl rfl (by decide +kernel) ⟨Nat.le_trans (Nat.le_of_ble_eq_true rfl) hF.1, Nat.le_trans (Nat.le_of_ble_eq_true rfl) hF.2⟩) ⟨(zg_pre hU).1, zg_recv hK hI h_3 rfl, (zg_pre hU).2⟩ rfl rfl hsz rfl (lv_room (Nat.le_of_ble_eq_true rfl)) zd_Reader_readCertificate_14 hk) rfl ?_
  refine zg_s (pc' := 18) (lv' := [(2, .int i_8), (0, .ref (h0 + a0)), (1, .ref (h0 + a1))]) (fun _ _ _ _ _ hl w => lv_istore_n hx hb zd_Reader_readCertificate_17 rfl hl (by decide) rfl w) ?_
  refine zg_1 (pc' := 19) (fun _ _ _ _ _ hl w => lv_aload_n hx hb zd_Reader_readCertificate_18 rfl (lv_at hl 1 rfl) w) ?_
  obtain ⟨h_9, hf⟩ := zx_ck hf
  refine zg_get (pc' := 22) (ci := 2) hx hb htT zi_Reader hown hK h_9 rfl rfl 1 (by decide) (htT _ zt_497) (fun _ h9 => h9) rfl zd_Reader_readCertificate_19 rfl ?_
  obtain ⟨i_10, e_i_10, hf⟩ := zx_l hf
  refine zg_ti e_i_10 ?_
  refine zg_s (pc' := 23) (lv' := [(3, .int i_10), (2, .int i_8), (0, .ref (h0 + a0)), (1, .ref (h0 + a1))]) (fun _ _ _ _ _ hl w => lv_istore_n hx hb zd_Reader_readCertificate_22 rfl hl (by decide) rfl w) ?_
  refine zg_1 (pc' := 24) (fun _ _ _ _ _ hl w => lv_aload_n hx hb zd_Reader_readCertificate_23 rfl (lv_at hl 2 rfl) w) ?_
  refine zg_1 (pc' := 26) (fun _ _ _ _ _ hl w => lv_bipush (v := (48 : Int32)) hx hb zd_Reader_readCertificate_24 (by decide) w) ?_
  refine zg_1 (pc' := 27) (fun _ _ _ _ _ hl w => lv_iload_n hx hb zd_Reader_readCertificate_26 rfl (lv_at hl 1 rfl) w) ?_
  obtain ⟨i_12, s_11, hq, hf⟩ := zx_b hf
  refine zg_call (pc' := 30) (y := s_11) (rv := (some (.int i_12))) (rest := []) X hR (zm_Reader_open hq) (fun H locs ls k j hsz hI hU hk => va_runV (As := [.int (48 : Int32), .int i_8]) (rest := []) ⟨hx, hb, hml, hown, htT⟩ (zc_Reader_open l h0 D dA tb n hq) (cwV 2 htT (zw_gV zt_519 zt_521 zt_6 zt_75 zt_522) rfl rfl rfl (by decide +kernel) ⟨Nat.le_trans (Nat.le_of_ble_eq_true rfl) hF.1, Nat.le_trans (Nat.le_of_ble_eq_true rfl) hF.2⟩) ⟨(zg_pre hU).1, zg_recv hK hI h_9 rfl, (zg_pre hU).2⟩ rfl rfl hsz rfl (lv_room (Nat.le_of_ble_eq_true rfl)) zd_Reader_readCertificate_27 hk) rfl ?_
  refine zg_s (pc' := 32) (lv' := [(4, .int i_12), (3, .int i_10), (2, .int i_8), (0, .ref (h0 + a0)), (1, .ref (h0 + a1))]) (fun _ _ _ _ _ hl w => lv_istore hx hb zd_Reader_readCertificate_30 hl (by decide) rfl w) ?_
  refine zg_1 (pc' := 33) (fun _ _ _ _ _ hl w => lv_aload_n hx hb zd_Reader_readCertificate_32 rfl (lv_at hl 4 rfl) w) ?_
  refine zg_1 (pc' := 34) (fun _ _ _ _ _ hl w => lv_aload_n hx hb zd_Reader_readCertificate_33 rfl (lv_at hl 3 rfl) w) ?_
  refine zg_1 (pc' := 36) (fun _ _ _ _ _ hl w => lv_iload hx hb zd_Reader_readCertificate_34 (lv_at hl 0 rfl) w) ?_
  obtain ⟨h_14, hf⟩ := zx_ck hf
  obtain ⟨j_15, s_13, hq, hf⟩ := zx_b hf
  refine zg_call (pc' := 39) (y := s_13) (rv := (some (.long j_15))) (rest := [.ref (h0 + a1)]) X hR (zm_Reader_readInteger hq) (fun H locs ls k j hsz hI hU hk => va_runV (As := [.int i_12]) (rest := [.ref (h0 + a1)]) ⟨hx, hb, hml, hown, htT⟩ (zc_Reader_readInteger l h0 D dA tb n hq) (cwV 1 htT (zw_gV zt_527 zt_529 zt_8 zt_75 zt_530) rfl rfl rfl (by decide +kernel) ⟨Nat.le_trans (Nat.le_of_ble_eq_true rfl) hF.1, Nat.le_trans (Nat.le_of_ble_eq_true rfl) hF.2⟩) ⟨(zg_pre hU).1, zg_recv hK hI h_14 rfl, (zg_pre hU).2⟩ rfl rfl hsz rfl (lv_room (Nat.le_of_ble_eq_true rfl)) zd_Reader_readCertificate_36 hk) rfl ?_
  obtain ⟨h_17, hf⟩ := zx_ck hf
  obtain ⟨s_16, e_s_16, hf⟩ := zx_l hf
  refine zg_putJ (pc' := 42) (ci := 0) (ty := .long) hx hb htT zi_Certificate zy_Certificate zo_Certificate zj_Certificate hown hK h_17 rfl rfl 6 (by decide) (htT _ zt_144) (fun _ h9 => h9) (Or.inl rfl) (by decide +kernel) rfl rfl rfl e_s_16 zd_Reader_readCertificate_39 rfl ?_
  refine zg_1 (pc' := 43) (fun _ _ _ _ _ hl w => lv_aload_n hx hb zd_Reader_readCertificate_42 rfl (lv_at hl 4 rfl) w) ?_
  refine zg_1 (pc' := 44) (fun _ _ _ _ _ hl w => lv_aload_n hx hb zd_Reader_readCertificate_43 rfl (lv_at hl 3 rfl) w) ?_
  refine zg_1 (pc' := 46) (fun _ _ _ _ _ hl w => lv_bipush (v := (19 : Int32)) hx hb zd_Reader_readCertificate_44 (by decide) w) ?_
  refine zg_1 (pc' := 48) (fun _ _ _ _ _ hl w => lv_iload hx hb zd_Reader_readCertificate_46 (lv_at hl 0 rfl) w) ?_
  obtain ⟨h_19, hf⟩ := zx_ck hf
  obtain ⟨j_20, s_18, hq, hf⟩ := zx_b hf
  refine zg_call (pc' := 51) (y := s_18) (rv := (some (.long j_20))) (rest := [.ref (h0 + a1)]) X hR (zm_Reader_readName hq) (fun H locs ls k j hsz hI hU hk => va_runV (As := [.int (19 : Int32), .int i_12]) (rest := [.ref (h0 + a1)]) ⟨hx, hb, hml, hown, htT⟩ (zc_Reader_readName l h0 D dA tb n hq) (cwV 2 htT (zw_gV zt_535 zt_537 zt_10 zt_75 zt_538) rfl rfl rfl (by decide +kernel) ⟨Nat.le_trans (Nat.le_of_ble_eq_true rfl) hF.1, Nat.le_trans (Nat.le_of_ble_eq_true rfl) hF.2⟩) ⟨(zg_pre hU).1, zg_recv hK hI h_19 rfl, (zg_pre hU).2⟩ rfl rfl hsz rfl (lv_room (Nat.le_of_ble_eq_true rfl)) zd_Reader_readCertificate_48 hk) rfl ?_
  obtain ⟨h_22, hf⟩ := zx_ck hf
  obtain ⟨s_21, e_s_21, hf⟩ := zx_l hf
  refine zg_putJ (pc' := 54) (ci := 0) (ty := .long) hx hb htT zi_Certificate zy_Certificate zo_Certificate zj_Certificate hown hK h_22 rfl rfl 0 (by decide) (htT _ zt_181) (fun x9 h9 => u_same (htT _ zt_182) x9 h9) (Or.inl rfl) (by decide +kernel) rfl rfl rfl e_s_21 zd_Reader_readCertificate_51 rfl ?_
  refine zg_1 (pc' := 55) (fun _ _ _ _ _ hl w => lv_aload_n hx hb zd_Reader_readCertificate_54 rfl (lv_at hl 4 rfl) w) ?_
  refine zg_1 (pc' := 56) (fun _ _ _ _ _ hl w => lv_aload_n hx hb zd_Reader_readCertificate_55 rfl (lv_at hl 3 rfl) w) ?_
  refine zg_1 (pc' := 58) (fun _ _ _ _ _ hl w => lv_iload hx hb zd_Reader_readCertificate_56 (lv_at hl 0 rfl) w) ?_
  obtain ⟨h_24, hf⟩ := zx_ck hf
  obtain ⟨j_25, s_23, hq, hf⟩ := zx_b hf
  refine zg_call (pc' := 61) (y := s_23) (rv := (some (.long j_25))) (rest := [.ref (h0 + a1)]) X hR (zm_Reader_readInteger hq) (fun H locs ls k j hsz hI hU hk => va_runV (As := [.int i_12]) (rest := [.ref (h0 + a1)]) ⟨hx, hb, hml, hown, htT⟩ (zc_Reader_readInteger l h0 D dA tb n hq) (cwV 1 htT (zw_gV zt_527 zt_529 zt_8 zt_75 zt_530) rfl rfl rfl (by decide +kernel) ⟨Nat.le_trans (Nat.le_of_ble_eq_true rfl) hF.1, Nat.le_trans (Nat.le_of_ble_eq_true rfl) hF.2⟩) ⟨(zg_pre hU).1, zg_recv hK hI h_24 rfl, (zg_pre hU).2⟩ rfl rfl hsz rfl (lv_room (Nat.le_of_ble_eq_true rfl)) zd_Reader_readCertificate_58 hk) rfl ?_
  obtain ⟨h_27, hf⟩ := zx_ck hf
  obtain ⟨s_26, e_s_26, hf⟩ := zx_l hf
  refine zg_putJ (pc' := 64) (ci := 0) (ty := .long) hx hb htT zi_Certificate zy_Certificate zo_Certificate zj_Certificate hown hK h_27 rfl rfl 1 (by decide) (htT _ zt_191) (fun x9 h9 => u_same (htT _ zt_192) x9 h9) (Or.inl rfl) (by decide +kernel) rfl rfl rfl e_s_26 zd_Reader_readCertificate_61 rfl ?_
  refine zg_1 (pc' := 65) (fun _ _ _ _ _ hl w => lv_aload_n hx hb zd_Reader_readCertificate_64 rfl (lv_at hl 4 rfl) w) ?_
  refine zg_1 (pc' := 66) (fun _ _ _ _ _ hl w => lv_aload_n hx hb zd_Reader_readCertificate_65 rfl (lv_at hl 3 rfl) w) ?_
  refine zg_1 (pc' := 68) (fun _ _ _ _ _ hl w => lv_iload hx hb zd_Reader_readCertificate_66 (lv_at hl 0 rfl) w) ?_
  obtain ⟨h_29, hf⟩ := zx_ck hf
  obtain ⟨j_30, s_28, hq, hf⟩ := zx_b hf
  refine zg_call (pc' := 71) (y := s_28) (rv := (some (.long j_30))) (rest := [.ref (h0 + a1)]) X hR (zm_Reader_readInteger hq) (fun H locs ls k j hsz hI hU hk => va_runV (As := [.int i_12]) (rest := [.ref (h0 + a1)]) ⟨hx, hb, hml, hown, htT⟩ (zc_Reader_readInteger l h0 D dA tb n hq) (cwV 1 htT (zw_gV zt_527 zt_529 zt_8 zt_75 zt_530) rfl rfl rfl (by decide +kernel) ⟨Nat.le_trans (Nat.le_of_ble_eq_true rfl) hF.1, Nat.le_trans (Nat.le_of_ble_eq_true rfl) hF.2⟩) ⟨(zg_pre hU).1, zg_recv hK hI h_29 rfl, (zg_pre hU).2⟩ rfl rfl hsz rfl (lv_room (Nat.le_of_ble_eq_true rfl)) zd_Reader_readCertificate_68 hk) rfl ?_
  obtain ⟨h_32, hf⟩ := zx_ck hf
  obtain ⟨s_31, e_s_31, hf⟩ := zx_l hf
  refine zg_putJ (pc' := 74) (ci := 0) (ty := .long) hx hb htT zi_Certificate zy_Certificate zo_Certificate zj_Certificate hown hK h_32 rfl rfl 2 (by decide) (htT _ zt_199) (fun x9 h9 => u_same (htT _ zt_200) x9 h9) (Or.inl rfl) (by decide +kernel) rfl rfl rfl e_s_31 zd_Reader_readCertificate_71 rfl ?_
  refine zg_1 (pc' := 75) (fun _ _ _ _ _ hl w => lv_aload_n hx hb zd_Reader_readCertificate_74 rfl (lv_at hl 4 rfl) w) ?_
  refine zg_1 (pc' := 76) (fun _ _ _ _ _ hl w => lv_aload_n hx hb zd_Reader_readCertificate_75 rfl (lv_at hl 3 rfl) w) ?_
  refine zg_1 (pc' := 78) (fun _ _ _ _ _ hl w => lv_bipush (v := (19 : Int32)) hx hb zd_Reader_readCertificate_76 (by decide) w) ?_
  refine zg_1 (pc' := 80) (fun _ _ _ _ _ hl w => lv_iload hx hb zd_Reader_readCertificate_78 (lv_at hl 0 rfl) w) ?_
  obtain ⟨h_34, hf⟩ := zx_ck hf
  obtain ⟨j_35, s_33, hq, hf⟩ := zx_b hf
  refine zg_call (pc' := 83) (y := s_33) (rv := (some (.long j_35))) (rest := [.ref (h0 + a1)]) X hR (zm_Reader_readName hq) (fun H locs ls k j hsz hI hU hk => va_runV (As := [.int (19 : Int32), .int i_12]) (rest := [.ref (h0 + a1)]) ⟨hx, hb, hml, hown, htT⟩ (zc_Reader_readName l h0 D dA tb n hq) (cwV 2 htT (zw_gV zt_535 zt_537 zt_10 zt_75 zt_538) rfl rfl rfl (by decide +kernel) ⟨Nat.le_trans (Nat.le_of_ble_eq_true rfl) hF.1, Nat.le_trans (Nat.le_of_ble_eq_true rfl) hF.2⟩) ⟨(zg_pre hU).1, zg_recv hK hI h_34 rfl, (zg_pre hU).2⟩ rfl rfl hsz rfl (lv_room (Nat.le_of_ble_eq_true rfl)) zd_Reader_readCertificate_80 hk) rfl ?_
  obtain ⟨h_37, hf⟩ := zx_ck hf
  obtain ⟨s_36, e_s_36, hf⟩ := zx_l hf
  refine zg_putJ (pc' := 86) (ci := 0) (ty := .long) hx hb htT zi_Certificate zy_Certificate zo_Certificate zj_Certificate hown hK h_37 rfl rfl 7 (by decide) (htT _ zt_147) (fun _ h9 => h9) (Or.inl rfl) (by decide +kernel) rfl rfl rfl e_s_36 zd_Reader_readCertificate_83 rfl ?_
  refine zg_1 (pc' := 87) (fun _ _ _ _ _ hl w => lv_aload_n hx hb zd_Reader_readCertificate_86 rfl (lv_at hl 4 rfl) w) ?_
  refine zg_1 (pc' := 88) (fun _ _ _ _ _ hl w => lv_aload_n hx hb zd_Reader_readCertificate_87 rfl (lv_at hl 3 rfl) w) ?_
  refine zg_1 (pc' := 90) (fun _ _ _ _ _ hl w => lv_iload hx hb zd_Reader_readCertificate_88 (lv_at hl 0 rfl) w) ?_
  obtain ⟨h_39, hf⟩ := zx_ck hf
  obtain ⟨j_40, s_38, hq, hf⟩ := zx_b hf
  refine zg_call (pc' := 93) (y := s_38) (rv := (some (.long j_40))) (rest := [.ref (h0 + a1)]) X hR (zm_Reader_readInteger hq) (fun H locs ls k j hsz hI hU hk => va_runV (As := [.int i_12]) (rest := [.ref (h0 + a1)]) ⟨hx, hb, hml, hown, htT⟩ (zc_Reader_readInteger l h0 D dA tb n hq) (cwV 1 htT (zw_gV zt_527 zt_529 zt_8 zt_75 zt_530) rfl rfl rfl (by decide +kernel) ⟨Nat.le_trans (Nat.le_of_ble_eq_true rfl) hF.1, Nat.le_trans (Nat.le_of_ble_eq_true rfl) hF.2⟩) ⟨(zg_pre hU).1, zg_recv hK hI h_39 rfl, (zg_pre hU).2⟩ rfl rfl hsz rfl (lv_room (Nat.le_of_ble_eq_true rfl)) zd_Reader_readCertificate_90 hk) rfl ?_
  obtain ⟨h_42, hf⟩ := zx_ck hf
  obtain ⟨s_41, e_s_41, hf⟩ := zx_l hf
  refine zg_putJ (pc' := 96) (ci := 0) (ty := .long) hx hb htT zi_Certificate zy_Certificate zo_Certificate zj_Certificate hown hK h_42 rfl rfl 8 (by decide) (htT _ zt_151) (fun _ h9 => h9) (Or.inl rfl) (by decide +kernel) rfl rfl rfl e_s_41 zd_Reader_readCertificate_93 rfl ?_
  refine zg_1 (pc' := 97) (fun _ _ _ _ _ hl w => lv_aload_n hx hb zd_Reader_readCertificate_96 rfl (lv_at hl 4 rfl) w) ?_
  refine zg_1 (pc' := 98) (fun _ _ _ _ _ hl w => lv_aload_n hx hb zd_Reader_readCertificate_97 rfl (lv_at hl 3 rfl) w) ?_
  refine zg_1 (pc' := 100) (fun _ _ _ _ _ hl w => lv_iload hx hb zd_Reader_readCertificate_98 (lv_at hl 0 rfl) w) ?_
  obtain ⟨h_44, hf⟩ := zx_ck hf
  obtain ⟨j_45, s_43, hq, hf⟩ := zx_b hf
  refine zg_call (pc' := 103) (y := s_43) (rv := (some (.long j_45))) (rest := [.ref (h0 + a1)]) X hR (zm_Reader_readInteger hq) (fun H locs ls k j hsz hI hU hk => va_runV (As := [.int i_12]) (rest := [.ref (h0 + a1)]) ⟨hx, hb, hml, hown, htT⟩ (zc_Reader_readInteger l h0 D dA tb n hq) (cwV 1 htT (zw_gV zt_527 zt_529 zt_8 zt_75 zt_530) rfl rfl rfl (by decide +kernel) ⟨Nat.le_trans (Nat.le_of_ble_eq_true rfl) hF.1, Nat.le_trans (Nat.le_of_ble_eq_true rfl) hF.2⟩) ⟨(zg_pre hU).1, zg_recv hK hI h_44 rfl, (zg_pre hU).2⟩ rfl rfl hsz rfl (lv_room (Nat.le_of_ble_eq_true rfl)) zd_Reader_readCertificate_100 hk) rfl ?_
  obtain ⟨h_47, hf⟩ := zx_ck hf
  obtain ⟨s_46, e_s_46, hf⟩ := zx_l hf
  refine zg_putJ (pc' := 106) (ci := 0) (ty := .long) hx hb htT zi_Certificate zy_Certificate zo_Certificate zj_Certificate hown hK h_47 rfl rfl 9 (by decide) (htT _ zt_154) (fun _ h9 => h9) (Or.inl rfl) (by decide +kernel) rfl rfl rfl e_s_46 zd_Reader_readCertificate_103 rfl ?_
  refine zg_1 (pc' := 107) (fun _ _ _ _ _ hl w => lv_aload_n hx hb zd_Reader_readCertificate_106 rfl (lv_at hl 3 rfl) w) ?_
  refine zg_1 (pc' := 109) (fun _ _ _ _ _ hl w => lv_bipush (v := (48 : Int32)) hx hb zd_Reader_readCertificate_107 (by decide) w) ?_
  refine zg_1 (pc' := 111) (fun _ _ _ _ _ hl w => lv_iload hx hb zd_Reader_readCertificate_109 (lv_at hl 0 rfl) w) ?_
  obtain ⟨h_48, hf⟩ := zx_ck hf
  obtain ⟨i_49, hq, hf⟩ := zx_p hf
  refine zg_call (pc' := 114) (y := s_46) (rv := (some (.int i_49))) (rest := []) X hR ⟨Nat.le_refl _, Nat.le_refl _⟩ (fun H locs ls k j hsz hI hU hk => va_runV (As := [.int (48 : Int32), .int i_12]) (rest := []) ⟨hx, hb, hml, hown, htT⟩ (zc_Reader_isNext l h0 D dA tb n hq) (cwV 2 htT (zw_gV zt_543 zt_545 zt_11 zt_75 zt_546) rfl rfl rfl (by decide +kernel) ⟨Nat.le_trans (Nat.le_of_ble_eq_true rfl) hF.1, Nat.le_trans (Nat.le_of_ble_eq_true rfl) hF.2⟩) ⟨(zg_pre hU).1, zg_recv hK hI h_48 rfl, (zg_pre hU).2⟩ rfl rfl hsz rfl (lv_room (Nat.le_of_ble_eq_true rfl)) zd_Reader_readCertificate_111 hk) rfl ?_
  refine zg_2 (pc1 := 124) (pc2 := 117) (Classical.em _) (fun _ _ _ _ _ w1 w2 => lv_if_eq hx hb zd_Reader_readCertificate_114 (by decide) w1 w2) (fun hc => ?_) (fun hc => ?_)
  · rw [if_pos hc] at hf
    refine zg_v [3, 4, 2, 1, 0] rfl ?_
    exact zw_Reader_readCertificate_124 X hR hF hret n s_46 a0 a1 i_8 i_10 i_12 hf
  · rw [if_neg hc] at hf
    refine zg_1 (pc' := 118) (fun _ _ _ _ _ hl w => lv_aload_n hx hb zd_Reader_readCertificate_117 rfl (lv_at hl 3 rfl) w) ?_
    refine zg_1 (pc' := 119) (fun _ _ _ _ _ hl w => lv_aload_n hx hb zd_Reader_readCertificate_118 rfl (lv_at hl 4 rfl) w) ?_
    refine zg_1 (pc' := 121) (fun _ _ _ _ _ hl w => lv_iload hx hb zd_Reader_readCertificate_119 (lv_at hl 0 rfl) w) ?_
    obtain ⟨s_50, hq, hf⟩ := zx_p hf
    refine zg_call (pc' := 124) (y := s_50) (rv := none) (rest := []) X hR (zm_Reader_readExtensions hq) (fun H locs ls k j hsz hI hU hk => va_runV (As := [.ref (h0 + a1), .int i_12]) (rest := []) ⟨hx, hb, hml, hown, htT⟩ (zc_Reader_readExtensions l h0 D dA tb n hq) (cwV 2 htT (zw_gV zt_547 zt_549 zt_12 zt_75 zt_550) rfl rfl rfl (by decide +kernel) ⟨Nat.le_trans (Nat.le_of_ble_eq_true rfl) hF.1, Nat.le_trans (Nat.le_of_ble_eq_true rfl) hF.2⟩) ⟨(zg_pre hU).1, zg_recv hK hI h_48 rfl, (zg_pre hU).2⟩ rfl rfl hsz rfl (lv_room (Nat.le_of_ble_eq_true rfl)) zd_Reader_readCertificate_121 hk) rfl ?_
    refine zg_v [3, 4, 2, 1, 0] rfl ?_
    exact zw_Reader_readCertificate_124 X hR hF hret n s_50 a0 a1 i_8 i_10 i_12 hf
