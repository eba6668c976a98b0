set_option maxHeartbeats 4000000 in
theorem zc_V_compose (l : Launch) (h0 : Nat) (D : va_G) (dA : Nat → ClassId) (tb : Nat → Nat) (n : Nat) {s0 : zh_S} {a0 : Nat} {r : Int32} {z : zh_S} (hf : zf_V_compose n s0 a0 = some (r, z)) : zc_M l zn_V_compose zs_V_compose 6 160 h0 D dA tb [.ref (h0 + a0)] s0 (some (.int r)) z := by
  rw [zf_V_compose] at hf
  refine zc_of (cc := ze_V_compose) (maxL := 1) (ret := (some .int)) (lv := [(0, .ref (h0 + a0))]) (by decide) rfl (Nat.le_of_ble_eq_true rfl) rfl ?_
  intro p e s m args below meth c X hnm
  obtain ⟨hx, hb, hml, hown, htT, hrt, hlk, x00, hIn⟩ := id X
  have hK := hIn.2.1
  have hT := hIn.2.2.1
  have hNe := hIn.2.2.2
  have hR : zg_R { frames := 6, cells := zh_N z - zh_N s0, slots := zh_M z - zh_M s0, locals := 160 } (zh_N s0) (zh_M s0) z := ⟨by show zh_N z ≤ zh_N s0 + (zh_N z - zh_N s0); omega, by show zh_M z ≤ zh_M s0 + (zh_M z - zh_M s0); omega⟩
  have hF : 6 ≤ ({ frames := 6, cells := zh_N z - zh_N s0, slots := zh_M z - zh_M s0, locals := 160 } : Room).frames ∧ 160 ≤ ({ frames := 6, cells := zh_N z - zh_N s0, slots := zh_M z - zh_M s0, locals := 160 } : Room).locals := ⟨Nat.le_refl _, Nat.le_refl _⟩
  have hret := fun (pc : Nat) (lv : List (Nat × Value)) (hd : decode ze_V_compose pc = .ok (.ireturn, 1)) => zg_iret (R := { frames := 6, cells := zh_N z - zh_N s0, slots := zh_M z - zh_M s0, locals := 160 }) (l := l) (e := e) (below := below) (c0 := zh_N s0) (s0 := zh_M s0) (z := z) (lv := lv) (v := r) X rfl hd
  refine zg_1 (pc' := 1) (fun _ _ _ _ _ hl w => lv_aload_n hx hb zd_V_compose_0 rfl (lv_at hl 0 rfl) w) ?_
  obtain ⟨h_1, hf⟩ := zx_ck hf
  obtain ⟨a_2, h_3, hf⟩ := zx_p hf
  refine zg_get (pc' := 4) (ci := 7) hx hb htT zi_V hown hK h_1 rfl rfl 1 (by decide) (htT _ zt_303) (fun _ h9 => h9) (zx_hv h_3) zd_V_compose_1 rfl ?_
  refine zg_1 (pc' := 5) (fun _ _ _ _ _ hl w => lv_aload_n hx hb zd_V_compose_4 rfl (lv_at hl 0 rfl) w) ?_
  obtain ⟨a_4, h_5, hf⟩ := zx_p hf
  refine zg_get (pc' := 8) (ci := 7) hx hb htT zi_V hown hK h_1 rfl rfl 0 (by decide) (htT _ zt_302) (fun _ h9 => h9) (zx_hv h_5) zd_V_compose_5 rfl ?_
  obtain ⟨h_7, hf⟩ := zx_ck hf
  obtain ⟨i_8, s_6, hq, hf⟩ := zx_b hf
  refine zg_call (pc' := 11) (y := s_6) (rv := (some (.int i_8))) (rest := []) X hR (zm_Tool_writeCertificate hq) (fun H locs ls k j hsz hI hU hk => va_runV (As := [.ref (h0 + a_4)]) (rest := []) ⟨hx, hb, hml, hown, htT⟩ (zc_Tool_writeCertificate l h0 D dA tb n hq) (cwV 1 htT (zw_gV zt_393 zt_394 zt_395 zt_66 zt_396) rfl rfl rfl (by decide +kernel) ⟨Nat.le_trans (Nat.le_of_ble_eq_true rfl) hF.1, Nat.le_trans (Nat.le_of_ble_eq_true rfl) hF.2⟩) ⟨(zg_pre hU).1, zg_recv hK hI h_7 rfl, (zg_pre hU).2⟩ rfl rfl hsz rfl (lv_room (Nat.le_of_ble_eq_true rfl)) zd_V_compose_8 hk) rfl ?_
  obtain ⟨rfl, rfl⟩ := zx_r2 hf
  exact hret _ _ zd_V_compose_11
set_option maxHeartbeats 4000000 in
theorem zc_M_yes (l : Launch) (h0 : Nat) (D : va_G) (dA : Nat → ClassId) (tb : Nat → Nat) (n : Nat) {s0 : zh_S} {a0 : Nat} {z : zh_S} (hf : zf_M_yes n s0 a0 = some z) : zc_M l zn_M_yes zs_M_yes 1 21 h0 D dA tb [.ref (h0 + a0)] s0 none z := by
  rw [zf_M_yes] at hf
  refine zc_of (cc := ze_M_yes) (maxL := 1) (ret := none) (lv := [(0, .ref (h0 + a0))]) (by decide) rfl (Nat.le_of_ble_eq_true rfl) rfl ?_
  intro p e s m args below meth c X hnm
  obtain ⟨hx, hb, hml, hown, htT, hrt, hlk, x00, hIn⟩ := id X
  have hK := hIn.2.1
  have hT := hIn.2.2.1
  have hNe := hIn.2.2.2
  have hR : zg_R { frames := 1, cells := zh_N z - zh_N s0, slots := zh_M z - zh_M s0, locals := 21 } (zh_N s0) (zh_M s0) z := ⟨by show zh_N z ≤ zh_N s0 + (zh_N z - zh_N s0); omega, by show zh_M z ≤ zh_M s0 + (zh_M z - zh_M s0); omega⟩
  have hF : 1 ≤ ({ frames := 1, cells := zh_N z - zh_N s0, slots := zh_M z - zh_M s0, locals := 21 } : Room).frames ∧ 21 ≤ ({ frames := 1, cells := zh_N z - zh_N s0, slots := zh_M z - zh_M s0, locals := 21 } : Room).locals := ⟨Nat.le_refl _, Nat.le_refl _⟩
  have hret := fun (pc : Nat) (lv : List (Nat × Value)) (hd : decode ze_M_yes pc = .ok (.return_, 1)) => zg_vret (R := { frames := 1, cells := zh_N z - zh_N s0, slots := zh_M z - zh_M s0, locals := 21 }) (l := l) (e := e) (below := below) (c0 := zh_N s0) (s0 := zh_M s0) (z := z) (lv := lv) X hd
  refine zg_1 (pc' := 1) (fun _ _ _ _ _ hl w => lv_aload_n hx hb zd_M_yes_0 rfl (lv_at hl 0 rfl) w) ?_
  refine zg_1 (pc' := 2) (fun _ _ _ _ _ hl w => lv_iconst (v := (1 : Int32)) hx hb zd_M_yes_1 (by decide) w) ?_
  obtain ⟨h_2, hf⟩ := zx_ck hf
  obtain ⟨s_1, hq, hf⟩ := zx_p hf
  refine zg_call (pc' := 5) (y := s_1) (rv := none) (rest := []) X hR (zm_M_add hq) (fun H locs ls k j hsz hI hU hk => va_runV (As := [.int (1 : Int32)]) (rest := []) ⟨hx, hb, hml, hown, htT⟩ (zc_M_add l h0 D dA tb n hq) (cwV 1 htT (zw_gV zt_960 zt_962 zt_31 zt_71 zt_963) rfl rfl rfl (by decide +kernel) ⟨Nat.le_trans (Nat.le_of_ble_eq_true rfl) hF.1, Nat.le_trans (Nat.le_of_ble_eq_true rfl) hF.2⟩) ⟨(zg_pre hU).1, zg_recv hK hI h_2 rfl, (zg_pre hU).2⟩ rfl rfl hsz rfl (lv_room (Nat.le_of_ble_eq_true rfl)) zd_M_yes_2 hk) rfl ?_
  refine zg_1 (pc' := 6) (fun _ _ _ _ _ hl w => lv_aload_n hx hb zd_M_yes_5 rfl (lv_at hl 0 rfl) w) ?_
  refine zg_1 (pc' := 7) (fun _ _ _ _ _ hl w => lv_iconst (v := (1 : Int32)) hx hb zd_M_yes_6 (by decide) w) ?_
  obtain ⟨h_4, hf⟩ := zx_ck hf
  obtain ⟨s_3, hq, hf⟩ := zx_p hf
  refine zg_call (pc' := 10) (y := s_3) (rv := none) (rest := []) X hR (zm_M_add hq) (fun H locs ls k j hsz hI hU hk => va_runV (As := [.int (1 : Int32)]) (rest := []) ⟨hx, hb, hml, hown, htT⟩ (zc_M_add l h0 D dA tb n hq) (cwV 1 htT (zw_gV zt_960 zt_962 zt_31 zt_71 zt_963) rfl rfl rfl (by decide +kernel) ⟨Nat.le_trans (Nat.le_of_ble_eq_true rfl) hF.1, Nat.le_trans (Nat.le_of_ble_eq_true rfl) hF.2⟩) ⟨(zg_pre hU).1, zg_recv hK hI h_4 rfl, (zg_pre hU).2⟩ rfl rfl hsz rfl (lv_room (Nat.le_of_ble_eq_true rfl)) zd_M_yes_7 hk) rfl ?_
  refine zg_1 (pc' := 11) (fun _ _ _ _ _ hl w => lv_aload_n hx hb zd_M_yes_10 rfl (lv_at hl 0 rfl) w) ?_
  refine zg_1 (pc' := 14) (fun _ _ _ _ _ hl w => lv_sipush (v := (255 : Int32)) hx hb zd_M_yes_11 (by decide) w) ?_
  obtain ⟨h_6, hf⟩ := zx_ck hf
  obtain ⟨s_5, hq, hf⟩ := zx_p hf
  refine zg_call (pc' := 17) (y := s_5) (rv := none) (rest := []) X hR (zm_M_add hq) (fun H locs ls k j hsz hI hU hk => va_runV (As := [.int (255 : Int32)]) (rest := []) ⟨hx, hb, hml, hown, htT⟩ (zc_M_add l h0 D dA tb n hq) (cwV 1 htT (zw_gV zt_960 zt_962 zt_31 zt_71 zt_963) rfl rfl rfl (by decide +kernel) ⟨Nat.le_trans (Nat.le_of_ble_eq_true rfl) hF.1, Nat.le_trans (Nat.le_of_ble_eq_true rfl) hF.2⟩) ⟨(zg_pre hU).1, zg_recv hK hI h_6 rfl, (zg_pre hU).2⟩ rfl rfl hsz rfl (lv_room (Nat.le_of_ble_eq_true rfl)) zd_M_yes_14 hk) rfl ?_
  obtain rfl := zx_r1 hf
  exact hret _ _ zd_M_yes_17
set_option maxHeartbeats 4000000 in
theorem zc_M_open (l : Launch) (h0 : Nat) (D : va_G) (dA : Nat → ClassId) (tb : Nat → Nat) (n : Nat) {s0 : zh_S} {a0 : Nat} {i1 : Int32} {i2 : Int32} {r : Int32} {z : zh_S} (hf : zf_M_open n s0 a0 i1 i2 = some (r, z)) : zc_M l zn_M_open zs_M_open 2 45 h0 D dA tb [.ref (h0 + a0), .int i1, .int i2] s0 (some (.int r)) z := by
  rw [zf_M_open] at hf
  refine zc_of (cc := ze_M_open) (maxL := 4) (ret := (some .int)) (lv := [(0, .ref (h0 + a0)), (1, .int i1), (2, .int i2)]) (by decide) rfl (Nat.le_of_ble_eq_true rfl) rfl ?_
  intro p e s m args below meth c X hnm
  obtain ⟨hx, hb, hml, hown, htT, hrt, hlk, x00, hIn⟩ := id X
  have hK := hIn.2.1
  have hT := hIn.2.2.1
  have hNe := hIn.2.2.2
  have hR : zg_R { frames := 2, cells := zh_N z - zh_N s0, slots := zh_M z - zh_M s0, locals := 45 } (zh_N s0) (zh_M s0) z := ⟨by show zh_N z ≤ zh_N s0 + (zh_N z - zh_N s0); omega, by show zh_M z ≤ zh_M s0 + (zh_M z - zh_M s0); omega⟩
  have hF : 2 ≤ ({ frames := 2, cells := zh_N z - zh_N s0, slots := zh_M z - zh_M s0, locals := 45 } : Room).frames ∧ 45 ≤ ({ frames := 2, cells := zh_N z - zh_N s0, slots := zh_M z - zh_M s0, locals := 45 } : Room).locals := ⟨Nat.le_refl _, Nat.le_refl _⟩
  have hret := fun (pc : Nat) (lv : List (Nat × Value)) (hd : decode ze_M_open pc = .ok (.ireturn, 1)) => zg_iret (R := { frames := 2, cells := zh_N z - zh_N s0, slots := zh_M z - zh_M s0, locals := 45 }) (l := l) (e := e) (below := below) (c0 := zh_N s0) (s0 := zh_M s0) (z := z) (lv := lv) (v := r) X rfl hd
  refine zg_1 (pc' := 1) (fun _ _ _ _ _ hl w => lv_aload_n hx hb zd_M_open_0 rfl (lv_at hl 0 rfl) w) ?_
  obtain ⟨h_1, hf⟩ := zx_ck hf
  refine zg_get (pc' := 4) (ci := 8) hx hb htT zi_M hown hK h_1 rfl rfl 1 (by decide) (htT _ zt_806) (fun _ h9 => h9) rfl zd_M_open_1 rfl ?_
  obtain ⟨i_2, e_i_2, hf⟩ := zx_l hf
  refine zg_ti e_i_2 ?_
  refine zg_s (pc' := 5) (lv' := [(3, .int i_2), (0, .ref (h0 + a0)), (1, .int i1), (2, .int i2)]) (fun _ _ _ _ _ hl w => lv_istore_n hx hb zd_M_open_4 rfl hl (by decide) rfl w) ?_
  refine zg_1 (pc' := 6) (fun _ _ _ _ _ hl w => lv_aload_n hx hb zd_M_open_5 rfl (lv_at hl 1 rfl) w) ?_
  refine zg_1 (pc' := 7) (fun _ _ _ _ _ hl w => lv_iload_n hx hb zd_M_open_6 rfl (lv_at hl 2 rfl) w) ?_
  refine zg_1 (pc' := 8) (fun _ _ _ _ _ hl w => lv_i2l (v := i1.toInt64) hx hb zd_M_open_7 rfl w) ?_
  obtain ⟨s_3, hq, hf⟩ := zx_p hf
  refine zg_call (pc' := 11) (y := s_3) (rv := none) (rest := []) X hR (zm_M_integer hq) (fun H locs ls k j hsz hI hU hk => va_runV (As := [.long (i1.toInt64)]) (rest := []) ⟨hx, hb, hml, hown, htT⟩ (zc_M_integer l h0 D dA tb n hq) (cwV 1 htT (zw_gV zt_956 zt_958 zt_30 zt_71 zt_959) rfl rfl rfl (by decide +kernel) ⟨Nat.le_trans (Nat.le_of_ble_eq_true rfl) hF.1, Nat.le_trans (Nat.le_of_ble_eq_true rfl) hF.2⟩) ⟨(zg_pre hU).1, zg_recv hK hI h_1 rfl, (zg_pre hU).2⟩ rfl rfl hsz rfl (lv_room (Nat.le_of_ble_eq_true rfl)) zd_M_open_8 hk) rfl ?_
  refine zg_1 (pc' := 12) (fun _ _ _ _ _ hl w => lv_iload_n hx hb zd_M_open_11 rfl (lv_at hl 3 rfl) w) ?_
  refine zg_2 (pc1 := 19) (pc2 := 15) (Classical.em _) (fun _ _ _ _ _ w1 w2 => lv_if_eq hx hb zd_M_open_12 (by decide) w1 w2) (fun hc => ?_) (fun hc => ?_)
  · rw [if_pos hc] at hf
    refine zg_1 (pc' := 20) (fun _ _ _ _ _ hl w => lv_iload_n hx hb zd_M_open_19 rfl (lv_at hl 0 rfl) w) ?_
    obtain ⟨rfl, rfl⟩ := zx_r2 hf
    exact hret _ _ zd_M_open_20
  · rw [if_neg hc] at hf
    refine zg_1 (pc' := 16) (fun _ _ _ _ _ hl w => lv_aload_n hx hb zd_M_open_15 rfl (lv_at hl 1 rfl) w) ?_
    obtain ⟨h_5, hf⟩ := zx_ck hf
    obtain ⟨s_4, hq, hf⟩ := zx_p hf
    refine zg_call (pc' := 19) (y := s_4) (rv := none) (rest := []) X hR (zm_M_yes hq) (fun H locs ls k j hsz hI hU hk => va_runV (As := []) (rest := []) ⟨hx, hb, hml, hown, htT⟩ (zc_M_yes l h0 D dA tb n hq) (cwV 0 htT (zw_gV zt_976 zt_978 zt_35 zt_71 zt_979) rfl rfl rfl (by decide +kernel) ⟨Nat.le_trans (Nat.le_of_ble_eq_true rfl) hF.1, Nat.le_trans (Nat.le_of_ble_eq_true rfl) hF.2⟩) ⟨(zg_pre hU).1, zg_recv hK hI h_5 rfl, (zg_pre hU).2⟩ rfl rfl hsz rfl (lv_room (Nat.le_of_ble_eq_true rfl)) zd_M_open_16 hk) rfl ?_
    refine zg_1 (pc' := 20) (fun _ _ _ _ _ hl w => lv_iload_n hx hb zd_M_open_19 rfl (lv_at hl 0 rfl) w) ?_
    obtain ⟨rfl, rfl⟩ := zx_r2 hf
    exact hret _ _ zd_M_open_20
set_option maxHeartbeats 4000000 in
theorem zw_M_extensions_288 {p : Program} {l : Launch} {e : Env} {R : Room} {s : State} {m : MethodId} {args : Array Value} {below : List Frame} {meth : Method} {c : Code} {Q : State → Prop} {h0 : Nat} {D : va_G} {dA : Nat → ClassId} {tb : Nat → Nat} {c0 k0 : Nat} {z : zh_S} (X : zg_X p s m args meth c ze_M_extensions 4 zr_M none h0 D dA tb) (hR : zg_R R c0 k0 z) (hF : 3 ≤ R.frames ∧ 68 ≤ R.locals) (hret : ∀ (pc : Nat) (lv : List (Nat × Value)), decode ze_M_extensions pc = .ok (.return_, 1) → zg_G p l e R s m args below meth c Q h0 D dA 4 c0 k0 z z pc lv []) (n : Nat) : ∀ (s0 : zh_S) (a0 : Nat) (i1 : Int32), zb_M_extensions_288 n s0 a0 i1 = some z → zg_G p l e R s m args below meth c Q h0 D dA 4 c0 k0 z s0 288 [(0, .ref (h0 + a0)), (1, .int i1)] [] := by
  obtain ⟨hx, hb, hml, hown, htT, hrt, hlk, x00, hIn⟩ := id X
  have hK := hIn.2.1
  have hT := hIn.2.2.1
  have hNe := hIn.2.2.2
  intro s0 a0 i1 hf
  rw [zb_M_extensions_288] at hf
  refine zg_1 (pc' := 289) (fun _ _ _ _ _ hl w => lv_aload_n hx hb zd_M_extensions_288 rfl (lv_at hl 0 rfl) w) ?_
  obtain ⟨h_1, hf⟩ := zx_ck hf
  refine zg_get (pc' := 292) (ci := 8) hx hb htT zi_M hown hK h_1 rfl rfl 1 (by decide) (htT _ zt_806) (fun _ h9 => h9) rfl zd_M_extensions_289 rfl ?_
  refine zg_1 (pc' := 293) (fun _ _ _ _ _ hl w => lv_iload_n hx hb zd_M_extensions_292 rfl (lv_at hl 1 rfl) w) ?_
  refine zg_2 (pc1 := 303) (pc2 := 296) (Classical.em _) (fun _ _ _ _ _ w1 w2 => lv_icmp_le hx hb zd_M_extensions_293 (by decide) w1 w2) (fun hc => ?_) (fun hc => ?_)
  · rw [if_pos hc] at hf
    obtain rfl := zx_r1 hf
    exact hret _ _ zd_M_extensions_303
  · rw [if_neg hc] at hf
    refine zg_1 (pc' := 297) (fun _ _ _ _ _ hl w => lv_aload_n hx hb zd_M_extensions_296 rfl (lv_at hl 0 rfl) w) ?_
    refine zg_1 (pc' := 298) (fun _ _ _ _ _ hl w => lv_iload_n hx hb zd_M_extensions_297 rfl (lv_at hl 1 rfl) w) ?_
    refine zg_1 (pc' := 300) (fun _ _ _ _ _ hl w => lv_bipush (v := (48 : Int32)) hx hb zd_M_extensions_298 (by decide) w) ?_
    obtain ⟨s_2, hq, hf⟩ := zx_p hf
    refine zg_call (pc' := 303) (y := s_2) (rv := none) (rest := []) X hR (zm_M_wrap hq) (fun H locs ls k j hsz hI hU hk => va_runV (As := [.int i1, .int (48 : Int32)]) (rest := []) ⟨hx, hb, hml, hown, htT⟩ (zc_M_wrap l h0 D dA tb n hq) (cwV 2 htT (zw_gV zt_980 zt_982 zt_36 zt_71 zt_983) rfl rfl rfl (by decide +kernel) ⟨Nat.le_trans (Nat.le_of_ble_eq_true rfl) hF.1, Nat.le_trans (Nat.le_of_ble_eq_true rfl) hF.2⟩) ⟨(zg_pre hU).1, zg_recv hK hI h_1 rfl, (zg_pre hU).2⟩ rfl rfl hsz rfl (lv_room (Nat.le_of_ble_eq_true rfl)) zd_M_extensions_300 hk) rfl ?_
    obtain rfl := zx_r1 hf
    exact hret _ _ zd_M_extensions_303
set_option maxHeartbeats 4000000 in
theorem zw_M_extensions_267 {p : Program} {l : Launch} {e : Env} {R : Room} {s : State} {m : MethodId} {args : Array Value} {below : List Frame} {meth : Method} {c : Code} {Q : State → Prop} {h0 : Nat} {D : va_G} {dA : Nat → ClassId} {tb : Nat → Nat} {c0 k0 : Nat} {z : zh_S} (X : zg_X p s m args meth c ze_M_extensions 4 zr_M none h0 D dA tb) (hR : zg_R R c0 k0 z) (hF : 3 ≤ R.frames ∧ 68 ≤ R.locals) (hret : ∀ (pc : Nat) (lv : List (Nat × Value)), decode ze_M_extensions pc = .ok (.return_, 1) → zg_G p l e R s m args below meth c Q h0 D dA 4 c0 k0 z z pc lv []) (n : Nat) : ∀ (s0 : zh_S) (a0 : Nat) (i1 : Int32) (at0 : Nat) (it1 : Int32) (it2 : Int32), zb_M_extensions_267 n s0 a0 i1 at0 it1 it2 = some z → zg_G p l e R s m args below meth c Q h0 D dA 4 c0 k0 z s0 267 [(0, .ref (h0 + a0)), (1, .int i1)] [.int it2, .int it1, .ref (h0 + at0)] := by
  obtain ⟨hx, hb, hml, hown, htT, hrt, hlk, x00, hIn⟩ := id X
  have hK := hIn.2.1
  have hT := hIn.2.2.1
  have hNe := hIn.2.2.2
  intro s0 a0 i1 at0 it1 it2 hf
  rw [zb_M_extensions_267] at hf
  obtain ⟨h_2, hf⟩ := zx_ck hf
  obtain ⟨i_3, s_1, hq, hf⟩ := zx_b hf
  refine zg_call (pc' := 270) (y := s_1) (rv := (some (.int i_3))) (rest := []) X hR (zm_M_open hq) (fun H locs ls k j hsz hI hU hk => va_runV (As := [.int it1, .int it2]) (rest := []) ⟨hx, hb, hml, hown, htT⟩ (zc_M_open l h0 D dA tb n hq) (cwV 2 htT (zw_gV zt_972 zt_974 zt_34 zt_71 zt_975) rfl rfl rfl (by decide +kernel) ⟨Nat.le_trans (Nat.le_of_ble_eq_true rfl) hF.1, Nat.le_trans (Nat.le_of_ble_eq_true rfl) hF.2⟩) ⟨(zg_pre hU).1, zg_recv hK hI h_2 rfl, (zg_pre hU).2⟩ rfl rfl hsz rfl (lv_room (Nat.le_of_ble_eq_true rfl)) zd_M_extensions_267 hk) rfl ?_
  refine zg_s (pc' := 271) (lv' := [(2, .int i_3), (0, .ref (h0 + a0)), (1, .int i1)]) (fun _ _ _ _ _ hl w => lv_istore_n hx hb zd_M_extensions_270 rfl hl (by decide) rfl w) ?_
  refine zg_1 (pc' := 272) (fun _ _ _ _ _ hl w => lv_aload_n hx hb zd_M_extensions_271 rfl (lv_at hl 1 rfl) w) ?_
  refine zg_1 (pc' := 273) (fun _ _ _ _ _ hl w => lv_iconst (v := (4 : Int32)) hx hb zd_M_extensions_272 (by decide) w) ?_
  obtain ⟨h_5, hf⟩ := zx_ck hf
  obtain ⟨s_4, hq, hf⟩ := zx_p hf
  refine zg_call (pc' := 276) (y := s_4) (rv := none) (rest := []) X hR (zm_M_add hq) (fun H locs ls k j hsz hI hU hk => va_runV (As := [.int (4 : Int32)]) (rest := []) ⟨hx, hb, hml, hown, htT⟩ (zc_M_add l h0 D dA tb n hq) (cwV 1 htT (zw_gV zt_960 zt_962 zt_31 zt_71 zt_963) rfl rfl rfl (by decide +kernel) ⟨Nat.le_trans (Nat.le_of_ble_eq_true rfl) hF.1, Nat.le_trans (Nat.le_of_ble_eq_true rfl) hF.2⟩) ⟨(zg_pre hU).1, zg_recv hK hI h_5 rfl, (zg_pre hU).2⟩ rfl rfl hsz rfl (lv_room (Nat.le_of_ble_eq_true rfl)) zd_M_extensions_273 hk) rfl ?_
  refine zg_1 (pc' := 277) (fun _ _ _ _ _ hl w => lv_aload_n hx hb zd_M_extensions_276 rfl (lv_at hl 1 rfl) w) ?_
  refine zg_1 (pc' := 278) (fun _ _ _ _ _ hl w => lv_iconst (v := (0 : Int32)) hx hb zd_M_extensions_277 (by decide) w) ?_
  obtain ⟨h_7, hf⟩ := zx_ck hf
  obtain ⟨s_6, hq, hf⟩ := zx_p hf
  refine zg_call (pc' := 281) (y := s_6) (rv := none) (rest := []) X hR (zm_M_add hq) (fun H locs ls k j hsz hI hU hk => va_runV (As := [.int (0 : Int32)]) (rest := []) ⟨hx, hb, hml, hown, htT⟩ (zc_M_add l h0 D dA tb n hq) (cwV 1 htT (zw_gV zt_960 zt_962 zt_31 zt_71 zt_963) rfl rfl rfl (by decide +kernel) ⟨Nat.le_trans (Nat.le_of_ble_eq_true rfl) hF.1, Nat.le_trans (Nat.le_of_ble_eq_true rfl) hF.2⟩) ⟨(zg_pre hU).1, zg_recv hK hI h_7 rfl, (zg_pre hU).2⟩ rfl rfl hsz rfl (lv_room (Nat.le_of_ble_eq_true rfl)) zd_M_extensions_278 hk) rfl ?_
  refine zg_1 (pc' := 282) (fun _ _ _ _ _ hl w => lv_aload_n hx hb zd_M_extensions_281 rfl (lv_at hl 1 rfl) w) ?_
  refine zg_1 (pc' := 283) (fun _ _ _ _ _ hl w => lv_iload_n hx hb zd_M_extensions_282 rfl (lv_at hl 0 rfl) w) ?_
  refine zg_1 (pc' := 285) (fun _ _ _ _ _ hl w => lv_bipush (v := (48 : Int32)) hx hb zd_M_extensions_283 (by decide) w) ?_
  obtain ⟨h_9, hf⟩ := zx_ck hf
  obtain ⟨s_8, hq, hf⟩ := zx_p hf
  refine zg_call (pc' := 288) (y := s_8) (rv := none) (rest := []) X hR (zm_M_wrap hq) (fun H locs ls k j hsz hI hU hk => va_runV (As := [.int i_3, .int (48 : Int32)]) (rest := []) ⟨hx, hb, hml, hown, htT⟩ (zc_M_wrap l h0 D dA tb n hq) (cwV 2 htT (zw_gV zt_980 zt_982 zt_36 zt_71 zt_983) rfl rfl rfl (by decide +kernel) ⟨Nat.le_trans (Nat.le_of_ble_eq_true rfl) hF.1, Nat.le_trans (Nat.le_of_ble_eq_true rfl) hF.2⟩) ⟨(zg_pre hU).1, zg_recv hK hI h_9 rfl, (zg_pre hU).2⟩ rfl rfl hsz rfl (lv_room (Nat.le_of_ble_eq_true rfl)) zd_M_extensions_285 hk) rfl ?_
  refine zg_v [1, 2] rfl ?_
  exact zw_M_extensions_288 X hR hF hret n s_8 a0 i1 hf
set_option maxHeartbeats 4000000 in
theorem zw_M_extensions_233 {p : Program} {l : Launch} {e : Env} {R : Room} {s : State} {m : MethodId} {args : Array Value} {below : List Frame} {meth : Method} {c : Code} {Q : State → Prop} {h0 : Nat} {D : va_G} {dA : Nat → ClassId} {tb : Nat → Nat} {c0 k0 : Nat} {z : zh_S} (X : zg_X p s m args meth c ze_M_extensions 4 zr_M none h0 D dA tb) (hR : zg_R R c0 k0 z) (hF : 3 ≤ R.frames ∧ 68 ≤ R.locals) (hret : ∀ (pc : Nat) (lv : List (Nat × Value)), decode ze_M_extensions pc = .ok (.return_, 1) → zg_G p l e R s m args below meth c Q h0 D dA 4 c0 k0 z z pc lv []) (n : Nat) : ∀ (s0 : zh_S) (a0 : Nat) (i1 : Int32), zb_M_extensions_233 n s0 a0 i1 = some z → zg_G p l e R s m args below meth c Q h0 D dA 4 c0 k0 z s0 233 [(0, .ref (h0 + a0)), (1, .int i1)] [] := by
  obtain ⟨hx, hb, hml, hown, htT, hrt, hlk, x00, hIn⟩ := id X
  have hK := hIn.2.1
  have hT := hIn.2.2.1
  have hNe := hIn.2.2.2
  intro s0 a0 i1 hf
  rw [zb_M_extensions_233] at hf
  refine zg_1 (pc' := 234) (fun _ _ _ _ _ hl w => lv_aload_n hx hb zd_M_extensions_233 rfl (lv_at hl 0 rfl) w) ?_
  obtain ⟨h_1, hf⟩ := zx_ck hf
  obtain ⟨a_2, h_3, hf⟩ := zx_p hf
  refine zg_get (pc' := 237) (ci := 8) hx hb htT zi_M hown hK h_1 rfl rfl 2 (by decide) (htT _ zt_807) (fun _ h9 => h9) (zx_hv h_3) zd_M_extensions_234 rfl ?_
  refine zg_1 (pc' := 239) (fun _ _ _ _ _ hl w => lv_bipush (v := (11 : Int32)) hx hb zd_M_extensions_237 (by decide) w) ?_
  obtain ⟨h_4, hf⟩ := zx_ck hf
  refine zg_lald (pc' := 240) hx hb hK h_4 zd_M_extensions_239 rfl ?_
  refine zg_1 (pc' := 241) (fun _ _ _ _ _ hl w => lv_lconst (v := (0 : Int64)) hx hb zd_M_extensions_240 (by decide) w) ?_
  refine zg_1 (pc' := 242) (fun _ _ _ _ _ hl w => W.lcmp hx hb zd_M_extensions_241 w) ?_
  refine zg_2 (pc1 := 288) (pc2 := 245) (Classical.em _) (fun _ _ _ _ _ w1 w2 => lv_if_le hx hb zd_M_extensions_242 (by decide) w1 w2) (fun hc => ?_) (fun hc => ?_)
  · rw [if_pos hc] at hf
    exact zw_M_extensions_288 X hR hF hret n s0 a0 i1 hf
  · rw [if_neg hc] at hf
    refine zg_1 (pc' := 246) (fun _ _ _ _ _ hl w => lv_aload_n hx hb zd_M_extensions_245 rfl (lv_at hl 0 rfl) w) ?_
    refine zg_1 (pc' := 248) (fun _ _ _ _ _ hl w => lv_bipush (v := (9 : Int32)) hx hb zd_M_extensions_246 (by decide) w) ?_
    refine zg_1 (pc' := 249) (fun _ _ _ _ _ hl w => lv_aload_n hx hb zd_M_extensions_248 rfl (lv_at hl 0 rfl) w) ?_
    obtain ⟨a_5, h_6, hf⟩ := zx_p hf
    refine zg_get (pc' := 252) (ci := 8) hx hb htT zi_M hown hK h_1 rfl rfl 2 (by decide) (htT _ zt_807) (fun _ h9 => h9) (zx_hv h_6) zd_M_extensions_249 rfl ?_
    refine zg_1 (pc' := 254) (fun _ _ _ _ _ hl w => lv_bipush (v := (11 : Int32)) hx hb zd_M_extensions_252 (by decide) w) ?_
    obtain ⟨h_7, hf⟩ := zx_ck hf
    refine zg_lald (pc' := 255) hx hb hK h_7 zd_M_extensions_254 rfl ?_
    refine zg_1 (pc' := 258) (fun _ _ _ _ _ hl w => lv_ldc2 (v := (2 : Int64)) hx hb hown (htT _ zt_906) zd_M_extensions_255 w) ?_
    refine zg_1 (pc' := 259) (fun _ _ _ _ _ hl w => W.lcmp hx hb zd_M_extensions_258 w) ?_
    refine zg_2 (pc1 := 266) (pc2 := 262) (Classical.em _).symm (fun _ _ _ _ _ w1 w2 => lv_if_ne hx hb zd_M_extensions_259 (by decide) w1 w2) (fun hc => ?_) (fun hc => ?_)
    · rw [if_neg hc] at hf
      refine zg_1 (pc' := 267) (fun _ _ _ _ _ hl w => lv_iconst (v := (0 : Int32)) hx hb zd_M_extensions_266 (by decide) w) ?_
      exact zw_M_extensions_267 X hR hF hret n s0 a0 i1 a0 (9 : Int32) (0 : Int32) hf
    · rw [if_pos hc] at hf
      refine zg_1 (pc' := 263) (fun _ _ _ _ _ hl w => lv_iconst (v := (1 : Int32)) hx hb zd_M_extensions_262 (by decide) w) ?_
      refine zg_1 (pc' := 267) (fun _ _ _ _ _ hl w => lv_goto hx hb zd_M_extensions_263 (by decide) w) ?_
      exact zw_M_extensions_267 X hR hF hret n s0 a0 i1 a0 (9 : Int32) (1 : Int32) hf
set_option maxHeartbeats 4000000 in
theorem zw_M_extensions_219 {p : Program} {l : Launch} {e : Env} {R : Room} {s : State} {m : MethodId} {args : Array Value} {below : List Frame} {meth : Method} {c : Code} {Q : State → Prop} {h0 : Nat} {D : va_G} {dA : Nat → ClassId} {tb : Nat → Nat} {c0 k0 : Nat} {z : zh_S} (X : zg_X p s m args meth c ze_M_extensions 4 zr_M none h0 D dA tb) (hR : zg_R R c0 k0 z) (hF : 3 ≤ R.frames ∧ 68 ≤ R.locals) (hret : ∀ (pc : Nat) (lv : List (Nat × Value)), decode ze_M_extensions pc = .ok (.return_, 1) → zg_G p l e R s m args below meth c Q h0 D dA 4 c0 k0 z z pc lv []) (n : Nat) : ∀ (s0 : zh_S) (a0 : Nat) (i1 : Int32) (i2 : Int32) (i3 : Int32), zb_M_extensions_219 n s0 a0 i1 i2 i3 = some z → zg_G p l e R s m args below meth c Q h0 D dA 4 c0 k0 z s0 219 [(0, .ref (h0 + a0)), (1, .int i1), (2, .int i2), (3, .int i3)] [] := by
  obtain ⟨hx, hb, hml, hown, htT, hrt, hlk, x00, hIn⟩ := id X
  have hK := hIn.2.1
  have hT := hIn.2.2.1
  have hNe := hIn.2.2.2
  intro s0 a0 i1 i2 i3 hf
  rw [zb_M_extensions_219] at hf
  refine zg_1 (pc' := 220) (fun _ _ _ _ _ hl w => lv_aload_n hx hb zd_M_extensions_219 rfl (lv_at hl 0 rfl) w) ?_
  refine zg_1 (pc' := 221) (fun _ _ _ _ _ hl w => lv_iload_n hx hb zd_M_extensions_220 rfl (lv_at hl 3 rfl) w) ?_
  refine zg_1 (pc' := 223) (fun _ _ _ _ _ hl w => lv_bipush (v := (48 : Int32)) hx hb zd_M_extensions_221 (by decide) w) ?_
  obtain ⟨h_2, hf⟩ := zx_ck hf
  obtain ⟨s_1, hq, hf⟩ := zx_p hf
  refine zg_call (pc' := 226) (y := s_1) (rv := none) (rest := []) X hR (zm_M_wrap hq) (fun H locs ls k j hsz hI hU hk => va_runV (As := [.int i3, .int (48 : Int32)]) (rest := []) ⟨hx, hb, hml, hown, htT⟩ (zc_M_wrap l h0 D dA tb n hq) (cwV 2 htT (zw_gV zt_980 zt_982 zt_36 zt_71 zt_983) rfl rfl rfl (by decide +kernel) ⟨Nat.le_trans (Nat.le_of_ble_eq_true rfl) hF.1, Nat.le_trans (Nat.le_of_ble_eq_true rfl) hF.2⟩) ⟨(zg_pre hU).1, zg_recv hK hI h_2 rfl, (zg_pre hU).2⟩ rfl rfl hsz rfl (lv_room (Nat.le_of_ble_eq_true rfl)) zd_M_extensions_223 hk) rfl ?_
  refine zg_1 (pc' := 227) (fun _ _ _ _ _ hl w => lv_aload_n hx hb zd_M_extensions_226 rfl (lv_at hl 0 rfl) w) ?_
  refine zg_1 (pc' := 228) (fun _ _ _ _ _ hl w => lv_iload_n hx hb zd_M_extensions_227 rfl (lv_at hl 2 rfl) w) ?_
  refine zg_1 (pc' := 230) (fun _ _ _ _ _ hl w => lv_bipush (v := (48 : Int32)) hx hb zd_M_extensions_228 (by decide) w) ?_
  obtain ⟨h_4, hf⟩ := zx_ck hf
  obtain ⟨s_3, hq, hf⟩ := zx_p hf
  refine zg_call (pc' := 233) (y := s_3) (rv := none) (rest := []) X hR (zm_M_wrap hq) (fun H locs ls k j hsz hI hU hk => va_runV (As := [.int i2, .int (48 : Int32)]) (rest := []) ⟨hx, hb, hml, hown, htT⟩ (zc_M_wrap l h0 D dA tb n hq) (cwV 2 htT (zw_gV zt_980 zt_982 zt_36 zt_71 zt_983) rfl rfl rfl (by decide +kernel) ⟨Nat.le_trans (Nat.le_of_ble_eq_true rfl) hF.1, Nat.le_trans (Nat.le_of_ble_eq_true rfl) hF.2⟩) ⟨(zg_pre hU).1, zg_recv hK hI h_4 rfl, (zg_pre hU).2⟩ rfl rfl hsz rfl (lv_room (Nat.le_of_ble_eq_true rfl)) zd_M_extensions_230 hk) rfl ?_
  refine zg_v [0, 1] rfl ?_
  exact zw_M_extensions_233 X hR hF hret n s_3 a0 i1 hf
set_option maxHeartbeats 4000000 in
theorem zw_M_extensions_193 {p : Program} {l : Launch} {e : Env} {R : Room} {s : State} {m : MethodId} {args : Array Value} {below : List Frame} {meth : Method} {c : Code} {Q : State → Prop} {h0 : Nat} {D : va_G} {dA : Nat → ClassId} {tb : Nat → Nat} {c0 k0 : Nat} {z : zh_S} (X : zg_X p s m args meth c ze_M_extensions 4 zr_M none h0 D dA tb) (hR : zg_R R c0 k0 z) (hF : 3 ≤ R.frames ∧ 68 ≤ R.locals) (hret : ∀ (pc : Nat) (lv : List (Nat × Value)), decode ze_M_extensions pc = .ok (.return_, 1) → zg_G p l e R s m args below meth c Q h0 D dA 4 c0 k0 z z pc lv []) (n : Nat) : ∀ (s0 : zh_S) (a0 : Nat) (i1 : Int32) (i2 : Int32) (i3 : Int32), zb_M_extensions_193 n s0 a0 i1 i2 i3 = some z → zg_G p l e R s m args below meth c Q h0 D dA 4 c0 k0 z s0 193 [(0, .ref (h0 + a0)), (1, .int i1), (2, .int i2), (3, .int i3)] [] := by
  obtain ⟨hx, hb, hml, hown, htT, hrt, hlk, x00, hIn⟩ := id X
  have hK := hIn.2.1
  have hT := hIn.2.2.1
  have hNe := hIn.2.2.2
  intro s0 a0 i1 i2 i3 hf
  rw [zb_M_extensions_193] at hf
  refine zg_1 (pc' := 194) (fun _ _ _ _ _ hl w => lv_aload_n hx hb zd_M_extensions_193 rfl (lv_at hl 0 rfl) w) ?_
  obtain ⟨h_1, hf⟩ := zx_ck hf
  obtain ⟨a_2, h_3, hf⟩ := zx_p hf
  refine zg_get (pc' := 197) (ci := 8) hx hb htT zi_M hown hK h_1 rfl rfl 2 (by decide) (htT _ zt_807) (fun _ h9 => h9) (zx_hv h_3) zd_M_extensions_194 rfl ?_
  refine zg_1 (pc' := 199) (fun _ _ _ _ _ hl w => lv_bipush (v := (10 : Int32)) hx hb zd_M_extensions_197 (by decide) w) ?_
  obtain ⟨h_4, hf⟩ := zx_ck hf
  refine zg_lald (pc' := 200) hx hb hK h_4 zd_M_extensions_199 rfl ?_
  refine zg_1 (pc' := 201) (fun _ _ _ _ _ hl w => lv_lconst (v := (0 : Int64)) hx hb zd_M_extensions_200 (by decide) w) ?_
  refine zg_1 (pc' := 202) (fun _ _ _ _ _ hl w => W.lcmp hx hb zd_M_extensions_201 w) ?_
  refine zg_2 (pc1 := 219) (pc2 := 205) (Classical.em _) (fun _ _ _ _ _ w1 w2 => lv_if_eq hx hb zd_M_extensions_202 (by decide) w1 w2) (fun hc => ?_) (fun hc => ?_)
  · rw [if_pos hc] at hf
    exact zw_M_extensions_219 X hR hF hret n s0 a0 i1 i2 i3 hf
  · rw [if_neg hc] at hf
    refine zg_1 (pc' := 206) (fun _ _ _ _ _ hl w => lv_aload_n hx hb zd_M_extensions_205 rfl (lv_at hl 0 rfl) w) ?_
    refine zg_1 (pc' := 209) (fun _ _ _ _ _ hl w => lv_sipush (v := (129 : Int32)) hx hb zd_M_extensions_206 (by decide) w) ?_
    refine zg_1 (pc' := 210) (fun _ _ _ _ _ hl w => lv_aload_n hx hb zd_M_extensions_209 rfl (lv_at hl 0 rfl) w) ?_
    obtain ⟨a_5, h_6, hf⟩ := zx_p hf
    refine zg_get (pc' := 213) (ci := 8) hx hb htT zi_M hown hK h_1 rfl rfl 2 (by decide) (htT _ zt_807) (fun _ h9 => h9) (zx_hv h_6) zd_M_extensions_210 rfl ?_
    refine zg_1 (pc' := 215) (fun _ _ _ _ _ hl w => lv_bipush (v := (10 : Int32)) hx hb zd_M_extensions_213 (by decide) w) ?_
    obtain ⟨h_7, hf⟩ := zx_ck hf
    refine zg_lald (pc' := 216) hx hb hK h_7 zd_M_extensions_215 rfl ?_
    obtain ⟨s_8, hq, hf⟩ := zx_p hf
    refine zg_call (pc' := 219) (y := s_8) (rv := none) (rest := []) X hR (zm_M_name hq) (fun H locs ls k j hsz hI hU hk => va_runV (As := [.int (129 : Int32), .long (zh_J s0 a_5 ((10 : Int32).toNatClampNeg))]) (rest := []) ⟨hx, hb, hml, hown, htT⟩ (zc_M_name l h0 D dA tb n hq) (cwV 2 htT (zw_gV zt_964 zt_966 zt_32 zt_71 zt_967) rfl rfl rfl (by decide +kernel) ⟨Nat.le_trans (Nat.le_of_ble_eq_true rfl) hF.1, Nat.le_trans (Nat.le_of_ble_eq_true rfl) hF.2⟩) ⟨(zg_pre hU).1, zg_recv hK hI h_1 rfl, (zg_pre hU).2⟩ rfl rfl hsz rfl (lv_room (Nat.le_of_ble_eq_true rfl)) zd_M_extensions_216 hk) rfl ?_
    exact zw_M_extensions_219 X hR hF hret n s_8 a0 i1 i2 i3 hf
set_option maxHeartbeats 4000000 in
theorem zw_M_extensions_155 {p : Program} {l : Launch} {e : Env} {R : Room} {s : State} {m : MethodId} {args : Array Value} {below : List Frame} {meth : Method} {c : Code} {Q : State → Prop} {h0 : Nat} {D : va_G} {dA : Nat → ClassId} {tb : Nat → Nat} {c0 k0 : Nat} {z : zh_S} (X : zg_X p s m args meth c ze_M_extensions 4 zr_M none h0 D dA tb) (hR : zg_R R c0 k0 z) (hF : 3 ≤ R.frames ∧ 68 ≤ R.locals) (hret : ∀ (pc : Nat) (lv : List (Nat × Value)), decode ze_M_extensions pc = .ok (.return_, 1) → zg_G p l e R s m args below meth c Q h0 D dA 4 c0 k0 z z pc lv []) (n : Nat) : ∀ (s0 : zh_S) (a0 : Nat) (i1 : Int32), zb_M_extensions_155 n s0 a0 i1 = some z → zg_G p l e R s m args below meth c Q h0 D dA 4 c0 k0 z s0 155 [(0, .ref (h0 + a0)), (1, .int i1)] [] := by
  obtain ⟨hx, hb, hml, hown, htT, hrt, hlk, x00, hIn⟩ := id X
  have hK := hIn.2.1
  have hT := hIn.2.2.1
  have hNe := hIn.2.2.2
  intro s0 a0 i1 hf
  rw [zb_M_extensions_155] at hf
  refine zg_1 (pc' := 156) (fun _ _ _ _ _ hl w => lv_aload_n hx hb zd_M_extensions_155 rfl (lv_at hl 0 rfl) w) ?_
  refine zg_1 (pc' := 157) (fun _ _ _ _ _ hl w => lv_iconst (v := (3 : Int32)) hx hb zd_M_extensions_156 (by decide) w) ?_
  refine zg_1 (pc' := 158) (fun _ _ _ _ _ hl w => lv_iconst (v := (1 : Int32)) hx hb zd_M_extensions_157 (by decide) w) ?_
  obtain ⟨h_2, hf⟩ := zx_ck hf
  obtain ⟨i_3, s_1, hq, hf⟩ := zx_b hf
  refine zg_call (pc' := 161) (y := s_1) (rv := (some (.int i_3))) (rest := []) X hR (zm_M_open hq) (fun H locs ls k j hsz hI hU hk => va_runV (As := [.int (3 : Int32), .int (1 : Int32)]) (rest := []) ⟨hx, hb, hml, hown, htT⟩ (zc_M_open l h0 D dA tb n hq) (cwV 2 htT (zw_gV zt_972 zt_974 zt_34 zt_71 zt_975) rfl rfl rfl (by decide +kernel) ⟨Nat.le_trans (Nat.le_of_ble_eq_true rfl) hF.1, Nat.le_trans (Nat.le_of_ble_eq_true rfl) hF.2⟩) ⟨(zg_pre hU).1, zg_recv hK hI h_2 rfl, (zg_pre hU).2⟩ rfl rfl hsz rfl (lv_room (Nat.le_of_ble_eq_true rfl)) zd_M_extensions_158 hk) rfl ?_
  refine zg_s (pc' := 162) (lv' := [(2, .int i_3), (0, .ref (h0 + a0)), (1, .int i1)]) (fun _ _ _ _ _ hl w => lv_istore_n hx hb zd_M_extensions_161 rfl hl (by decide) rfl w) ?_
  refine zg_1 (pc' := 163) (fun _ _ _ _ _ hl w => lv_aload_n hx hb zd_M_extensions_162 rfl (lv_at hl 1 rfl) w) ?_
  obtain ⟨h_4, hf⟩ := zx_ck hf
  refine zg_get (pc' := 166) (ci := 8) hx hb htT zi_M hown hK h_4 rfl rfl 1 (by decide) (htT _ zt_806) (fun _ h9 => h9) rfl zd_M_extensions_163 rfl ?_
  obtain ⟨i_5, e_i_5, hf⟩ := zx_l hf
  refine zg_ti e_i_5 ?_
  refine zg_s (pc' := 167) (lv' := [(3, .int i_5), (2, .int i_3), (0, .ref (h0 + a0)), (1, .int i1)]) (fun _ _ _ _ _ hl w => lv_istore_n hx hb zd_M_extensions_166 rfl hl (by decide) rfl w) ?_
  refine zg_1 (pc' := 168) (fun _ _ _ _ _ hl w => lv_aload_n hx hb zd_M_extensions_167 rfl (lv_at hl 2 rfl) w) ?_
  obtain ⟨a_6, h_7, hf⟩ := zx_p hf
  refine zg_get (pc' := 171) (ci := 8) hx hb htT zi_M hown hK h_4 rfl rfl 2 (by decide) (htT _ zt_807) (fun _ h9 => h9) (zx_hv h_7) zd_M_extensions_168 rfl ?_
  refine zg_1 (pc' := 173) (fun _ _ _ _ _ hl w => lv_bipush (v := (9 : Int32)) hx hb zd_M_extensions_171 (by decide) w) ?_
  obtain ⟨h_8, hf⟩ := zx_ck hf
  refine zg_lald (pc' := 174) hx hb hK h_8 zd_M_extensions_173 rfl ?_
  refine zg_1 (pc' := 175) (fun _ _ _ _ _ hl w => lv_lconst (v := (0 : Int64)) hx hb zd_M_extensions_174 (by decide) w) ?_
  refine zg_1 (pc' := 176) (fun _ _ _ _ _ hl w => W.lcmp hx hb zd_M_extensions_175 w) ?_
  refine zg_2 (pc1 := 193) (pc2 := 179) (Classical.em _) (fun _ _ _ _ _ w1 w2 => lv_if_eq hx hb zd_M_extensions_176 (by decide) w1 w2) (fun hc => ?_) (fun hc => ?_)
  · rw [if_pos hc] at hf
    refine zg_v [2, 3, 1, 0] rfl ?_
    exact zw_M_extensions_193 X hR hF hret n s_1 a0 i1 i_3 i_5 hf
  · rw [if_neg hc] at hf
    refine zg_1 (pc' := 180) (fun _ _ _ _ _ hl w => lv_aload_n hx hb zd_M_extensions_179 rfl (lv_at hl 2 rfl) w) ?_
    refine zg_1 (pc' := 183) (fun _ _ _ _ _ hl w => lv_sipush (v := (128 : Int32)) hx hb zd_M_extensions_180 (by decide) w) ?_
    refine zg_1 (pc' := 184) (fun _ _ _ _ _ hl w => lv_aload_n hx hb zd_M_extensions_183 rfl (lv_at hl 2 rfl) w) ?_
    obtain ⟨a_9, h_10, hf⟩ := zx_p hf
    refine zg_get (pc' := 187) (ci := 8) hx hb htT zi_M hown hK h_4 rfl rfl 2 (by decide) (htT _ zt_807) (fun _ h9 => h9) (zx_hv h_10) zd_M_extensions_184 rfl ?_
    refine zg_1 (pc' := 189) (fun _ _ _ _ _ hl w => lv_bipush (v := (9 : Int32)) hx hb zd_M_extensions_187 (by decide) w) ?_
    obtain ⟨h_11, hf⟩ := zx_ck hf
    refine zg_lald (pc' := 190) hx hb hK h_11 zd_M_extensions_189 rfl ?_
    obtain ⟨s_12, hq, hf⟩ := zx_p hf
    refine zg_call (pc' := 193) (y := s_12) (rv := none) (rest := []) X hR (zm_M_name hq) (fun H locs ls k j hsz hI hU hk => va_runV (As := [.int (128 : Int32), .long (zh_J s_1 a_9 ((9 : Int32).toNatClampNeg))]) (rest := []) ⟨hx, hb, hml, hown, htT⟩ (zc_M_name l h0 D dA tb n hq) (cwV 2 htT (zw_gV zt_964 zt_966 zt_32 zt_71 zt_967) rfl rfl rfl (by decide +kernel) ⟨Nat.le_trans (Nat.le_of_ble_eq_true rfl) hF.1, Nat.le_trans (Nat.le_of_ble_eq_true rfl) hF.2⟩) ⟨(zg_pre hU).1, zg_recv hK hI h_4 rfl, (zg_pre hU).2⟩ rfl rfl hsz rfl (lv_room (Nat.le_of_ble_eq_true rfl)) zd_M_extensions_190 hk) rfl ?_
    refine zg_v [2, 3, 1, 0] rfl ?_
    exact zw_M_extensions_193 X hR hF hret n s_12 a0 i1 i_3 i_5 hf
set_option maxHeartbeats 4000000 in
theorem zw_M_extensions_131 {p : Program} {l : Launch} {e : Env} {R : Room} {s : State} {m : MethodId} {args : Array Value} {below : List Frame} {meth : Method} {c : Code} {Q : State → Prop} {h0 : Nat} {D : va_G} {dA : Nat → ClassId} {tb : Nat → Nat} {c0 k0 : Nat} {z : zh_S} (X : zg_X p s m args meth c ze_M_extensions 4 zr_M none h0 D dA tb) (hR : zg_R R c0 k0 z) (hF : 3 ≤ R.frames ∧ 68 ≤ R.locals) (hret : ∀ (pc : Nat) (lv : List (Nat × Value)), decode ze_M_extensions pc = .ok (.return_, 1) → zg_G p l e R s m args below meth c Q h0 D dA 4 c0 k0 z z pc lv []) (n : Nat) : ∀ (s0 : zh_S) (a0 : Nat) (i1 : Int32), zb_M_extensions_131 n s0 a0 i1 = some z → zg_G p l e R s m args below meth c Q h0 D dA 4 c0 k0 z s0 131 [(0, .ref (h0 + a0)), (1, .int i1)] [] := by
  obtain ⟨hx, hb, hml, hown, htT, hrt, hlk, x00, hIn⟩ := id X
  have hK := hIn.2.1
  have hT := hIn.2.2.1
  have hNe := hIn.2.2.2
  intro s0 a0 i1 hf
  rw [zb_M_extensions_131] at hf
  refine zg_1 (pc' := 132) (fun _ _ _ _ _ hl w => lv_aload_n hx hb zd_M_extensions_131 rfl (lv_at hl 0 rfl) w) ?_
  obtain ⟨h_1, hf⟩ := zx_ck hf
  obtain ⟨a_2, h_3, hf⟩ := zx_p hf
  refine zg_get (pc' := 135) (ci := 8) hx hb htT zi_M hown hK h_1 rfl rfl 2 (by decide) (htT _ zt_807) (fun _ h9 => h9) (zx_hv h_3) zd_M_extensions_132 rfl ?_
  refine zg_1 (pc' := 137) (fun _ _ _ _ _ hl w => lv_bipush (v := (9 : Int32)) hx hb zd_M_extensions_135 (by decide) w) ?_
  obtain ⟨h_4, hf⟩ := zx_ck hf
  refine zg_lald (pc' := 138) hx hb hK h_4 zd_M_extensions_137 rfl ?_
  refine zg_1 (pc' := 139) (fun _ _ _ _ _ hl w => lv_lconst (v := (0 : Int64)) hx hb zd_M_extensions_138 (by decide) w) ?_
  refine zg_1 (pc' := 140) (fun _ _ _ _ _ hl w => W.lcmp hx hb zd_M_extensions_139 w) ?_
  refine zg_2 (pc1 := 155) (pc2 := 143) (Classical.em _).symm (fun _ _ _ _ _ w1 w2 => lv_if_ne hx hb zd_M_extensions_140 (by decide) w1 w2) (fun hc => ?_) (fun hc => ?_)
  · rw [if_neg hc] at hf
    exact zw_M_extensions_155 X hR hF hret n s0 a0 i1 hf
  · rw [if_pos hc] at hf
    refine zg_1 (pc' := 144) (fun _ _ _ _ _ hl w => lv_aload_n hx hb zd_M_extensions_143 rfl (lv_at hl 0 rfl) w) ?_
    obtain ⟨a_5, h_6, hf⟩ := zx_p hf
    refine zg_get (pc' := 147) (ci := 8) hx hb htT zi_M hown hK h_1 rfl rfl 2 (by decide) (htT _ zt_807) (fun _ h9 => h9) (zx_hv h_6) zd_M_extensions_144 rfl ?_
    refine zg_1 (pc' := 149) (fun _ _ _ _ _ hl w => lv_bipush (v := (10 : Int32)) hx hb zd_M_extensions_147 (by decide) w) ?_
    obtain ⟨h_7, hf⟩ := zx_ck hf
    refine zg_lald (pc' := 150) hx hb hK h_7 zd_M_extensions_149 rfl ?_
    refine zg_1 (pc' := 151) (fun _ _ _ _ _ hl w => lv_lconst (v := (0 : Int64)) hx hb zd_M_extensions_150 (by decide) w) ?_
    refine zg_1 (pc' := 152) (fun _ _ _ _ _ hl w => W.lcmp hx hb zd_M_extensions_151 w) ?_
    refine zg_2 (pc1 := 233) (pc2 := 155) (Classical.em _) (fun _ _ _ _ _ w1 w2 => lv_if_eq hx hb zd_M_extensions_152 (by decide) w1 w2) (fun hc => ?_) (fun hc => ?_)
    · rw [if_pos hc] at hf
      exact zw_M_extensions_233 X hR hF hret n s0 a0 i1 hf
    · rw [if_neg hc] at hf
      exact zw_M_extensions_155 X hR hF hret n s0 a0 i1 hf
set_option maxHeartbeats 4000000 in
theorem zw_M_extensions_94 {p : Program} {l : Launch} {e : Env} {R : Room} {s : State} {m : MethodId} {args : Array Value} {below : List Frame} {meth : Method} {c : Code} {Q : State → Prop} {h0 : Nat} {D : va_G} {dA : Nat → ClassId} {tb : Nat → Nat} {c0 k0 : Nat} {z : zh_S} (X : zg_X p s m args meth c ze_M_extensions 4 zr_M none h0 D dA tb) (hR : zg_R R c0 k0 z) (hF : 3 ≤ R.frames ∧ 68 ≤ R.locals) (hret : ∀ (pc : Nat) (lv : List (Nat × Value)), decode ze_M_extensions pc = .ok (.return_, 1) → zg_G p l e R s m args below meth c Q h0 D dA 4 c0 k0 z z pc lv []) (n : Nat) : ∀ (s0 : zh_S) (a0 : Nat) (i1 : Int32), zb_M_extensions_94 n s0 a0 i1 = some z → zg_G p l e R s m args below meth c Q h0 D dA 4 c0 k0 z s0 94 [(0, .ref (h0 + a0)), (1, .int i1)] [] := by
  obtain ⟨hx, hb, hml, hown, htT, hrt, hlk, x00, hIn⟩ := id X
  have hK := hIn.2.1
  have hT := hIn.2.2.1
  have hNe := hIn.2.2.2
  intro s0 a0 i1 hf
  rw [zb_M_extensions_94] at hf
  refine zg_1 (pc' := 95) (fun _ _ _ _ _ hl w => lv_aload_n hx hb zd_M_extensions_94 rfl (lv_at hl 0 rfl) w) ?_
  obtain ⟨h_1, hf⟩ := zx_ck hf
  obtain ⟨a_2, h_3, hf⟩ := zx_p hf
  refine zg_get (pc' := 98) (ci := 8) hx hb htT zi_M hown hK h_1 rfl rfl 2 (by decide) (htT _ zt_807) (fun _ h9 => h9) (zx_hv h_3) zd_M_extensions_95 rfl ?_
  refine zg_1 (pc' := 100) (fun _ _ _ _ _ hl w => lv_bipush (v := (8 : Int32)) hx hb zd_M_extensions_98 (by decide) w) ?_
  obtain ⟨h_4, hf⟩ := zx_ck hf
  refine zg_lald (pc' := 101) hx hb hK h_4 zd_M_extensions_100 rfl ?_
  refine zg_1 (pc' := 102) (fun _ _ _ _ _ hl w => lv_lconst (v := (0 : Int64)) hx hb zd_M_extensions_101 (by decide) w) ?_
  refine zg_1 (pc' := 103) (fun _ _ _ _ _ hl w => W.lcmp hx hb zd_M_extensions_102 w) ?_
  refine zg_2 (pc1 := 131) (pc2 := 106) (Classical.em _) (fun _ _ _ _ _ w1 w2 => lv_if_le hx hb zd_M_extensions_103 (by decide) w1 w2) (fun hc => ?_) (fun hc => ?_)
  · rw [if_pos hc] at hf
    exact zw_M_extensions_131 X hR hF hret n s0 a0 i1 hf
  · rw [if_neg hc] at hf
    refine zg_1 (pc' := 107) (fun _ _ _ _ _ hl w => lv_aload_n hx hb zd_M_extensions_106 rfl (lv_at hl 0 rfl) w) ?_
    refine zg_1 (pc' := 108) (fun _ _ _ _ _ hl w => lv_iconst (v := (2 : Int32)) hx hb zd_M_extensions_107 (by decide) w) ?_
    refine zg_1 (pc' := 109) (fun _ _ _ _ _ hl w => lv_iconst (v := (1 : Int32)) hx hb zd_M_extensions_108 (by decide) w) ?_
    obtain ⟨i_6, s_5, hq, hf⟩ := zx_b hf
    refine zg_call (pc' := 112) (y := s_5) (rv := (some (.int i_6))) (rest := []) X hR (zm_M_open hq) (fun H locs ls k j hsz hI hU hk => va_runV (As := [.int (2 : Int32), .int (1 : Int32)]) (rest := []) ⟨hx, hb, hml, hown, htT⟩ (zc_M_open l h0 D dA tb n hq) (cwV 2 htT (zw_gV zt_972 zt_974 zt_34 zt_71 zt_975) rfl rfl rfl (by decide +kernel) ⟨Nat.le_trans (Nat.le_of_ble_eq_true rfl) hF.1, Nat.le_trans (Nat.le_of_ble_eq_true rfl) hF.2⟩) ⟨(zg_pre hU).1, zg_recv hK hI h_1 rfl, (zg_pre hU).2⟩ rfl rfl hsz rfl (lv_room (Nat.le_of_ble_eq_true rfl)) zd_M_extensions_109 hk) rfl ?_
    refine zg_s (pc' := 113) (lv' := [(2, .int i_6), (0, .ref (h0 + a0)), (1, .int i1)]) (fun _ _ _ _ _ hl w => lv_istore_n hx hb zd_M_extensions_112 rfl hl (by decide) rfl w) ?_
    refine zg_1 (pc' := 114) (fun _ _ _ _ _ hl w => lv_aload_n hx hb zd_M_extensions_113 rfl (lv_at hl 1 rfl) w) ?_
    refine zg_1 (pc' := 115) (fun _ _ _ _ _ hl w => lv_aload_n hx hb zd_M_extensions_114 rfl (lv_at hl 1 rfl) w) ?_
    obtain ⟨h_7, hf⟩ := zx_ck hf
    obtain ⟨a_8, h_9, hf⟩ := zx_p hf
    refine zg_get (pc' := 118) (ci := 8) hx hb htT zi_M hown hK h_7 rfl rfl 2 (by decide) (htT _ zt_807) (fun _ h9 => h9) (zx_hv h_9) zd_M_extensions_115 rfl ?_
    refine zg_1 (pc' := 120) (fun _ _ _ _ _ hl w => lv_bipush (v := (8 : Int32)) hx hb zd_M_extensions_118 (by decide) w) ?_
    obtain ⟨h_10, hf⟩ := zx_ck hf
    refine zg_lald (pc' := 121) hx hb hK h_10 zd_M_extensions_120 rfl ?_
    obtain ⟨s_11, hq, hf⟩ := zx_p hf
    refine zg_call (pc' := 124) (y := s_11) (rv := none) (rest := []) X hR (zm_M_integer hq) (fun H locs ls k j hsz hI hU hk => va_runV (As := [.long (zh_J s_5 a_8 ((8 : Int32).toNatClampNeg))]) (rest := []) ⟨hx, hb, hml, hown, htT⟩ (zc_M_integer l h0 D dA tb n hq) (cwV 1 htT (zw_gV zt_956 zt_958 zt_30 zt_71 zt_959) rfl rfl rfl (by decide +kernel) ⟨Nat.le_trans (Nat.le_of_ble_eq_true rfl) hF.1, Nat.le_trans (Nat.le_of_ble_eq_true rfl) hF.2⟩) ⟨(zg_pre hU).1, zg_recv hK hI h_7 rfl, (zg_pre hU).2⟩ rfl rfl hsz rfl (lv_room (Nat.le_of_ble_eq_true rfl)) zd_M_extensions_121 hk) rfl ?_
    refine zg_1 (pc' := 125) (fun _ _ _ _ _ hl w => lv_aload_n hx hb zd_M_extensions_124 rfl (lv_at hl 1 rfl) w) ?_
    refine zg_1 (pc' := 126) (fun _ _ _ _ _ hl w => lv_iload_n hx hb zd_M_extensions_125 rfl (lv_at hl 0 rfl) w) ?_
    refine zg_1 (pc' := 128) (fun _ _ _ _ _ hl w => lv_bipush (v := (48 : Int32)) hx hb zd_M_extensions_126 (by decide) w) ?_
    obtain ⟨h_13, hf⟩ := zx_ck hf
    obtain ⟨s_12, hq, hf⟩ := zx_p hf
    refine zg_call (pc' := 131) (y := s_12) (rv := none) (rest := []) X hR (zm_M_wrap hq) (fun H locs ls k j hsz hI hU hk => va_runV (As := [.int i_6, .int (48 : Int32)]) (rest := []) ⟨hx, hb, hml, hown, htT⟩ (zc_M_wrap l h0 D dA tb n hq) (cwV 2 htT (zw_gV zt_980 zt_982 zt_36 zt_71 zt_983) rfl rfl rfl (by decide +kernel) ⟨Nat.le_trans (Nat.le_of_ble_eq_true rfl) hF.1, Nat.le_trans (Nat.le_of_ble_eq_true rfl) hF.2⟩) ⟨(zg_pre hU).1, zg_recv hK hI h_13 rfl, (zg_pre hU).2⟩ rfl rfl hsz rfl (lv_room (Nat.le_of_ble_eq_true rfl)) zd_M_extensions_128 hk) rfl ?_
    refine zg_v [1, 2] rfl ?_
    exact zw_M_extensions_131 X hR hF hret n s_12 a0 i1 hf
set_option maxHeartbeats 4000000 in
theorem zw_M_extensions_80 {p : Program} {l : Launch} {e : Env} {R : Room} {s : State} {m : MethodId} {args : Array Value} {below : List Frame} {meth : Method} {c : Code} {Q : State → Prop} {h0 : Nat} {D : va_G} {dA : Nat → ClassId} {tb : Nat → Nat} {c0 k0 : Nat} {z : zh_S} (X : zg_X p s m args meth c ze_M_extensions 4 zr_M none h0 D dA tb) (hR : zg_R R c0 k0 z) (hF : 3 ≤ R.frames ∧ 68 ≤ R.locals) (hret : ∀ (pc : Nat) (lv : List (Nat × Value)), decode ze_M_extensions pc = .ok (.return_, 1) → zg_G p l e R s m args below meth c Q h0 D dA 4 c0 k0 z z pc lv []) (n : Nat) : ∀ (s0 : zh_S) (a0 : Nat) (i1 : Int32) (i2 : Int32) (i3 : Int32), zb_M_extensions_80 n s0 a0 i1 i2 i3 = some z → zg_G p l e R s m args below meth c Q h0 D dA 4 c0 k0 z s0 80 [(0, .ref (h0 + a0)), (1, .int i1), (2, .int i2), (3, .int i3)] [] := by
  obtain ⟨hx, hb, hml, hown, htT, hrt, hlk, x00, hIn⟩ := id X
  have hK := hIn.2.1
  have hT := hIn.2.2.1
  have hNe := hIn.2.2.2
  intro s0 a0 i1 i2 i3 hf
  rw [zb_M_extensions_80] at hf
  refine zg_1 (pc' := 81) (fun _ _ _ _ _ hl w => lv_aload_n hx hb zd_M_extensions_80 rfl (lv_at hl 0 rfl) w) ?_
  refine zg_1 (pc' := 82) (fun _ _ _ _ _ hl w => lv_iload_n hx hb zd_M_extensions_81 rfl (lv_at hl 3 rfl) w) ?_
  refine zg_1 (pc' := 84) (fun _ _ _ _ _ hl w => lv_bipush (v := (48 : Int32)) hx hb zd_M_extensions_82 (by decide) w) ?_
  obtain ⟨h_2, hf⟩ := zx_ck hf
  obtain ⟨s_1, hq, hf⟩ := zx_p hf
  refine zg_call (pc' := 87) (y := s_1) (rv := none) (rest := []) X hR (zm_M_wrap hq) (fun H locs ls k j hsz hI hU hk => va_runV (As := [.int i3, .int (48 : Int32)]) (rest := []) ⟨hx, hb, hml, hown, htT⟩ (zc_M_wrap l h0 D dA tb n hq) (cwV 2 htT (zw_gV zt_980 zt_982 zt_36 zt_71 zt_983) rfl rfl rfl (by decide +kernel) ⟨Nat.le_trans (Nat.le_of_ble_eq_true rfl) hF.1, Nat.le_trans (Nat.le_of_ble_eq_true rfl) hF.2⟩) ⟨(zg_pre hU).1, zg_recv hK hI h_2 rfl, (zg_pre hU).2⟩ rfl rfl hsz rfl (lv_room (Nat.le_of_ble_eq_true rfl)) zd_M_extensions_84 hk) rfl ?_
  refine zg_1 (pc' := 88) (fun _ _ _ _ _ hl w => lv_aload_n hx hb zd_M_extensions_87 rfl (lv_at hl 0 rfl) w) ?_
  refine zg_1 (pc' := 89) (fun _ _ _ _ _ hl w => lv_iload_n hx hb zd_M_extensions_88 rfl (lv_at hl 2 rfl) w) ?_
  refine zg_1 (pc' := 91) (fun _ _ _ _ _ hl w => lv_bipush (v := (48 : Int32)) hx hb zd_M_extensions_89 (by decide) w) ?_
  obtain ⟨h_4, hf⟩ := zx_ck hf
  obtain ⟨s_3, hq, hf⟩ := zx_p hf
  refine zg_call (pc' := 94) (y := s_3) (rv := none) (rest := []) X hR (zm_M_wrap hq) (fun H locs ls k j hsz hI hU hk => va_runV (As := [.int i2, .int (48 : Int32)]) (rest := []) ⟨hx, hb, hml, hown, htT⟩ (zc_M_wrap l h0 D dA tb n hq) (cwV 2 htT (zw_gV zt_980 zt_982 zt_36 zt_71 zt_983) rfl rfl rfl (by decide +kernel) ⟨Nat.le_trans (Nat.le_of_ble_eq_true rfl) hF.1, Nat.le_trans (Nat.le_of_ble_eq_true rfl) hF.2⟩) ⟨(zg_pre hU).1, zg_recv hK hI h_4 rfl, (zg_pre hU).2⟩ rfl rfl hsz rfl (lv_room (Nat.le_of_ble_eq_true rfl)) zd_M_extensions_91 hk) rfl ?_
  refine zg_v [0, 1] rfl ?_
  exact zw_M_extensions_94 X hR hF hret n s_3 a0 i1 hf
set_option maxHeartbeats 4000000 in
theorem zw_M_extensions_45 {p : Program} {l : Launch} {e : Env} {R : Room} {s : State} {m : MethodId} {args : Array Value} {below : List Frame} {meth : Method} {c : Code} {Q : State → Prop} {h0 : Nat} {D : va_G} {dA : Nat → ClassId} {tb : Nat → Nat} {c0 k0 : Nat} {z : zh_S} (X : zg_X p s m args meth c ze_M_extensions 4 zr_M none h0 D dA tb) (hR : zg_R R c0 k0 z) (hF : 3 ≤ R.frames ∧ 68 ≤ R.locals) (hret : ∀ (pc : Nat) (lv : List (Nat × Value)), decode ze_M_extensions pc = .ok (.return_, 1) → zg_G p l e R s m args below meth c Q h0 D dA 4 c0 k0 z z pc lv []) (n : Nat) : ∀ (s0 : zh_S) (a0 : Nat) (i1 : Int32) (i2 : Int32) (i3 : Int32), zb_M_extensions_45 n s0 a0 i1 i2 i3 = some z → zg_G p l e R s m args below meth c Q h0 D dA 4 c0 k0 z s0 45 [(0, .ref (h0 + a0)), (1, .int i1), (2, .int i2), (3, .int i3)] [] := by
  obtain ⟨hx, hb, hml, hown, htT, hrt, hlk, x00, hIn⟩ := id X
  have hK := hIn.2.1
  have hT := hIn.2.2.1
  have hNe := hIn.2.2.2
  intro s0 a0 i1 i2 i3 hf
  rw [zb_M_extensions_45] at hf
  refine zg_1 (pc' := 46) (fun _ _ _ _ _ hl w => lv_aload_n hx hb zd_M_extensions_45 rfl (lv_at hl 0 rfl) w) ?_
  obtain ⟨h_1, hf⟩ := zx_ck hf
  obtain ⟨a_2, h_3, hf⟩ := zx_p hf
  refine zg_get (pc' := 49) (ci := 8) hx hb htT zi_M hown hK h_1 rfl rfl 2 (by decide) (htT _ zt_807) (fun _ h9 => h9) (zx_hv h_3) zd_M_extensions_46 rfl ?_
  refine zg_1 (pc' := 51) (fun _ _ _ _ _ hl w => lv_bipush (v := (6 : Int32)) hx hb zd_M_extensions_49 (by decide) w) ?_
  obtain ⟨h_4, hf⟩ := zx_ck hf
  refine zg_lald (pc' := 52) hx hb hK h_4 zd_M_extensions_51 rfl ?_
  refine zg_1 (pc' := 53) (fun _ _ _ _ _ hl w => lv_lconst (v := (1 : Int64)) hx hb zd_M_extensions_52 (by decide) w) ?_
  refine zg_1 (pc' := 54) (fun _ _ _ _ _ hl w => W.lcmp hx hb zd_M_extensions_53 w) ?_
  refine zg_2 (pc1 := 80) (pc2 := 57) (Classical.em _).symm (fun _ _ _ _ _ w1 w2 => lv_if_ne hx hb zd_M_extensions_54 (by decide) w1 w2) (fun hc => ?_) (fun hc => ?_)
  · rw [if_neg hc] at hf
    exact zw_M_extensions_80 X hR hF hret n s0 a0 i1 i2 i3 hf
  · rw [if_pos hc] at hf
    refine zg_1 (pc' := 58) (fun _ _ _ _ _ hl w => lv_aload_n hx hb zd_M_extensions_57 rfl (lv_at hl 0 rfl) w) ?_
    obtain ⟨a_5, h_6, hf⟩ := zx_p hf
    refine zg_get (pc' := 61) (ci := 8) hx hb htT zi_M hown hK h_1 rfl rfl 2 (by decide) (htT _ zt_807) (fun _ h9 => h9) (zx_hv h_6) zd_M_extensions_58 rfl ?_
    refine zg_1 (pc' := 63) (fun _ _ _ _ _ hl w => lv_bipush (v := (7 : Int32)) hx hb zd_M_extensions_61 (by decide) w) ?_
    obtain ⟨h_7, hf⟩ := zx_ck hf
    refine zg_lald (pc' := 64) hx hb hK h_7 zd_M_extensions_63 rfl ?_
    refine zg_1 (pc' := 65) (fun _ _ _ _ _ hl w => lv_lconst (v := (0 : Int64)) hx hb zd_M_extensions_64 (by decide) w) ?_
    refine zg_1 (pc' := 66) (fun _ _ _ _ _ hl w => W.lcmp hx hb zd_M_extensions_65 w) ?_
    refine zg_2 (pc1 := 80) (pc2 := 69) (Classical.em _) (fun _ _ _ _ _ w1 w2 => lv_if_lt hx hb zd_M_extensions_66 (by decide) w1 w2) (fun hc => ?_) (fun hc => ?_)
    · rw [if_pos hc] at hf
      exact zw_M_extensions_80 X hR hF hret n s0 a0 i1 i2 i3 hf
    · rw [if_neg hc] at hf
      refine zg_1 (pc' := 70) (fun _ _ _ _ _ hl w => lv_aload_n hx hb zd_M_extensions_69 rfl (lv_at hl 0 rfl) w) ?_
      refine zg_1 (pc' := 71) (fun _ _ _ _ _ hl w => lv_aload_n hx hb zd_M_extensions_70 rfl (lv_at hl 0 rfl) w) ?_
      obtain ⟨a_8, h_9, hf⟩ := zx_p hf
      refine zg_get (pc' := 74) (ci := 8) hx hb htT zi_M hown hK h_1 rfl rfl 2 (by decide) (htT _ zt_807) (fun _ h9 => h9) (zx_hv h_9) zd_M_extensions_71 rfl ?_
      refine zg_1 (pc' := 76) (fun _ _ _ _ _ hl w => lv_bipush (v := (7 : Int32)) hx hb zd_M_extensions_74 (by decide) w) ?_
      obtain ⟨h_10, hf⟩ := zx_ck hf
      refine zg_lald (pc' := 77) hx hb hK h_10 zd_M_extensions_76 rfl ?_
      obtain ⟨s_11, hq, hf⟩ := zx_p hf
      refine zg_call (pc' := 80) (y := s_11) (rv := none) (rest := []) X hR (zm_M_integer hq) (fun H locs ls k j hsz hI hU hk => va_runV (As := [.long (zh_J s0 a_8 ((7 : Int32).toNatClampNeg))]) (rest := []) ⟨hx, hb, hml, hown, htT⟩ (zc_M_integer l h0 D dA tb n hq) (cwV 1 htT (zw_gV zt_956 zt_958 zt_30 zt_71 zt_959) rfl rfl rfl (by decide +kernel) ⟨Nat.le_trans (Nat.le_of_ble_eq_true rfl) hF.1, Nat.le_trans (Nat.le_of_ble_eq_true rfl) hF.2⟩) ⟨(zg_pre hU).1, zg_recv hK hI h_1 rfl, (zg_pre hU).2⟩ rfl rfl hsz rfl (lv_room (Nat.le_of_ble_eq_true rfl)) zd_M_extensions_77 hk) rfl ?_
      exact zw_M_extensions_80 X hR hF hret n s_11 a0 i1 i2 i3 hf
set_option maxHeartbeats 4000000 in
theorem zc_M_extensions (l : Launch) (h0 : Nat) (D : va_G) (dA : Nat → ClassId) (tb : Nat → Nat) (n : Nat) {s0 : zh_S} {a0 : Nat} {z : zh_S} (hf : zf_M_extensions n s0 a0 = some z) : zc_M l zn_M_extensions zs_M_extensions 3 68 h0 D dA tb [.ref (h0 + a0)] s0 none z := by
  rw [zf_M_extensions] at hf
  refine zc_of (cc := ze_M_extensions) (maxL := 4) (ret := none) (lv := [(0, .ref (h0 + a0))]) (by decide) rfl (Nat.le_of_ble_eq_true rfl) rfl ?_
  intro p e s m args below meth c X hnm
  obtain ⟨hx, hb, hml, hown, htT, hrt, hlk, x00, hIn⟩ := id X
  have hK := hIn.2.1
  have hT := hIn.2.2.1
  have hNe := hIn.2.2.2
  have hR : zg_R { frames := 3, cells := zh_N z - zh_N s0, slots := zh_M z - zh_M s0, locals := 68 } (zh_N s0) (zh_M s0) z := ⟨by show zh_N z ≤ zh_N s0 + (zh_N z - zh_N s0); omega, by show zh_M z ≤ zh_M s0 + (zh_M z - zh_M s0); omega⟩
  have hF : 3 ≤ ({ frames := 3, cells := zh_N z - zh_N s0, slots := zh_M z - zh_M s0, locals := 68 } : Room).frames ∧ 68 ≤ ({ frames := 3, cells := zh_N z - zh_N s0, slots := zh_M z - zh_M s0, locals := 68 } : Room).locals := ⟨Nat.le_refl _, Nat.le_refl _⟩
  have hret := fun (pc : Nat) (lv : List (Nat × Value)) (hd : decode ze_M_extensions pc = .ok (.return_, 1)) => zg_vret (R := { frames := 3, cells := zh_N z - zh_N s0, slots := zh_M z - zh_M s0, locals := 68 }) (l := l) (e := e) (below := below) (c0 := zh_N s0) (s0 := zh_M s0) (z := z) (lv := lv) X hd
  refine zg_1 (pc' := 1) (fun _ _ _ _ _ hl w => lv_aload_n hx hb zd_M_extensions_0 rfl (lv_at hl 0 rfl) w) ?_
  obtain ⟨h_1, hf⟩ := zx_ck hf
  refine zg_get (pc' := 4) (ci := 8) hx hb htT zi_M hown hK h_1 rfl rfl 1 (by decide) (htT _ zt_806) (fun _ h9 => h9) rfl zd_M_extensions_1 rfl ?_
  obtain ⟨i_2, e_i_2, hf⟩ := zx_l hf
  refine zg_ti e_i_2 ?_
  refine zg_s (pc' := 5) (lv' := [(1, .int i_2), (0, .ref (h0 + a0))]) (fun _ _ _ _ _ hl w => lv_istore_n hx hb zd_M_extensions_4 rfl hl (by decide) rfl w) ?_
  refine zg_1 (pc' := 6) (fun _ _ _ _ _ hl w => lv_aload_n hx hb zd_M_extensions_5 rfl (lv_at hl 1 rfl) w) ?_
  obtain ⟨a_3, h_4, hf⟩ := zx_p hf
  refine zg_get (pc' := 9) (ci := 8) hx hb htT zi_M hown hK h_1 rfl rfl 2 (by decide) (htT _ zt_807) (fun _ h9 => h9) (zx_hv h_4) zd_M_extensions_6 rfl ?_
  refine zg_1 (pc' := 11) (fun _ _ _ _ _ hl w => lv_bipush (v := (6 : Int32)) hx hb zd_M_extensions_9 (by decide) w) ?_
  obtain ⟨h_5, hf⟩ := zx_ck hf
  refine zg_lald (pc' := 12) hx hb hK h_5 zd_M_extensions_11 rfl ?_
  refine zg_1 (pc' := 13) (fun _ _ _ _ _ hl w => lv_lconst (v := (0 : Int64)) hx hb zd_M_extensions_12 (by decide) w) ?_
  refine zg_1 (pc' := 14) (fun _ _ _ _ _ hl w => W.lcmp hx hb zd_M_extensions_13 w) ?_
  refine zg_2 (pc1 := 94) (pc2 := 17) (Classical.em _) (fun _ _ _ _ _ w1 w2 => lv_if_lt hx hb zd_M_extensions_14 (by decide) w1 w2) (fun hc => ?_) (fun hc => ?_)
  · rw [if_pos hc] at hf
    refine zg_v [1, 0] rfl ?_
    exact zw_M_extensions_94 X hR hF hret n s0 a0 i_2 hf
  · rw [if_neg hc] at hf
    refine zg_1 (pc' := 18) (fun _ _ _ _ _ hl w => lv_aload_n hx hb zd_M_extensions_17 rfl (lv_at hl 1 rfl) w) ?_
    refine zg_1 (pc' := 19) (fun _ _ _ _ _ hl w => lv_iconst (v := (1 : Int32)) hx hb zd_M_extensions_18 (by decide) w) ?_
    refine zg_1 (pc' := 20) (fun _ _ _ _ _ hl w => lv_iconst (v := (1 : Int32)) hx hb zd_M_extensions_19 (by decide) w) ?_
    obtain ⟨i_7, s_6, hq, hf⟩ := zx_b hf
    refine zg_call (pc' := 23) (y := s_6) (rv := (some (.int i_7))) (rest := []) X hR (zm_M_open hq) (fun H locs ls k j hsz hI hU hk => va_runV (As := [.int (1 : Int32), .int (1 : Int32)]) (rest := []) ⟨hx, hb, hml, hown, htT⟩ (zc_M_open l h0 D dA tb n hq) (cwV 2 htT (zw_gV zt_972 zt_974 zt_34 zt_71 zt_975) rfl rfl rfl (by decide +kernel) ⟨Nat.le_trans (Nat.le_of_ble_eq_true rfl) hF.1, Nat.le_trans (Nat.le_of_ble_eq_true rfl) hF.2⟩) ⟨(zg_pre hU).1, zg_recv hK hI h_1 rfl, (zg_pre hU).2⟩ rfl rfl hsz rfl (lv_room (Nat.le_of_ble_eq_true rfl)) zd_M_extensions_20 hk) rfl ?_
    refine zg_s (pc' := 24) (lv' := [(2, .int i_7), (1, .int i_2), (0, .ref (h0 + a0))]) (fun _ _ _ _ _ hl w => lv_istore_n hx hb zd_M_extensions_23 rfl hl (by decide) rfl w) ?_
    refine zg_1 (pc' := 25) (fun _ _ _ _ _ hl w => lv_aload_n hx hb zd_M_extensions_24 rfl (lv_at hl 2 rfl) w) ?_
    obtain ⟨h_8, hf⟩ := zx_ck hf
    refine zg_get (pc' := 28) (ci := 8) hx hb htT zi_M hown hK h_8 rfl rfl 1 (by decide) (htT _ zt_806) (fun _ h9 => h9) rfl zd_M_extensions_25 rfl ?_
    obtain ⟨i_9, e_i_9, hf⟩ := zx_l hf
    refine zg_ti e_i_9 ?_
    refine zg_s (pc' := 29) (lv' := [(3, .int i_9), (2, .int i_7), (1, .int i_2), (0, .ref (h0 + a0))]) (fun _ _ _ _ _ hl w => lv_istore_n hx hb zd_M_extensions_28 rfl hl (by decide) rfl w) ?_
    refine zg_1 (pc' := 30) (fun _ _ _ _ _ hl w => lv_aload_n hx hb zd_M_extensions_29 rfl (lv_at hl 3 rfl) w) ?_
    obtain ⟨a_10, h_11, hf⟩ := zx_p hf
    refine zg_get (pc' := 33) (ci := 8) hx hb htT zi_M hown hK h_8 rfl rfl 2 (by decide) (htT _ zt_807) (fun _ h9 => h9) (zx_hv h_11) zd_M_extensions_30 rfl ?_
    refine zg_1 (pc' := 35) (fun _ _ _ _ _ hl w => lv_bipush (v := (6 : Int32)) hx hb zd_M_extensions_33 (by decide) w) ?_
    obtain ⟨h_12, hf⟩ := zx_ck hf
    refine zg_lald (pc' := 36) hx hb hK h_12 zd_M_extensions_35 rfl ?_
    refine zg_1 (pc' := 37) (fun _ _ _ _ _ hl w => lv_lconst (v := (1 : Int64)) hx hb zd_M_extensions_36 (by decide) w) ?_
    refine zg_1 (pc' := 38) (fun _ _ _ _ _ hl w => W.lcmp hx hb zd_M_extensions_37 w) ?_
    refine zg_2 (pc1 := 45) (pc2 := 41) (Classical.em _).symm (fun _ _ _ _ _ w1 w2 => lv_if_ne hx hb zd_M_extensions_38 (by decide) w1 w2) (fun hc => ?_) (fun hc => ?_)
    · rw [if_neg hc] at hf
      refine zg_v [3, 2, 1, 0] rfl ?_
      exact zw_M_extensions_45 X hR hF hret n s_6 a0 i_2 i_7 i_9 hf
    · rw [if_pos hc] at hf
      refine zg_1 (pc' := 42) (fun _ _ _ _ _ hl w => lv_aload_n hx hb zd_M_extensions_41 rfl (lv_at hl 3 rfl) w) ?_
      obtain ⟨s_13, hq, hf⟩ := zx_p hf
      refine zg_call (pc' := 45) (y := s_13) (rv := none) (rest := []) X hR (zm_M_yes hq) (fun H locs ls k j hsz hI hU hk => va_runV (As := []) (rest := []) ⟨hx, hb, hml, hown, htT⟩ (zc_M_yes l h0 D dA tb n hq) (cwV 0 htT (zw_gV zt_976 zt_978 zt_35 zt_71 zt_979) rfl rfl rfl (by decide +kernel) ⟨Nat.le_trans (Nat.le_of_ble_eq_true rfl) hF.1, Nat.le_trans (Nat.le_of_ble_eq_true rfl) hF.2⟩) ⟨(zg_pre hU).1, zg_recv hK hI h_8 rfl, (zg_pre hU).2⟩ rfl rfl hsz rfl (lv_room (Nat.le_of_ble_eq_true rfl)) zd_M_extensions_42 hk) rfl ?_
      refine zg_v [3, 2, 1, 0] rfl ?_
      exact zw_M_extensions_45 X hR hF hret n s_13 a0 i_2 i_7 i_9 hf
set_option maxHeartbeats 4000000 in
theorem zc_M_compose (l : Launch) (h0 : Nat) (D : va_G) (dA : Nat → ClassId) (tb : Nat → Nat) (n : Nat) {s0 : zh_S} {a0 : Nat} {r : Int32} {z : zh_S} (hf : zf_M_compose n s0 a0 = some (r, z)) : zc_M l zn_M_compose zs_M_compose 4 110 h0 D dA tb [.ref (h0 + a0)] s0 (some (.int r)) z := by
  rw [zf_M_compose] at hf
  refine zc_of (cc := ze_M_compose) (maxL := 1) (ret := (some .int)) (lv := [(0, .ref (h0 + a0))]) (by decide) rfl (Nat.le_of_ble_eq_true rfl) rfl ?_
  intro p e s m args below meth c X hnm
  obtain ⟨hx, hb, hml, hown, htT, hrt, hlk, x00, hIn⟩ := id X
  have hK := hIn.2.1
  have hT := hIn.2.2.1
  have hNe := hIn.2.2.2
  have hR : zg_R { frames := 4, cells := zh_N z - zh_N s0, slots := zh_M z - zh_M s0, locals := 110 } (zh_N s0) (zh_M s0) z := ⟨by show zh_N z ≤ zh_N s0 + (zh_N z - zh_N s0); omega, by show zh_M z ≤ zh_M s0 + (zh_M z - zh_M s0); omega⟩
  have hF : 4 ≤ ({ frames := 4, cells := zh_N z - zh_N s0, slots := zh_M z - zh_M s0, locals := 110 } : Room).frames ∧ 110 ≤ ({ frames := 4, cells := zh_N z - zh_N s0, slots := zh_M z - zh_M s0, locals := 110 } : Room).locals := ⟨Nat.le_refl _, Nat.le_refl _⟩
  have hret := fun (pc : Nat) (lv : List (Nat × Value)) (hd : decode ze_M_compose pc = .ok (.ireturn, 1)) => zg_iret (R := { frames := 4, cells := zh_N z - zh_N s0, slots := zh_M z - zh_M s0, locals := 110 }) (l := l) (e := e) (below := below) (c0 := zh_N s0) (s0 := zh_M s0) (z := z) (lv := lv) (v := r) X rfl hd
  refine zg_1 (pc' := 1) (fun _ _ _ _ _ hl w => lv_aload_n hx hb zd_M_compose_0 rfl (lv_at hl 0 rfl) w) ?_
  refine zg_1 (pc' := 2) (fun _ _ _ _ _ hl w => lv_iconst (v := (0 : Int32)) hx hb zd_M_compose_1 (by decide) w) ?_
  obtain ⟨h_2, hf⟩ := zx_ck hf
  obtain ⟨s_1, e_s_1, hf⟩ := zx_l hf
  refine zg_putI (pc' := 5) (ci := 8) (ty := .int) hx hb htT zi_M zy_M zo_M zj_M hown hK h_2 rfl rfl 1 (by decide) (htT _ zt_806) (fun _ h9 => h9) (Or.inl rfl) (by decide +kernel) rfl rfl rfl e_s_1 zd_M_compose_2 rfl ?_
  refine zg_1 (pc' := 6) (fun _ _ _ _ _ hl w => lv_aload_n hx hb zd_M_compose_5 rfl (lv_at hl 0 rfl) w) ?_
  refine zg_1 (pc' := 7) (fun _ _ _ _ _ hl w => lv_aload_n hx hb zd_M_compose_6 rfl (lv_at hl 0 rfl) w) ?_
  obtain ⟨a_3, h_4, hf⟩ := zx_p hf
  refine zg_get (pc' := 10) (ci := 8) hx hb htT zi_M hown hK (zx_oI e_s_1 h_2) rfl rfl 2 (by decide) (htT _ zt_807) (fun _ h9 => h9) (zx_hv h_4) zd_M_compose_7 rfl ?_
  refine zg_1 (pc' := 11) (fun _ _ _ _ _ hl w => lv_iconst (v := (0 : Int32)) hx hb zd_M_compose_10 (by decide) w) ?_
  obtain ⟨h_5, hf⟩ := zx_ck hf
  refine zg_lald (pc' := 12) hx hb hK h_5 zd_M_compose_11 rfl ?_
  obtain ⟨s_6, hq, hf⟩ := zx_p hf
  refine zg_call (pc' := 15) (y := s_6) (rv := none) (rest := []) X hR (zm_M_integer hq) (fun H locs ls k j hsz hI hU hk => va_runV (As := [.long (zh_J s_1 a_3 ((0 : Int32).toNatClampNeg))]) (rest := []) ⟨hx, hb, hml, hown, htT⟩ (zc_M_integer l h0 D dA tb n hq) (cwV 1 htT (zw_gV zt_956 zt_958 zt_30 zt_71 zt_959) rfl rfl rfl (by decide +kernel) ⟨Nat.le_trans (Nat.le_of_ble_eq_true rfl) hF.1, Nat.le_trans (Nat.le_of_ble_eq_true rfl) hF.2⟩) ⟨(zg_pre hU).1, zg_recv hK hI (zx_oI e_s_1 h_2) rfl, (zg_pre hU).2⟩ rfl rfl hsz rfl (lv_room (Nat.le_of_ble_eq_true rfl)) zd_M_compose_12 hk) rfl ?_
  refine zg_1 (pc' := 16) (fun _ _ _ _ _ hl w => lv_aload_n hx hb zd_M_compose_15 rfl (lv_at hl 0 rfl) w) ?_
  refine zg_1 (pc' := 18) (fun _ _ _ _ _ hl w => lv_bipush (v := (19 : Int32)) hx hb zd_M_compose_16 (by decide) w) ?_
  refine zg_1 (pc' := 19) (fun _ _ _ _ _ hl w => lv_aload_n hx hb zd_M_compose_18 rfl (lv_at hl 0 rfl) w) ?_
  obtain ⟨h_7, hf⟩ := zx_ck hf
  obtain ⟨a_8, h_9, hf⟩ := zx_p hf
  refine zg_get (pc' := 22) (ci := 8) hx hb htT zi_M hown hK h_7 rfl rfl 2 (by decide) (htT _ zt_807) (fun _ h9 => h9) (zx_hv h_9) zd_M_compose_19 rfl ?_
  refine zg_1 (pc' := 23) (fun _ _ _ _ _ hl w => lv_iconst (v := (1 : Int32)) hx hb zd_M_compose_22 (by decide) w) ?_
  obtain ⟨h_10, hf⟩ := zx_ck hf
  refine zg_lald (pc' := 24) hx hb hK h_10 zd_M_compose_23 rfl ?_
  obtain ⟨s_11, hq, hf⟩ := zx_p hf
  refine zg_call (pc' := 27) (y := s_11) (rv := none) (rest := []) X hR (zm_M_name hq) (fun H locs ls k j hsz hI hU hk => va_runV (As := [.int (19 : Int32), .long (zh_J s_6 a_8 ((1 : Int32).toNatClampNeg))]) (rest := []) ⟨hx, hb, hml, hown, htT⟩ (zc_M_name l h0 D dA tb n hq) (cwV 2 htT (zw_gV zt_964 zt_966 zt_32 zt_71 zt_967) rfl rfl rfl (by decide +kernel) ⟨Nat.le_trans (Nat.le_of_ble_eq_true rfl) hF.1, Nat.le_trans (Nat.le_of_ble_eq_true rfl) hF.2⟩) ⟨(zg_pre hU).1, zg_recv hK hI h_7 rfl, (zg_pre hU).2⟩ rfl rfl hsz rfl (lv_room (Nat.le_of_ble_eq_true rfl)) zd_M_compose_24 hk) rfl ?_
  refine zg_1 (pc' := 28) (fun _ _ _ _ _ hl w => lv_aload_n hx hb zd_M_compose_27 rfl (lv_at hl 0 rfl) w) ?_
  refine zg_1 (pc' := 29) (fun _ _ _ _ _ hl w => lv_aload_n hx hb zd_M_compose_28 rfl (lv_at hl 0 rfl) w) ?_
  obtain ⟨h_12, hf⟩ := zx_ck hf
  obtain ⟨a_13, h_14, hf⟩ := zx_p hf
  refine zg_get (pc' := 32) (ci := 8) hx hb htT zi_M hown hK h_12 rfl rfl 2 (by decide) (htT _ zt_807) (fun _ h9 => h9) (zx_hv h_14) zd_M_compose_29 rfl ?_
  refine zg_1 (pc' := 33) (fun _ _ _ _ _ hl w => lv_iconst (v := (2 : Int32)) hx hb zd_M_compose_32 (by decide) w) ?_
  obtain ⟨h_15, hf⟩ := zx_ck hf
  refine zg_lald (pc' := 34) hx hb hK h_15 zd_M_compose_33 rfl ?_
  obtain ⟨s_16, hq, hf⟩ := zx_p hf
  refine zg_call (pc' := 37) (y := s_16) (rv := none) (rest := []) X hR (zm_M_integer hq) (fun H locs ls k j hsz hI hU hk => va_runV (As := [.long (zh_J s_11 a_13 ((2 : Int32).toNatClampNeg))]) (rest := []) ⟨hx, hb, hml, hown, htT⟩ (zc_M_integer l h0 D dA tb n hq) (cwV 1 htT (zw_gV zt_956 zt_958 zt_30 zt_71 zt_959) rfl rfl rfl (by decide +kernel) ⟨Nat.le_trans (Nat.le_of_ble_eq_true rfl) hF.1, Nat.le_trans (Nat.le_of_ble_eq_true rfl) hF.2⟩) ⟨(zg_pre hU).1, zg_recv hK hI h_12 rfl, (zg_pre hU).2⟩ rfl rfl hsz rfl (lv_room (Nat.le_of_ble_eq_true rfl)) zd_M_compose_34 hk) rfl ?_
  refine zg_1 (pc' := 38) (fun _ _ _ _ _ hl w => lv_aload_n hx hb zd_M_compose_37 rfl (lv_at hl 0 rfl) w) ?_
  refine zg_1 (pc' := 39) (fun _ _ _ _ _ hl w => lv_aload_n hx hb zd_M_compose_38 rfl (lv_at hl 0 rfl) w) ?_
  obtain ⟨h_17, hf⟩ := zx_ck hf
  obtain ⟨a_18, h_19, hf⟩ := zx_p hf
  refine zg_get (pc' := 42) (ci := 8) hx hb htT zi_M hown hK h_17 rfl rfl 2 (by decide) (htT _ zt_807) (fun _ h9 => h9) (zx_hv h_19) zd_M_compose_39 rfl ?_
  refine zg_1 (pc' := 43) (fun _ _ _ _ _ hl w => lv_iconst (v := (3 : Int32)) hx hb zd_M_compose_42 (by decide) w) ?_
  obtain ⟨h_20, hf⟩ := zx_ck hf
  refine zg_lald (pc' := 44) hx hb hK h_20 zd_M_compose_43 rfl ?_
  obtain ⟨s_21, hq, hf⟩ := zx_p hf
  refine zg_call (pc' := 47) (y := s_21) (rv := none) (rest := []) X hR (zm_M_integer hq) (fun H locs ls k j hsz hI hU hk => va_runV (As := [.long (zh_J s_16 a_18 ((3 : Int32).toNatClampNeg))]) (rest := []) ⟨hx, hb, hml, hown, htT⟩ (zc_M_integer l h0 D dA tb n hq) (cwV 1 htT (zw_gV zt_956 zt_958 zt_30 zt_71 zt_959) rfl rfl rfl (by decide +kernel) ⟨Nat.le_trans (Nat.le_of_ble_eq_true rfl) hF.1, Nat.le_trans (Nat.le_of_ble_eq_true rfl) hF.2⟩) ⟨(zg_pre hU).1, zg_recv hK hI h_17 rfl, (zg_pre hU).2⟩ rfl rfl hsz rfl (lv_room (Nat.le_of_ble_eq_true rfl)) zd_M_compose_44 hk) rfl ?_
  refine zg_1 (pc' := 48) (fun _ _ _ _ _ hl w => lv_aload_n hx hb zd_M_compose_47 rfl (lv_at hl 0 rfl) w) ?_
  refine zg_1 (pc' := 50) (fun _ _ _ _ _ hl w => lv_bipush (v := (19 : Int32)) hx hb zd_M_compose_48 (by decide) w) ?_
  refine zg_1 (pc' := 51) (fun _ _ _ _ _ hl w => lv_aload_n hx hb zd_M_compose_50 rfl (lv_at hl 0 rfl) w) ?_
  obtain ⟨h_22, hf⟩ := zx_ck hf
  obtain ⟨a_23, h_24, hf⟩ := zx_p hf
  refine zg_get (pc' := 54) (ci := 8) hx hb htT zi_M hown hK h_22 rfl rfl 2 (by decide) (htT _ zt_807) (fun _ h9 => h9) (zx_hv h_24) zd_M_compose_51 rfl ?_
  refine zg_1 (pc' := 55) (fun _ _ _ _ _ hl w => lv_iconst (v := (4 : Int32)) hx hb zd_M_compose_54 (by decide) w) ?_
  obtain ⟨h_25, hf⟩ := zx_ck hf
  refine zg_lald (pc' := 56) hx hb hK h_25 zd_M_compose_55 rfl ?_
  obtain ⟨s_26, hq, hf⟩ := zx_p hf
  refine zg_call (pc' := 59) (y := s_26) (rv := none) (rest := []) X hR (zm_M_name hq) (fun H locs ls k j hsz hI hU hk => va_runV (As := [.int (19 : Int32), .long (zh_J s_21 a_23 ((4 : Int32).toNatClampNeg))]) (rest := []) ⟨hx, hb, hml, hown, htT⟩ (zc_M_name l h0 D dA tb n hq) (cwV 2 htT (zw_gV zt_964 zt_966 zt_32 zt_71 zt_967) rfl rfl rfl (by decide +kernel) ⟨Nat.le_trans (Nat.le_of_ble_eq_true rfl) hF.1, Nat.le_trans (Nat.le_of_ble_eq_true rfl) hF.2⟩) ⟨(zg_pre hU).1, zg_recv hK hI h_22 rfl, (zg_pre hU).2⟩ rfl rfl hsz rfl (lv_room (Nat.le_of_ble_eq_true rfl)) zd_M_compose_56 hk) rfl ?_
  refine zg_1 (pc' := 60) (fun _ _ _ _ _ hl w => lv_aload_n hx hb zd_M_compose_59 rfl (lv_at hl 0 rfl) w) ?_
  refine zg_1 (pc' := 61) (fun _ _ _ _ _ hl w => lv_aload_n hx hb zd_M_compose_60 rfl (lv_at hl 0 rfl) w) ?_
  obtain ⟨h_27, hf⟩ := zx_ck hf
  obtain ⟨a_28, h_29, hf⟩ := zx_p hf
  refine zg_get (pc' := 64) (ci := 8) hx hb htT zi_M hown hK h_27 rfl rfl 6 (by decide) (htT _ zt_811) (fun _ h9 => h9) (zx_hv h_29) zd_M_compose_61 rfl ?_
  refine zg_1 (pc' := 65) (fun _ _ _ _ _ hl w => lv_aload_n hx hb zd_M_compose_64 rfl (lv_at hl 0 rfl) w) ?_
  obtain ⟨a_30, h_31, hf⟩ := zx_p hf
  refine zg_get (pc' := 68) (ci := 8) hx hb htT zi_M hown hK h_27 rfl rfl 2 (by decide) (htT _ zt_807) (fun _ h9 => h9) (zx_hv h_31) zd_M_compose_65 rfl ?_
  refine zg_1 (pc' := 69) (fun _ _ _ _ _ hl w => lv_iconst (v := (5 : Int32)) hx hb zd_M_compose_68 (by decide) w) ?_
  obtain ⟨h_32, hf⟩ := zx_ck hf
  refine zg_lald (pc' := 70) hx hb hK h_32 zd_M_compose_69 rfl ?_
  refine zg_1 (pc' := 71) (fun _ _ _ _ _ hl w => lv_l2i (v := (zh_J s_26 a_30 ((5 : Int32).toNatClampNeg)).toInt32) hx hb zd_M_compose_70 rfl w) ?_
  obtain ⟨h_33, hf⟩ := zx_ck hf
  refine zg_lald (pc' := 72) hx hb hK h_33 zd_M_compose_71 rfl ?_
  obtain ⟨s_34, hq, hf⟩ := zx_p hf
  refine zg_call (pc' := 75) (y := s_34) (rv := none) (rest := []) X hR (zm_M_integer hq) (fun H locs ls k j hsz hI hU hk => va_runV (As := [.long (zh_J s_26 a_28 (((zh_J s_26 a_30 ((5 : Int32).toNatClampNeg)).toInt32).toNatClampNeg))]) (rest := []) ⟨hx, hb, hml, hown, htT⟩ (zc_M_integer l h0 D dA tb n hq) (cwV 1 htT (zw_gV zt_956 zt_958 zt_30 zt_71 zt_959) rfl rfl rfl (by decide +kernel) ⟨Nat.le_trans (Nat.le_of_ble_eq_true rfl) hF.1, Nat.le_trans (Nat.le_of_ble_eq_true rfl) hF.2⟩) ⟨(zg_pre hU).1, zg_recv hK hI h_27 rfl, (zg_pre hU).2⟩ rfl rfl hsz rfl (lv_room (Nat.le_of_ble_eq_true rfl)) zd_M_compose_72 hk) rfl ?_
  refine zg_1 (pc' := 76) (fun _ _ _ _ _ hl w => lv_aload_n hx hb zd_M_compose_75 rfl (lv_at hl 0 rfl) w) ?_
  refine zg_1 (pc' := 77) (fun _ _ _ _ _ hl w => lv_aload_n hx hb zd_M_compose_76 rfl (lv_at hl 0 rfl) w) ?_
  obtain ⟨h_35, hf⟩ := zx_ck hf
  obtain ⟨a_36, h_37, hf⟩ := zx_p hf
  refine zg_get (pc' := 80) (ci := 8) hx hb htT zi_M hown hK h_35 rfl rfl 7 (by decide) (htT _ zt_812) (fun _ h9 => h9) (zx_hv h_37) zd_M_compose_77 rfl ?_
  refine zg_1 (pc' := 81) (fun _ _ _ _ _ hl w => lv_aload_n hx hb zd_M_compose_80 rfl (lv_at hl 0 rfl) w) ?_
  obtain ⟨a_38, h_39, hf⟩ := zx_p hf
  refine zg_get (pc' := 84) (ci := 8) hx hb htT zi_M hown hK h_35 rfl rfl 2 (by decide) (htT _ zt_807) (fun _ h9 => h9) (zx_hv h_39) zd_M_compose_81 rfl ?_
  refine zg_1 (pc' := 85) (fun _ _ _ _ _ hl w => lv_iconst (v := (5 : Int32)) hx hb zd_M_compose_84 (by decide) w) ?_
  obtain ⟨h_40, hf⟩ := zx_ck hf
  refine zg_lald (pc' := 86) hx hb hK h_40 zd_M_compose_85 rfl ?_
  refine zg_1 (pc' := 87) (fun _ _ _ _ _ hl w => lv_l2i (v := (zh_J s_34 a_38 ((5 : Int32).toNatClampNeg)).toInt32) hx hb zd_M_compose_86 rfl w) ?_
  obtain ⟨h_41, hf⟩ := zx_ck hf
  refine zg_lald (pc' := 88) hx hb hK h_41 zd_M_compose_87 rfl ?_
  obtain ⟨s_42, hq, hf⟩ := zx_p hf
  refine zg_call (pc' := 91) (y := s_42) (rv := none) (rest := []) X hR (zm_M_integer hq) (fun H locs ls k j hsz hI hU hk => va_runV (As := [.long (zh_J s_34 a_36 (((zh_J s_34 a_38 ((5 : Int32).toNatClampNeg)).toInt32).toNatClampNeg))]) (rest := []) ⟨hx, hb, hml, hown, htT⟩ (zc_M_integer l h0 D dA tb n hq) (cwV 1 htT (zw_gV zt_956 zt_958 zt_30 zt_71 zt_959) rfl rfl rfl (by decide +kernel) ⟨Nat.le_trans (Nat.le_of_ble_eq_true rfl) hF.1, Nat.le_trans (Nat.le_of_ble_eq_true rfl) hF.2⟩) ⟨(zg_pre hU).1, zg_recv hK hI h_35 rfl, (zg_pre hU).2⟩ rfl rfl hsz rfl (lv_room (Nat.le_of_ble_eq_true rfl)) zd_M_compose_88 hk) rfl ?_
  refine zg_1 (pc' := 92) (fun _ _ _ _ _ hl w => lv_aload_n hx hb zd_M_compose_91 rfl (lv_at hl 0 rfl) w) ?_
  obtain ⟨h_44, hf⟩ := zx_ck hf
  obtain ⟨s_43, hq, hf⟩ := zx_p hf
  refine zg_call (pc' := 95) (y := s_43) (rv := none) (rest := []) X hR (zm_M_extensions hq) (fun H locs ls k j hsz hI hU hk => va_runV (As := []) (rest := []) ⟨hx, hb, hml, hown, htT⟩ (zc_M_extensions l h0 D dA tb n hq) (cwV 0 htT (zw_gV zt_968 zt_970 zt_33 zt_71 zt_971) rfl rfl rfl (by decide +kernel) ⟨Nat.le_trans (Nat.le_of_ble_eq_true rfl) hF.1, Nat.le_trans (Nat.le_of_ble_eq_true rfl) hF.2⟩) ⟨(zg_pre hU).1, zg_recv hK hI h_44 rfl, (zg_pre hU).2⟩ rfl rfl hsz rfl (lv_room (Nat.le_of_ble_eq_true rfl)) zd_M_compose_92 hk) rfl ?_
  refine zg_1 (pc' := 96) (fun _ _ _ _ _ hl w => lv_aload_n hx hb zd_M_compose_95 rfl (lv_at hl 0 rfl) w) ?_
  obtain ⟨h_46, hf⟩ := zx_ck hf
  obtain ⟨i_47, s_45, hq, hf⟩ := zx_b hf
  refine zg_call (pc' := 99) (y := s_45) (rv := (some (.int i_47))) (rest := []) X hR (zm_M_signed hq) (fun H locs ls k j hsz hI hU hk => va_runV (As := []) (rest := []) ⟨hx, hb, hml, hown, htT⟩ (zc_M_signed l h0 D dA tb n hq) (cwV 0 htT (zw_gV zt_984 zt_986 zt_37 zt_71 zt_987) rfl rfl rfl (by decide +kernel) ⟨Nat.le_trans (Nat.le_of_ble_eq_true rfl) hF.1, Nat.le_trans (Nat.le_of_ble_eq_true rfl) hF.2⟩) ⟨(zg_pre hU).1, zg_recv hK hI h_46 rfl, (zg_pre hU).2⟩ rfl rfl hsz rfl (lv_room (Nat.le_of_ble_eq_true rfl)) zd_M_compose_96 hk) rfl ?_
  obtain ⟨rfl, rfl⟩ := zx_r2 hf
  exact hret _ _ zd_M_compose_99
set_option maxHeartbeats 4000000 in
theorem zc_Tool_dropRevoked (l : Launch) (h0 : Nat) (D : va_G) (dA : Nat → ClassId) (tb : Nat → Nat) (n : Nat) {s0 : zh_S} {a0 : Nat} {z : zh_S} (hf : zf_Tool_dropRevoked n s0 a0 = some z) : zc_M l zn_Tool_dropRevoked zs_Tool_dropRevoked 0 0 h0 D dA tb [.ref (h0 + a0)] s0 none z := by
  rw [zf_Tool_dropRevoked] at hf
  refine zc_of (cc := ze_Tool_dropRevoked) (maxL := 1) (ret := none) (lv := [(0, .ref (h0 + a0))]) (by decide) rfl (Nat.le_of_ble_eq_true rfl) rfl ?_
  intro p e s m args below meth c X hnm
  obtain ⟨hx, hb, hml, hown, htT, hrt, hlk, x00, hIn⟩ := id X
  have hK := hIn.2.1
  have hT := hIn.2.2.1
  have hNe := hIn.2.2.2
  have hR : zg_R { frames := 0, cells := zh_N z - zh_N s0, slots := zh_M z - zh_M s0, locals := 0 } (zh_N s0) (zh_M s0) z := ⟨by show zh_N z ≤ zh_N s0 + (zh_N z - zh_N s0); omega, by show zh_M z ≤ zh_M s0 + (zh_M z - zh_M s0); omega⟩
  have hF : 0 ≤ ({ frames := 0, cells := zh_N z - zh_N s0, slots := zh_M z - zh_M s0, locals := 0 } : Room).frames ∧ 0 ≤ ({ frames := 0, cells := zh_N z - zh_N s0, slots := zh_M z - zh_M s0, locals := 0 } : Room).locals := ⟨Nat.le_refl _, Nat.le_refl _⟩
  have hret := fun (pc : Nat) (lv : List (Nat × Value)) (hd : decode ze_Tool_dropRevoked pc = .ok (.return_, 1)) => zg_vret (R := { frames := 0, cells := zh_N z - zh_N s0, slots := zh_M z - zh_M s0, locals := 0 }) (l := l) (e := e) (below := below) (c0 := zh_N s0) (s0 := zh_M s0) (z := z) (lv := lv) X hd
  refine zg_1 (pc' := 1) (fun _ _ _ _ _ hl w => lv_aload_n hx hb zd_Tool_dropRevoked_0 rfl (lv_at hl 0 rfl) w) ?_
  refine zg_1 (pc' := 2) (fun _ _ _ _ _ hl w => lv_iconst (v := (0 : Int32)) hx hb zd_Tool_dropRevoked_1 (by decide) w) ?_
  obtain ⟨h_2, hf⟩ := zx_ck hf
  obtain ⟨s_1, e_s_1, hf⟩ := zx_l hf
  refine zg_putI (pc' := 5) (ci := 6) (ty := .int) hx hb htT zi_Tool zy_Tool zo_Tool zj_Tool hown hK h_2 rfl rfl 3 (by decide) (htT _ zt_115) (fun _ h9 => h9) (Or.inl rfl) (by decide +kernel) rfl rfl rfl e_s_1 zd_Tool_dropRevoked_2 rfl ?_
  obtain rfl := zx_r1 hf
  exact hret _ _ zd_Tool_dropRevoked_5
set_option maxHeartbeats 4000000 in
theorem zc_V_forgive (l : Launch) (h0 : Nat) (D : va_G) (dA : Nat → ClassId) (tb : Nat → Nat) (n : Nat) {s0 : zh_S} {a0 : Nat} {z : zh_S} (hf : zf_V_forgive n s0 a0 = some z) : zc_M l zn_V_forgive zs_V_forgive 1 20 h0 D dA tb [.ref (h0 + a0)] s0 none z := by
  rw [zf_V_forgive] at hf
  refine zc_of (cc := ze_V_forgive) (maxL := 1) (ret := none) (lv := [(0, .ref (h0 + a0))]) (by decide) rfl (Nat.le_of_ble_eq_true rfl) rfl ?_
  intro p e s m args below meth c X hnm
  obtain ⟨hx, hb, hml, hown, htT, hrt, hlk, x00, hIn⟩ := id X
  have hK := hIn.2.1
  have hT := hIn.2.2.1
  have hNe := hIn.2.2.2
  have hR : zg_R { frames := 1, cells := zh_N z - zh_N s0, slots := zh_M z - zh_M s0, locals := 20 } (zh_N s0) (zh_M s0) z := ⟨by show zh_N z ≤ zh_N s0 + (zh_N z - zh_N s0); omega, by show zh_M z ≤ zh_M s0 + (zh_M z - zh_M s0); omega⟩
  have hF : 1 ≤ ({ frames := 1, cells := zh_N z - zh_N s0, slots := zh_M z - zh_M s0, locals := 20 } : Room).frames ∧ 20 ≤ ({ frames := 1, cells := zh_N z - zh_N s0, slots := zh_M z - zh_M s0, locals := 20 } : Room).locals := ⟨Nat.le_refl _, Nat.le_refl _⟩
  have hret := fun (pc : Nat) (lv : List (Nat × Value)) (hd : decode ze_V_forgive pc = .ok (.return_, 1)) => zg_vret (R := { frames := 1, cells := zh_N z - zh_N s0, slots := zh_M z - zh_M s0, locals := 20 }) (l := l) (e := e) (below := below) (c0 := zh_N s0) (s0 := zh_M s0) (z := z) (lv := lv) X hd
  refine zg_1 (pc' := 1) (fun _ _ _ _ _ hl w => lv_aload_n hx hb zd_V_forgive_0 rfl (lv_at hl 0 rfl) w) ?_
  obtain ⟨h_1, hf⟩ := zx_ck hf
  obtain ⟨a_2, h_3, hf⟩ := zx_p hf
  refine zg_get (pc' := 4) (ci := 7) hx hb htT zi_V hown hK h_1 rfl rfl 1 (by decide) (htT _ zt_303) (fun _ h9 => h9) (zx_hv h_3) zd_V_forgive_1 rfl ?_
  obtain ⟨h_5, hf⟩ := zx_ck hf
  obtain ⟨s_4, hq, hf⟩ := zx_p hf
  refine zg_call (pc' := 7) (y := s_4) (rv := none) (rest := []) X hR (zm_Tool_dropRevoked hq) (fun H locs ls k j hsz hI hU hk => va_runV (As := []) (rest := []) ⟨hx, hb, hml, hown, htT⟩ (zc_Tool_dropRevoked l h0 D dA tb n hq) (cwV 0 htT (zw_gV zt_385 zt_386 zt_387 zt_66 zt_388) rfl rfl rfl (by decide +kernel) ⟨Nat.le_trans (Nat.le_of_ble_eq_true rfl) hF.1, Nat.le_trans (Nat.le_of_ble_eq_true rfl) hF.2⟩) ⟨(zg_pre hU).1, zg_recv hK hI h_5 rfl, (zg_pre hU).2⟩ rfl rfl hsz rfl (lv_room (Nat.le_of_ble_eq_true rfl)) zd_V_forgive_4 hk) rfl ?_
  obtain rfl := zx_r1 hf
  exact hret _ _ zd_V_forgive_7
set_option maxHeartbeats 4000000 in
theorem zc_M_forgive (l : Launch) (h0 : Nat) (D : va_G) (dA : Nat → ClassId) (tb : Nat → Nat) (n : Nat) {s0 : zh_S} {a0 : Nat} {z : zh_S} (hf : zf_M_forgive n s0 a0 = some z) : zc_M l zn_M_forgive zs_M_forgive 0 0 h0 D dA tb [.ref (h0 + a0)] s0 none z := by
  rw [zf_M_forgive] at hf
  refine zc_of (cc := ze_M_forgive) (maxL := 1) (ret := none) (lv := [(0, .ref (h0 + a0))]) (by decide) rfl (Nat.le_of_ble_eq_true rfl) rfl ?_
  intro p e s m args below meth c X hnm
  obtain ⟨hx, hb, hml, hown, htT, hrt, hlk, x00, hIn⟩ := id X
  have hK := hIn.2.1
  have hT := hIn.2.2.1
  have hNe := hIn.2.2.2
  have hR : zg_R { frames := 0, cells := zh_N z - zh_N s0, slots := zh_M z - zh_M s0, locals := 0 } (zh_N s0) (zh_M s0) z := ⟨by show zh_N z ≤ zh_N s0 + (zh_N z - zh_N s0); omega, by show zh_M z ≤ zh_M s0 + (zh_M z - zh_M s0); omega⟩
  have hF : 0 ≤ ({ frames := 0, cells := zh_N z - zh_N s0, slots := zh_M z - zh_M s0, locals := 0 } : Room).frames ∧ 0 ≤ ({ frames := 0, cells := zh_N z - zh_N s0, slots := zh_M z - zh_M s0, locals := 0 } : Room).locals := ⟨Nat.le_refl _, Nat.le_refl _⟩
  have hret := fun (pc : Nat) (lv : List (Nat × Value)) (hd : decode ze_M_forgive pc = .ok (.return_, 1)) => zg_vret (R := { frames := 0, cells := zh_N z - zh_N s0, slots := zh_M z - zh_M s0, locals := 0 }) (l := l) (e := e) (below := below) (c0 := zh_N s0) (s0 := zh_M s0) (z := z) (lv := lv) X hd
  refine zg_1 (pc' := 1) (fun _ _ _ _ _ hl w => lv_aload_n hx hb zd_M_forgive_0 rfl (lv_at hl 0 rfl) w) ?_
  refine zg_1 (pc' := 2) (fun _ _ _ _ _ hl w => lv_iconst (v := (0 : Int32)) hx hb zd_M_forgive_1 (by decide) w) ?_
  obtain ⟨h_2, hf⟩ := zx_ck hf
  obtain ⟨s_1, e_s_1, hf⟩ := zx_l hf
  refine zg_putI (pc' := 5) (ci := 8) (ty := .int) hx hb htT zi_M zy_M zo_M zj_M hown hK h_2 rfl rfl 3 (by decide) (htT _ zt_808) (fun _ h9 => h9) (Or.inl rfl) (by decide +kernel) rfl rfl rfl e_s_1 zd_M_forgive_2 rfl ?_
  obtain rfl := zx_r1 hf
  exact hret _ _ zd_M_forgive_5
set_option maxHeartbeats 4000000 in
theorem zc_Tool_addRevoked (l : Launch) (h0 : Nat) (D : va_G) (dA : Nat → ClassId) (tb : Nat → Nat) (n : Nat) {s0 : zh_S} {a0 : Nat} {j1 : Int64} {j3 : Int64} {r : Int32} {z : zh_S} (hf : zf_Tool_addRevoked n s0 a0 j1 j3 = some (r, z)) : zc_M l zn_Tool_addRevoked zs_Tool_addRevoked 0 0 h0 D dA tb [.ref (h0 + a0), .long j1, .long j3] s0 (some (.int r)) z := by
  rw [zf_Tool_addRevoked] at hf
  refine zc_of (cc := ze_Tool_addRevoked) (maxL := 5) (ret := (some .boolean)) (lv := [(0, .ref (h0 + a0)), (1, .long j1), (3, .long j3)]) (by decide) rfl (Nat.le_of_ble_eq_true rfl) rfl ?_
  intro p e s m args below meth c X hnm
  obtain ⟨hx, hb, hml, hown, htT, hrt, hlk, x00, hIn⟩ := id X
  have hK := hIn.2.1
  have hT := hIn.2.2.1
  have hNe := hIn.2.2.2
  have hR : zg_R { frames := 0, cells := zh_N z - zh_N s0, slots := zh_M z - zh_M s0, locals := 0 } (zh_N s0) (zh_M s0) z := ⟨by show zh_N z ≤ zh_N s0 + (zh_N z - zh_N s0); omega, by show zh_M z ≤ zh_M s0 + (zh_M z - zh_M s0); omega⟩
  have hF : 0 ≤ ({ frames := 0, cells := zh_N z - zh_N s0, slots := zh_M z - zh_M s0, locals := 0 } : Room).frames ∧ 0 ≤ ({ frames := 0, cells := zh_N z - zh_N s0, slots := zh_M z - zh_M s0, locals := 0 } : Room).locals := ⟨Nat.le_refl _, Nat.le_refl _⟩
  have hret := fun (hz : r = 0 ∨ r = 1) (pc : Nat) (lv : List (Nat × Value)) (hd : decode ze_Tool_addRevoked pc = .ok (.ireturn, 1)) => zg_iret (R := { frames := 0, cells := zh_N z - zh_N s0, slots := zh_M z - zh_M s0, locals := 0 }) (l := l) (e := e) (below := below) (c0 := zh_N s0) (s0 := zh_M s0) (z := z) (lv := lv) (v := r) X (zx_nz hz) hd
  refine zg_1 (pc' := 1) (fun _ _ _ _ _ hl w => lv_lload_n hx hb zd_Tool_addRevoked_0 rfl (lv_at hl 1 rfl) w) ?_
  refine zg_1 (pc' := 2) (fun _ _ _ _ _ hl w => lv_lconst (v := (0 : Int64)) hx hb zd_Tool_addRevoked_1 (by decide) w) ?_
  refine zg_1 (pc' := 3) (fun _ _ _ _ _ hl w => W.lcmp hx hb zd_Tool_addRevoked_2 w) ?_
  refine zg_2 (pc1 := 20) (pc2 := 6) (Classical.em _) (fun _ _ _ _ _ w1 w2 => lv_if_lt hx hb zd_Tool_addRevoked_3 (by decide) w1 w2) (fun hc => ?_) (fun hc => ?_)
  · rw [if_pos hc] at hf
    refine zg_1 (pc' := 21) (fun _ _ _ _ _ hl w => lv_iconst (v := (0 : Int32)) hx hb zd_Tool_addRevoked_20 (by decide) w) ?_
    obtain ⟨rfl, rfl⟩ := zx_r2 hf
    exact hret (Or.inl rfl) _ _ zd_Tool_addRevoked_21
  · rw [if_neg hc] at hf
    refine zg_1 (pc' := 7) (fun _ _ _ _ _ hl w => lv_lload_n hx hb zd_Tool_addRevoked_6 rfl (lv_at hl 2 rfl) w) ?_
    refine zg_1 (pc' := 8) (fun _ _ _ _ _ hl w => lv_lconst (v := (0 : Int64)) hx hb zd_Tool_addRevoked_7 (by decide) w) ?_
    refine zg_1 (pc' := 9) (fun _ _ _ _ _ hl w => W.lcmp hx hb zd_Tool_addRevoked_8 w) ?_
    refine zg_2 (pc1 := 20) (pc2 := 12) (Classical.em _) (fun _ _ _ _ _ w1 w2 => lv_if_lt hx hb zd_Tool_addRevoked_9 (by decide) w1 w2) (fun hc => ?_) (fun hc => ?_)
    · rw [if_pos hc] at hf
      refine zg_1 (pc' := 21) (fun _ _ _ _ _ hl w => lv_iconst (v := (0 : Int32)) hx hb zd_Tool_addRevoked_20 (by decide) w) ?_
      obtain ⟨rfl, rfl⟩ := zx_r2 hf
      exact hret (Or.inl rfl) _ _ zd_Tool_addRevoked_21
    · rw [if_neg hc] at hf
      refine zg_1 (pc' := 13) (fun _ _ _ _ _ hl w => lv_aload_n hx hb zd_Tool_addRevoked_12 rfl (lv_at hl 0 rfl) w) ?_
      obtain ⟨h_1, hf⟩ := zx_ck hf
      refine zg_get (pc' := 16) (ci := 6) hx hb htT zi_Tool hown hK h_1 rfl rfl 3 (by decide) (htT _ zt_115) (fun _ h9 => h9) rfl zd_Tool_addRevoked_13 rfl ?_
      refine zg_1 (pc' := 17) (fun _ _ _ _ _ hl w => lv_iconst (v := (4 : Int32)) hx hb zd_Tool_addRevoked_16 (by decide) w) ?_
      refine zg_2 (pc1 := 22) (pc2 := 20) (Classical.em _) (fun _ _ _ _ _ w1 w2 => lv_icmp_lt hx hb zd_Tool_addRevoked_17 (by decide) w1 w2) (fun hc => ?_) (fun hc => ?_)
      · rw [if_pos hc] at hf
        refine zg_1 (pc' := 23) (fun _ _ _ _ _ hl w => lv_aload_n hx hb zd_Tool_addRevoked_22 rfl (lv_at hl 0 rfl) w) ?_
        obtain ⟨a_2, h_3, hf⟩ := zx_p hf
        refine zg_get (pc' := 26) (ci := 6) hx hb htT zi_Tool hown hK h_1 rfl rfl 1 (by decide) (htT _ zt_113) (fun _ h9 => h9) (zx_hv h_3) zd_Tool_addRevoked_23 rfl ?_
        refine zg_1 (pc' := 27) (fun _ _ _ _ _ hl w => lv_aload_n hx hb zd_Tool_addRevoked_26 rfl (lv_at hl 0 rfl) w) ?_
        refine zg_get (pc' := 30) (ci := 6) hx hb htT zi_Tool hown hK h_1 rfl rfl 3 (by decide) (htT _ zt_115) (fun _ h9 => h9) rfl zd_Tool_addRevoked_27 rfl ?_
        refine zg_1 (pc' := 31) (fun _ _ _ _ _ hl w => lv_lload_n hx hb zd_Tool_addRevoked_30 rfl (lv_at hl 1 rfl) w) ?_
        obtain ⟨h_5, hf⟩ := zx_ck hf
        obtain ⟨s_4, e_s_4, hf⟩ := zx_l hf
        refine zg_last (pc' := 32) hx hb hK h_5 e_s_4 zd_Tool_addRevoked_31 rfl ?_
        refine zg_1 (pc' := 33) (fun _ _ _ _ _ hl w => lv_aload_n hx hb zd_Tool_addRevoked_32 rfl (lv_at hl 0 rfl) w) ?_
        obtain ⟨h_6, hf⟩ := zx_ck hf
        obtain ⟨a_7, h_8, hf⟩ := zx_p hf
        refine zg_get (pc' := 36) (ci := 6) hx hb htT zi_Tool hown hK h_6 rfl rfl 2 (by decide) (htT _ zt_114) (fun _ h9 => h9) (zx_hv h_8) zd_Tool_addRevoked_33 rfl ?_
        refine zg_1 (pc' := 37) (fun _ _ _ _ _ hl w => lv_aload_n hx hb zd_Tool_addRevoked_36 rfl (lv_at hl 0 rfl) w) ?_
        refine zg_get (pc' := 40) (ci := 6) hx hb htT zi_Tool hown hK h_6 rfl rfl 3 (by decide) (htT _ zt_115) (fun _ h9 => h9) rfl zd_Tool_addRevoked_37 rfl ?_
        refine zg_1 (pc' := 41) (fun _ _ _ _ _ hl w => lv_lload_n hx hb zd_Tool_addRevoked_40 rfl (lv_at hl 2 rfl) w) ?_
        obtain ⟨h_10, hf⟩ := zx_ck hf
        obtain ⟨s_9, e_s_9, hf⟩ := zx_l hf
        refine zg_last (pc' := 42) hx hb hK h_10 e_s_9 zd_Tool_addRevoked_41 rfl ?_
        refine zg_1 (pc' := 43) (fun _ _ _ _ _ hl w => lv_aload_n hx hb zd_Tool_addRevoked_42 rfl (lv_at hl 0 rfl) w) ?_
        refine zg_1 (pc' := 44) (fun _ _ _ _ _ hl w => lv_dup hx hb zd_Tool_addRevoked_43 rfl w) ?_
        obtain ⟨h_11, hf⟩ := zx_ck hf
        refine zg_get (pc' := 47) (ci := 6) hx hb htT zi_Tool hown hK h_11 rfl rfl 3 (by decide) (htT _ zt_115) (fun _ h9 => h9) rfl zd_Tool_addRevoked_44 rfl ?_
        refine zg_1 (pc' := 48) (fun _ _ _ _ _ hl w => lv_iconst (v := (1 : Int32)) hx hb zd_Tool_addRevoked_47 (by decide) w) ?_
        refine zg_1 (pc' := 49) (fun _ _ _ _ _ hl w => lv_iadd hx hb zd_Tool_addRevoked_48 w) ?_
        obtain ⟨s_12, e_s_12, hf⟩ := zx_l hf
        refine zg_putI (pc' := 52) (ci := 6) (ty := .int) hx hb htT zi_Tool zy_Tool zo_Tool zj_Tool hown hK h_11 rfl rfl 3 (by decide) (htT _ zt_115) (fun _ h9 => h9) (Or.inl rfl) (by decide +kernel) rfl rfl rfl e_s_12 zd_Tool_addRevoked_49 rfl ?_
        refine zg_1 (pc' := 53) (fun _ _ _ _ _ hl w => lv_iconst (v := (1 : Int32)) hx hb zd_Tool_addRevoked_52 (by decide) w) ?_
        obtain ⟨rfl, rfl⟩ := zx_r2 hf
        exact hret (Or.inr rfl) _ _ zd_Tool_addRevoked_53
      · rw [if_neg hc] at hf
        refine zg_1 (pc' := 21) (fun _ _ _ _ _ hl w => lv_iconst (v := (0 : Int32)) hx hb zd_Tool_addRevoked_20 (by decide) w) ?_
        obtain ⟨rfl, rfl⟩ := zx_r2 hf
        exact hret (Or.inl rfl) _ _ zd_Tool_addRevoked_21
set_option maxHeartbeats 4000000 in
theorem zc_V_revoke (l : Launch) (h0 : Nat) (D : va_G) (dA : Nat → ClassId) (tb : Nat → Nat) (n : Nat) {s0 : zh_S} {a0 : Nat} {j1 : Int64} {j3 : Int64} {r : Int32} {z : zh_S} (hf : zf_V_revoke n s0 a0 j1 j3 = some (r, z)) : zc_M l zn_V_revoke zs_V_revoke 1 24 h0 D dA tb [.ref (h0 + a0), .long j1, .long j3] s0 (some (.int r)) z := by
  rw [zf_V_revoke] at hf
  refine zc_of (cc := ze_V_revoke) (maxL := 5) (ret := (some .boolean)) (lv := [(0, .ref (h0 + a0)), (1, .long j1), (3, .long j3)]) (by decide) rfl (Nat.le_of_ble_eq_true rfl) rfl ?_
  intro p e s m args below meth c X hnm
  obtain ⟨hx, hb, hml, hown, htT, hrt, hlk, x00, hIn⟩ := id X
  have hK := hIn.2.1
  have hT := hIn.2.2.1
  have hNe := hIn.2.2.2
  have hR : zg_R { frames := 1, cells := zh_N z - zh_N s0, slots := zh_M z - zh_M s0, locals := 24 } (zh_N s0) (zh_M s0) z := ⟨by show zh_N z ≤ zh_N s0 + (zh_N z - zh_N s0); omega, by show zh_M z ≤ zh_M s0 + (zh_M z - zh_M s0); omega⟩
  have hF : 1 ≤ ({ frames := 1, cells := zh_N z - zh_N s0, slots := zh_M z - zh_M s0, locals := 24 } : Room).frames ∧ 24 ≤ ({ frames := 1, cells := zh_N z - zh_N s0, slots := zh_M z - zh_M s0, locals := 24 } : Room).locals := ⟨Nat.le_refl _, Nat.le_refl _⟩
  have hret := fun (hz : r = 0 ∨ r = 1) (pc : Nat) (lv : List (Nat × Value)) (hd : decode ze_V_revoke pc = .ok (.ireturn, 1)) => zg_iret (R := { frames := 1, cells := zh_N z - zh_N s0, slots := zh_M z - zh_M s0, locals := 24 }) (l := l) (e := e) (below := below) (c0 := zh_N s0) (s0 := zh_M s0) (z := z) (lv := lv) (v := r) X (zx_nz hz) hd
  refine zg_1 (pc' := 1) (fun _ _ _ _ _ hl w => lv_aload_n hx hb zd_V_revoke_0 rfl (lv_at hl 0 rfl) w) ?_
  obtain ⟨h_1, hf⟩ := zx_ck hf
  obtain ⟨a_2, h_3, hf⟩ := zx_p hf
  refine zg_get (pc' := 4) (ci := 7) hx hb htT zi_V hown hK h_1 rfl rfl 1 (by decide) (htT _ zt_303) (fun _ h9 => h9) (zx_hv h_3) zd_V_revoke_1 rfl ?_
  refine zg_1 (pc' := 5) (fun _ _ _ _ _ hl w => lv_lload_n hx hb zd_V_revoke_4 rfl (lv_at hl 1 rfl) w) ?_
  refine zg_1 (pc' := 6) (fun _ _ _ _ _ hl w => lv_lload_n hx hb zd_V_revoke_5 rfl (lv_at hl 2 rfl) w) ?_
  obtain ⟨h_5, hf⟩ := zx_ck hf
  obtain ⟨i_6, s_4, hq, hf⟩ := zx_b hf
  refine zg_call (pc' := 9) (y := s_4) (rv := (some (.int i_6))) (rest := []) X hR (zm_Tool_addRevoked hq) (fun H locs ls k j hsz hI hU hk => va_runV (As := [.long j1, .long j3]) (rest := []) ⟨hx, hb, hml, hown, htT⟩ (zc_Tool_addRevoked l h0 D dA tb n hq) (cwV 2 htT (zw_gV zt_377 zt_378 zt_379 zt_66 zt_380) rfl rfl rfl (by decide +kernel) ⟨Nat.le_trans (Nat.le_of_ble_eq_true rfl) hF.1, Nat.le_trans (Nat.le_of_ble_eq_true rfl) hF.2⟩) ⟨(zg_pre hU).1, zg_recv hK hI h_5 rfl, (zg_pre hU).2⟩ rfl rfl hsz rfl (lv_room (Nat.le_of_ble_eq_true rfl)) zd_V_revoke_6 hk) rfl ?_
  obtain ⟨h_7, hf⟩ := zx_ck hf
  obtain ⟨rfl, rfl⟩ := zx_r2 hf
  exact hret h_7 _ _ zd_V_revoke_9
set_option maxHeartbeats 4000000 in
theorem zc_M_revoke (l : Launch) (h0 : Nat) (D : va_G) (dA : Nat → ClassId) (tb : Nat → Nat) (n : Nat) {s0 : zh_S} {a0 : Nat} {j1 : Int64} {j3 : Int64} {r : Int32} {z : zh_S} (hf : zf_M_revoke n s0 a0 j1 j3 = some (r, z)) : zc_M l zn_M_revoke zs_M_revoke 0 0 h0 D dA tb [.ref (h0 + a0), .long j1, .long j3] s0 (some (.int r)) z := by
  rw [zf_M_revoke] at hf
  refine zc_of (cc := ze_M_revoke) (maxL := 5) (ret := (some .boolean)) (lv := [(0, .ref (h0 + a0)), (1, .long j1), (3, .long j3)]) (by decide) rfl (Nat.le_of_ble_eq_true rfl) rfl ?_
  intro p e s m args below meth c X hnm
  obtain ⟨hx, hb, hml, hown, htT, hrt, hlk, x00, hIn⟩ := id X
  have hK := hIn.2.1
  have hT := hIn.2.2.1
  have hNe := hIn.2.2.2
  have hR : zg_R { frames := 0, cells := zh_N z - zh_N s0, slots := zh_M z - zh_M s0, locals := 0 } (zh_N s0) (zh_M s0) z := ⟨by show zh_N z ≤ zh_N s0 + (zh_N z - zh_N s0); omega, by show zh_M z ≤ zh_M s0 + (zh_M z - zh_M s0); omega⟩
  have hF : 0 ≤ ({ frames := 0, cells := zh_N z - zh_N s0, slots := zh_M z - zh_M s0, locals := 0 } : Room).frames ∧ 0 ≤ ({ frames := 0, cells := zh_N z - zh_N s0, slots := zh_M z - zh_M s0, locals := 0 } : Room).locals := ⟨Nat.le_refl _, Nat.le_refl _⟩
  have hret := fun (hz : r = 0 ∨ r = 1) (pc : Nat) (lv : List (Nat × Value)) (hd : decode ze_M_revoke pc = .ok (.ireturn, 1)) => zg_iret (R := { frames := 0, cells := zh_N z - zh_N s0, slots := zh_M z - zh_M s0, locals := 0 }) (l := l) (e := e) (below := below) (c0 := zh_N s0) (s0 := zh_M s0) (z := z) (lv := lv) (v := r) X (zx_nz hz) hd
  refine zg_1 (pc' := 1) (fun _ _ _ _ _ hl w => lv_lload_n hx hb zd_M_revoke_0 rfl (lv_at hl 1 rfl) w) ?_
  refine zg_1 (pc' := 2) (fun _ _ _ _ _ hl w => lv_lconst (v := (0 : Int64)) hx hb zd_M_revoke_1 (by decide) w) ?_
  refine zg_1 (pc' := 3) (fun _ _ _ _ _ hl w => W.lcmp hx hb zd_M_revoke_2 w) ?_
  refine zg_2 (pc1 := 20) (pc2 := 6) (Classical.em _) (fun _ _ _ _ _ w1 w2 => lv_if_lt hx hb zd_M_revoke_3 (by decide) w1 w2) (fun hc => ?_) (fun hc => ?_)
  · rw [if_pos hc] at hf
    refine zg_1 (pc' := 21) (fun _ _ _ _ _ hl w => lv_iconst (v := (0 : Int32)) hx hb zd_M_revoke_20 (by decide) w) ?_
    obtain ⟨rfl, rfl⟩ := zx_r2 hf
    exact hret (Or.inl rfl) _ _ zd_M_revoke_21
  · rw [if_neg hc] at hf
    refine zg_1 (pc' := 7) (fun _ _ _ _ _ hl w => lv_lload_n hx hb zd_M_revoke_6 rfl (lv_at hl 2 rfl) w) ?_
    refine zg_1 (pc' := 8) (fun _ _ _ _ _ hl w => lv_lconst (v := (0 : Int64)) hx hb zd_M_revoke_7 (by decide) w) ?_
    refine zg_1 (pc' := 9) (fun _ _ _ _ _ hl w => W.lcmp hx hb zd_M_revoke_8 w) ?_
    refine zg_2 (pc1 := 20) (pc2 := 12) (Classical.em _) (fun _ _ _ _ _ w1 w2 => lv_if_lt hx hb zd_M_revoke_9 (by decide) w1 w2) (fun hc => ?_) (fun hc => ?_)
    · rw [if_pos hc] at hf
      refine zg_1 (pc' := 21) (fun _ _ _ _ _ hl w => lv_iconst (v := (0 : Int32)) hx hb zd_M_revoke_20 (by decide) w) ?_
      obtain ⟨rfl, rfl⟩ := zx_r2 hf
      exact hret (Or.inl rfl) _ _ zd_M_revoke_21
    · rw [if_neg hc] at hf
      refine zg_1 (pc' := 13) (fun _ _ _ _ _ hl w => lv_aload_n hx hb zd_M_revoke_12 rfl (lv_at hl 0 rfl) w) ?_
      obtain ⟨h_1, hf⟩ := zx_ck hf
      refine zg_get (pc' := 16) (ci := 8) hx hb htT zi_M hown hK h_1 rfl rfl 3 (by decide) (htT _ zt_808) (fun _ h9 => h9) rfl zd_M_revoke_13 rfl ?_
      refine zg_1 (pc' := 17) (fun _ _ _ _ _ hl w => lv_iconst (v := (4 : Int32)) hx hb zd_M_revoke_16 (by decide) w) ?_
      refine zg_2 (pc1 := 22) (pc2 := 20) (Classical.em _).symm (fun _ _ _ _ _ w1 w2 => lv_icmp_ne hx hb zd_M_revoke_17 (by decide) w1 w2) (fun hc => ?_) (fun hc => ?_)
      · rw [if_neg hc] at hf
        refine zg_1 (pc' := 23) (fun _ _ _ _ _ hl w => lv_aload_n hx hb zd_M_revoke_22 rfl (lv_at hl 0 rfl) w) ?_
        obtain ⟨a_2, h_3, hf⟩ := zx_p hf
        refine zg_get (pc' := 26) (ci := 8) hx hb htT zi_M hown hK h_1 rfl rfl 4 (by decide) (htT _ zt_809) (fun _ h9 => h9) (zx_hv h_3) zd_M_revoke_23 rfl ?_
        refine zg_1 (pc' := 27) (fun _ _ _ _ _ hl w => lv_aload_n hx hb zd_M_revoke_26 rfl (lv_at hl 0 rfl) w) ?_
        refine zg_get (pc' := 30) (ci := 8) hx hb htT zi_M hown hK h_1 rfl rfl 3 (by decide) (htT _ zt_808) (fun _ h9 => h9) rfl zd_M_revoke_27 rfl ?_
        refine zg_1 (pc' := 31) (fun _ _ _ _ _ hl w => lv_lload_n hx hb zd_M_revoke_30 rfl (lv_at hl 1 rfl) w) ?_
        obtain ⟨h_5, hf⟩ := zx_ck hf
        obtain ⟨s_4, e_s_4, hf⟩ := zx_l hf
        refine zg_last (pc' := 32) hx hb hK h_5 e_s_4 zd_M_revoke_31 rfl ?_
        refine zg_1 (pc' := 33) (fun _ _ _ _ _ hl w => lv_aload_n hx hb zd_M_revoke_32 rfl (lv_at hl 0 rfl) w) ?_
        obtain ⟨h_6, hf⟩ := zx_ck hf
        obtain ⟨a_7, h_8, hf⟩ := zx_p hf
        refine zg_get (pc' := 36) (ci := 8) hx hb htT zi_M hown hK h_6 rfl rfl 5 (by decide) (htT _ zt_810) (fun _ h9 => h9) (zx_hv h_8) zd_M_revoke_33 rfl ?_
        refine zg_1 (pc' := 37) (fun _ _ _ _ _ hl w => lv_aload_n hx hb zd_M_revoke_36 rfl (lv_at hl 0 rfl) w) ?_
        refine zg_get (pc' := 40) (ci := 8) hx hb htT zi_M hown hK h_6 rfl rfl 3 (by decide) (htT _ zt_808) (fun _ h9 => h9) rfl zd_M_revoke_37 rfl ?_
        refine zg_1 (pc' := 41) (fun _ _ _ _ _ hl w => lv_lload_n hx hb zd_M_revoke_40 rfl (lv_at hl 2 rfl) w) ?_
        obtain ⟨h_10, hf⟩ := zx_ck hf
        obtain ⟨s_9, e_s_9, hf⟩ := zx_l hf
        refine zg_last (pc' := 42) hx hb hK h_10 e_s_9 zd_M_revoke_41 rfl ?_
        refine zg_1 (pc' := 43) (fun _ _ _ _ _ hl w => lv_aload_n hx hb zd_M_revoke_42 rfl (lv_at hl 0 rfl) w) ?_
        refine zg_1 (pc' := 44) (fun _ _ _ _ _ hl w => lv_dup hx hb zd_M_revoke_43 rfl w) ?_
        obtain ⟨h_11, hf⟩ := zx_ck hf
        refine zg_get (pc' := 47) (ci := 8) hx hb htT zi_M hown hK h_11 rfl rfl 3 (by decide) (htT _ zt_808) (fun _ h9 => h9) rfl zd_M_revoke_44 rfl ?_
        refine zg_1 (pc' := 48) (fun _ _ _ _ _ hl w => lv_iconst (v := (1 : Int32)) hx hb zd_M_revoke_47 (by decide) w) ?_
        refine zg_1 (pc' := 49) (fun _ _ _ _ _ hl w => lv_iadd hx hb zd_M_revoke_48 w) ?_
        obtain ⟨s_12, e_s_12, hf⟩ := zx_l hf
        refine zg_putI (pc' := 52) (ci := 8) (ty := .int) hx hb htT zi_M zy_M zo_M zj_M hown hK h_11 rfl rfl 3 (by decide) (htT _ zt_808) (fun _ h9 => h9) (Or.inl rfl) (by decide +kernel) rfl rfl rfl e_s_12 zd_M_revoke_49 rfl ?_
        refine zg_1 (pc' := 53) (fun _ _ _ _ _ hl w => lv_iconst (v := (1 : Int32)) hx hb zd_M_revoke_52 (by decide) w) ?_
        obtain ⟨rfl, rfl⟩ := zx_r2 hf
        exact hret (Or.inr rfl) _ _ zd_M_revoke_53
      · rw [if_pos hc] at hf
        refine zg_1 (pc' := 21) (fun _ _ _ _ _ hl w => lv_iconst (v := (0 : Int32)) hx hb zd_M_revoke_20 (by decide) w) ?_
        obtain ⟨rfl, rfl⟩ := zx_r2 hf
        exact hret (Or.inl rfl) _ _ zd_M_revoke_21
set_option maxHeartbeats 4000000 in
theorem zc_Tool_isAllowed (l : Launch) (h0 : Nat) (D : va_G) (dA : Nat → ClassId) (tb : Nat → Nat) (n : Nat) {s0 : zh_S} {i0 : Int32} {j1 : Int64} {r : Int32} (hf : zf_Tool_isAllowed n i0 j1 = some r) : zc_M l zn_Tool_isAllowed zs_Tool_isAllowed 1 25 h0 D dA tb [.int i0, .long j1] s0 (some (.int r)) s0 := by
  rw [zf_Tool_isAllowed] at hf
  refine zc_of (cc := ze_Tool_isAllowed) (maxL := 3) (ret := (some .boolean)) (lv := [(0, .int i0), (1, .long j1)]) (by decide) rfl (Nat.le_of_ble_eq_true rfl) rfl ?_
  intro p e s m args below meth c X hnm
  obtain ⟨hx, hb, hml, hown, htT, hrt, hlk, x00, hIn⟩ := id X
  have hK := hIn.2.1
  have hT := hIn.2.2.1
  have hNe := hIn.2.2.2
  have hR : zg_R { frames := 1, cells := zh_N s0 - zh_N s0, slots := zh_M s0 - zh_M s0, locals := 25 } (zh_N s0) (zh_M s0) s0 := ⟨by show zh_N s0 ≤ zh_N s0 + (zh_N s0 - zh_N s0); omega, by show zh_M s0 ≤ zh_M s0 + (zh_M s0 - zh_M s0); omega⟩
  have hF : 1 ≤ ({ frames := 1, cells := zh_N s0 - zh_N s0, slots := zh_M s0 - zh_M s0, locals := 25 } : Room).frames ∧ 25 ≤ ({ frames := 1, cells := zh_N s0 - zh_N s0, slots := zh_M s0 - zh_M s0, locals := 25 } : Room).locals := ⟨Nat.le_refl _, Nat.le_refl _⟩
  have hret := fun (hz : r = 0 ∨ r = 1) (pc : Nat) (lv : List (Nat × Value)) (hd : decode ze_Tool_isAllowed pc = .ok (.ireturn, 1)) => zg_iret (R := { frames := 1, cells := zh_N s0 - zh_N s0, slots := zh_M s0 - zh_M s0, locals := 25 }) (l := l) (e := e) (below := below) (c0 := zh_N s0) (s0 := zh_M s0) (z := s0) (lv := lv) (v := r) X (zx_nz hz) hd
  refine zg_1 (pc' := 1) (fun _ _ _ _ _ hl w => lv_iload_n hx hb zd_Tool_isAllowed_0 rfl (lv_at hl 0 rfl) w) ?_
  by_cases hk0 : i0 = 0
  · rw [if_pos hk0] at hf
    refine zg_1 (pc' := 68) (fun _ _ _ _ _ hl w => lv_tableIn hx hb zd_Tool_isAllowed_1 (by rw [hk0]; decide) (by rw [hk0]; decide) (by rw [hk0]; rfl) (by decide) w) ?_
    refine zg_1 (pc' := 69) (fun _ _ _ _ _ hl w => lv_lload_n hx hb zd_Tool_isAllowed_68 rfl (lv_at hl 1 rfl) w) ?_
    refine zg_1 (pc' := 70) (fun _ _ _ _ _ hl w => lv_lconst (v := (0 : Int64)) hx hb zd_Tool_isAllowed_69 (by decide) w) ?_
    refine zg_1 (pc' := 71) (fun _ _ _ _ _ hl w => W.lcmp hx hb zd_Tool_isAllowed_70 w) ?_
    refine zg_2 (pc1 := 78) (pc2 := 74) (Classical.em _) (fun _ _ _ _ _ w1 w2 => lv_if_lt hx hb zd_Tool_isAllowed_71 (by decide) w1 w2) (fun hc => ?_) (fun hc => ?_)
    · rw [if_pos hc] at hf
      refine zg_1 (pc' := 79) (fun _ _ _ _ _ hl w => lv_iconst (v := (0 : Int32)) hx hb zd_Tool_isAllowed_78 (by decide) w) ?_
      obtain rfl := zx_r1 hf
      exact hret (Or.inl rfl) _ _ zd_Tool_isAllowed_79
    · rw [if_neg hc] at hf
      refine zg_1 (pc' := 75) (fun _ _ _ _ _ hl w => lv_iconst (v := (1 : Int32)) hx hb zd_Tool_isAllowed_74 (by decide) w) ?_
      refine zg_1 (pc' := 79) (fun _ _ _ _ _ hl w => lv_goto hx hb zd_Tool_isAllowed_75 (by decide) w) ?_
      obtain rfl := zx_r1 hf
      exact hret (Or.inr rfl) _ _ zd_Tool_isAllowed_79
  rw [if_neg hk0] at hf
  by_cases hk1 : i0 = 1
  · rw [if_pos hk1] at hf
    refine zg_1 (pc' := 80) (fun _ _ _ _ _ hl w => lv_tableIn hx hb zd_Tool_isAllowed_1 (by rw [hk1]; decide) (by rw [hk1]; decide) (by rw [hk1]; rfl) (by decide) w) ?_
    refine zg_1 (pc' := 81) (fun _ _ _ _ _ hl w => lv_lload_n hx hb zd_Tool_isAllowed_80 rfl (lv_at hl 1 rfl) w) ?_
    obtain ⟨i_1, hq, hf⟩ := zx_p hf
    refine zg_call (pc' := 84) (y := s0) (rv := (some (.int i_1))) (rest := []) X hR ⟨Nat.le_refl _, Nat.le_refl _⟩ (fun H locs ls k j hsz hI hU hk => va_runS (As := [.long j1]) (rest := []) ⟨hx, hb, hml, hown, htT⟩ (zc_Names_isName l h0 D dA tb n hq) (va_cwS 1 htT (zw_gS zt_362 zt_363 zt_72 zt_364) rfl rfl rfl (by decide +kernel) ⟨Nat.le_trans (Nat.le_of_ble_eq_true rfl) hF.1, Nat.le_trans (Nat.le_of_ble_eq_true rfl) hF.2⟩) (zg_pre hU) rfl rfl hsz rfl (lv_room (Nat.le_of_ble_eq_true rfl)) zd_Tool_isAllowed_81 hk) rfl ?_
    obtain ⟨h_2, hf⟩ := zx_ck hf
    obtain rfl := zx_r1 hf
    exact hret h_2 _ _ zd_Tool_isAllowed_84
  rw [if_neg hk1] at hf
  by_cases hk2 : i0 = 2
  · rw [if_pos hk2] at hf
    refine zg_1 (pc' := 68) (fun _ _ _ _ _ hl w => lv_tableIn hx hb zd_Tool_isAllowed_1 (by rw [hk2]; decide) (by rw [hk2]; decide) (by rw [hk2]; rfl) (by decide) w) ?_
    refine zg_1 (pc' := 69) (fun _ _ _ _ _ hl w => lv_lload_n hx hb zd_Tool_isAllowed_68 rfl (lv_at hl 1 rfl) w) ?_
    refine zg_1 (pc' := 70) (fun _ _ _ _ _ hl w => lv_lconst (v := (0 : Int64)) hx hb zd_Tool_isAllowed_69 (by decide) w) ?_
    refine zg_1 (pc' := 71) (fun _ _ _ _ _ hl w => W.lcmp hx hb zd_Tool_isAllowed_70 w) ?_
    refine zg_2 (pc1 := 78) (pc2 := 74) (Classical.em _) (fun _ _ _ _ _ w1 w2 => lv_if_lt hx hb zd_Tool_isAllowed_71 (by decide) w1 w2) (fun hc => ?_) (fun hc => ?_)
    · rw [if_pos hc] at hf
      refine zg_1 (pc' := 79) (fun _ _ _ _ _ hl w => lv_iconst (v := (0 : Int32)) hx hb zd_Tool_isAllowed_78 (by decide) w) ?_
      obtain rfl := zx_r1 hf
      exact hret (Or.inl rfl) _ _ zd_Tool_isAllowed_79
    · rw [if_neg hc] at hf
      refine zg_1 (pc' := 75) (fun _ _ _ _ _ hl w => lv_iconst (v := (1 : Int32)) hx hb zd_Tool_isAllowed_74 (by decide) w) ?_
      refine zg_1 (pc' := 79) (fun _ _ _ _ _ hl w => lv_goto hx hb zd_Tool_isAllowed_75 (by decide) w) ?_
      obtain rfl := zx_r1 hf
      exact hret (Or.inr rfl) _ _ zd_Tool_isAllowed_79
  rw [if_neg hk2] at hf
  by_cases hk3 : i0 = 3
  · rw [if_pos hk3] at hf
    refine zg_1 (pc' := 68) (fun _ _ _ _ _ hl w => lv_tableIn hx hb zd_Tool_isAllowed_1 (by rw [hk3]; decide) (by rw [hk3]; decide) (by rw [hk3]; rfl) (by decide) w) ?_
    refine zg_1 (pc' := 69) (fun _ _ _ _ _ hl w => lv_lload_n hx hb zd_Tool_isAllowed_68 rfl (lv_at hl 1 rfl) w) ?_
    refine zg_1 (pc' := 70) (fun _ _ _ _ _ hl w => lv_lconst (v := (0 : Int64)) hx hb zd_Tool_isAllowed_69 (by decide) w) ?_
    refine zg_1 (pc' := 71) (fun _ _ _ _ _ hl w => W.lcmp hx hb zd_Tool_isAllowed_70 w) ?_
    refine zg_2 (pc1 := 78) (pc2 := 74) (Classical.em _) (fun _ _ _ _ _ w1 w2 => lv_if_lt hx hb zd_Tool_isAllowed_71 (by decide) w1 w2) (fun hc => ?_) (fun hc => ?_)
    · rw [if_pos hc] at hf
      refine zg_1 (pc' := 79) (fun _ _ _ _ _ hl w => lv_iconst (v := (0 : Int32)) hx hb zd_Tool_isAllowed_78 (by decide) w) ?_
      obtain rfl := zx_r1 hf
      exact hret (Or.inl rfl) _ _ zd_Tool_isAllowed_79
    · rw [if_neg hc] at hf
      refine zg_1 (pc' := 75) (fun _ _ _ _ _ hl w => lv_iconst (v := (1 : Int32)) hx hb zd_Tool_isAllowed_74 (by decide) w) ?_
      refine zg_1 (pc' := 79) (fun _ _ _ _ _ hl w => lv_goto hx hb zd_Tool_isAllowed_75 (by decide) w) ?_
      obtain rfl := zx_r1 hf
      exact hret (Or.inr rfl) _ _ zd_Tool_isAllowed_79
  rw [if_neg hk3] at hf
  by_cases hk4 : i0 = 4
  · rw [if_pos hk4] at hf
    refine zg_1 (pc' := 80) (fun _ _ _ _ _ hl w => lv_tableIn hx hb zd_Tool_isAllowed_1 (by rw [hk4]; decide) (by rw [hk4]; decide) (by rw [hk4]; rfl) (by decide) w) ?_
    refine zg_1 (pc' := 81) (fun _ _ _ _ _ hl w => lv_lload_n hx hb zd_Tool_isAllowed_80 rfl (lv_at hl 1 rfl) w) ?_
    obtain ⟨i_3, hq, hf⟩ := zx_p hf
    refine zg_call (pc' := 84) (y := s0) (rv := (some (.int i_3))) (rest := []) X hR ⟨Nat.le_refl _, Nat.le_refl _⟩ (fun H locs ls k j hsz hI hU hk => va_runS (As := [.long j1]) (rest := []) ⟨hx, hb, hml, hown, htT⟩ (zc_Names_isName l h0 D dA tb n hq) (va_cwS 1 htT (zw_gS zt_362 zt_363 zt_72 zt_364) rfl rfl rfl (by decide +kernel) ⟨Nat.le_trans (Nat.le_of_ble_eq_true rfl) hF.1, Nat.le_trans (Nat.le_of_ble_eq_true rfl) hF.2⟩) (zg_pre hU) rfl rfl hsz rfl (lv_room (Nat.le_of_ble_eq_true rfl)) zd_Tool_isAllowed_81 hk) rfl ?_
    obtain ⟨h_4, hf⟩ := zx_ck hf
    obtain rfl := zx_r1 hf
    exact hret h_4 _ _ zd_Tool_isAllowed_84
  rw [if_neg hk4] at hf
  by_cases hk5 : i0 = 5
  · rw [if_pos hk5] at hf
    refine zg_1 (pc' := 85) (fun _ _ _ _ _ hl w => lv_tableIn hx hb zd_Tool_isAllowed_1 (by rw [hk5]; decide) (by rw [hk5]; decide) (by rw [hk5]; rfl) (by decide) w) ?_
    refine zg_1 (pc' := 86) (fun _ _ _ _ _ hl w => lv_lload_n hx hb zd_Tool_isAllowed_85 rfl (lv_at hl 1 rfl) w) ?_
    obtain ⟨i_5, hq, hf⟩ := zx_p hf
    refine zg_call (pc' := 89) (y := s0) (rv := (some (.int i_5))) (rest := []) X hR ⟨Nat.le_refl _, Nat.le_refl _⟩ (fun H locs ls k j hsz hI hU hk => va_runS (As := [.long j1]) (rest := []) ⟨hx, hb, hml, hown, htT⟩ (zc_Numbers_isKey l h0 D dA tb n hq) (va_cwS 1 htT (zw_gS zt_365 zt_366 zt_73 zt_367) rfl rfl rfl (by decide +kernel) ⟨Nat.le_trans (Nat.le_of_ble_eq_true rfl) hF.1, Nat.le_trans (Nat.le_of_ble_eq_true rfl) hF.2⟩) (zg_pre hU) rfl rfl hsz rfl (lv_room (Nat.le_of_ble_eq_true rfl)) zd_Tool_isAllowed_86 hk) rfl ?_
    obtain ⟨h_6, hf⟩ := zx_ck hf
    obtain rfl := zx_r1 hf
    exact hret h_6 _ _ zd_Tool_isAllowed_89
  rw [if_neg hk5] at hf
  by_cases hk6 : i0 = 6
  · rw [if_pos hk6] at hf
    refine zg_1 (pc' := 90) (fun _ _ _ _ _ hl w => lv_tableIn hx hb zd_Tool_isAllowed_1 (by rw [hk6]; decide) (by rw [hk6]; decide) (by rw [hk6]; rfl) (by decide) w) ?_
    refine zg_1 (pc' := 91) (fun _ _ _ _ _ hl w => lv_lload_n hx hb zd_Tool_isAllowed_90 rfl (lv_at hl 1 rfl) w) ?_
    refine zg_1 (pc' := 94) (fun _ _ _ _ _ hl w => lv_ldc2 (v := (-1 : Int64)) hx hb hown (htT _ zt_111) zd_Tool_isAllowed_91 w) ?_
    refine zg_1 (pc' := 95) (fun _ _ _ _ _ hl w => W.lcmp hx hb zd_Tool_isAllowed_94 w) ?_
    refine zg_2 (pc1 := 108) (pc2 := 98) (Classical.em _) (fun _ _ _ _ _ w1 w2 => lv_if_lt hx hb zd_Tool_isAllowed_95 (by decide) w1 w2) (fun hc => ?_) (fun hc => ?_)
    · rw [if_pos hc] at hf
      refine zg_1 (pc' := 109) (fun _ _ _ _ _ hl w => lv_iconst (v := (0 : Int32)) hx hb zd_Tool_isAllowed_108 (by decide) w) ?_
      obtain rfl := zx_r1 hf
      exact hret (Or.inl rfl) _ _ zd_Tool_isAllowed_109
    · rw [if_neg hc] at hf
      refine zg_1 (pc' := 99) (fun _ _ _ _ _ hl w => lv_lload_n hx hb zd_Tool_isAllowed_98 rfl (lv_at hl 1 rfl) w) ?_
      refine zg_1 (pc' := 100) (fun _ _ _ _ _ hl w => lv_lconst (v := (1 : Int64)) hx hb zd_Tool_isAllowed_99 (by decide) w) ?_
      refine zg_1 (pc' := 101) (fun _ _ _ _ _ hl w => W.lcmp hx hb zd_Tool_isAllowed_100 w) ?_
      refine zg_2 (pc1 := 108) (pc2 := 104) (Classical.em _) (fun _ _ _ _ _ w1 w2 => lv_if_gt hx hb zd_Tool_isAllowed_101 (by decide) w1 w2) (fun hc => ?_) (fun hc => ?_)
      · rw [if_pos hc] at hf
        refine zg_1 (pc' := 109) (fun _ _ _ _ _ hl w => lv_iconst (v := (0 : Int32)) hx hb zd_Tool_isAllowed_108 (by decide) w) ?_
        obtain rfl := zx_r1 hf
        exact hret (Or.inl rfl) _ _ zd_Tool_isAllowed_109
      · rw [if_neg hc] at hf
        refine zg_1 (pc' := 105) (fun _ _ _ _ _ hl w => lv_iconst (v := (1 : Int32)) hx hb zd_Tool_isAllowed_104 (by decide) w) ?_
        refine zg_1 (pc' := 109) (fun _ _ _ _ _ hl w => lv_goto hx hb zd_Tool_isAllowed_105 (by decide) w) ?_
        obtain rfl := zx_r1 hf
        exact hret (Or.inr rfl) _ _ zd_Tool_isAllowed_109
  rw [if_neg hk6] at hf
  by_cases hk7 : i0 = 7
  · rw [if_pos hk7] at hf
    refine zg_1 (pc' := 110) (fun _ _ _ _ _ hl w => lv_tableIn hx hb zd_Tool_isAllowed_1 (by rw [hk7]; decide) (by rw [hk7]; decide) (by rw [hk7]; rfl) (by decide) w) ?_
    refine zg_1 (pc' := 111) (fun _ _ _ _ _ hl w => lv_lload_n hx hb zd_Tool_isAllowed_110 rfl (lv_at hl 1 rfl) w) ?_
    refine zg_1 (pc' := 114) (fun _ _ _ _ _ hl w => lv_ldc2 (v := (-1 : Int64)) hx hb hown (htT _ zt_111) zd_Tool_isAllowed_111 w) ?_
    refine zg_1 (pc' := 115) (fun _ _ _ _ _ hl w => W.lcmp hx hb zd_Tool_isAllowed_114 w) ?_
    refine zg_2 (pc1 := 130) (pc2 := 118) (Classical.em _) (fun _ _ _ _ _ w1 w2 => lv_if_lt hx hb zd_Tool_isAllowed_115 (by decide) w1 w2) (fun hc => ?_) (fun hc => ?_)
    · rw [if_pos hc] at hf
      refine zg_1 (pc' := 131) (fun _ _ _ _ _ hl w => lv_iconst (v := (0 : Int32)) hx hb zd_Tool_isAllowed_130 (by decide) w) ?_
      obtain rfl := zx_r1 hf
      exact hret (Or.inl rfl) _ _ zd_Tool_isAllowed_131
    · rw [if_neg hc] at hf
      refine zg_1 (pc' := 119) (fun _ _ _ _ _ hl w => lv_lload_n hx hb zd_Tool_isAllowed_118 rfl (lv_at hl 1 rfl) w) ?_
      refine zg_1 (pc' := 122) (fun _ _ _ _ _ hl w => lv_ldc2 (v := (9 : Int64)) hx hb hown (htT _ zt_370) zd_Tool_isAllowed_119 w) ?_
      refine zg_1 (pc' := 123) (fun _ _ _ _ _ hl w => W.lcmp hx hb zd_Tool_isAllowed_122 w) ?_
      refine zg_2 (pc1 := 130) (pc2 := 126) (Classical.em _) (fun _ _ _ _ _ w1 w2 => lv_if_gt hx hb zd_Tool_isAllowed_123 (by decide) w1 w2) (fun hc => ?_) (fun hc => ?_)
      · rw [if_pos hc] at hf
        refine zg_1 (pc' := 131) (fun _ _ _ _ _ hl w => lv_iconst (v := (0 : Int32)) hx hb zd_Tool_isAllowed_130 (by decide) w) ?_
        obtain rfl := zx_r1 hf
        exact hret (Or.inl rfl) _ _ zd_Tool_isAllowed_131
      · rw [if_neg hc] at hf
        refine zg_1 (pc' := 127) (fun _ _ _ _ _ hl w => lv_iconst (v := (1 : Int32)) hx hb zd_Tool_isAllowed_126 (by decide) w) ?_
        refine zg_1 (pc' := 131) (fun _ _ _ _ _ hl w => lv_goto hx hb zd_Tool_isAllowed_127 (by decide) w) ?_
        obtain rfl := zx_r1 hf
        exact hret (Or.inr rfl) _ _ zd_Tool_isAllowed_131
  rw [if_neg hk7] at hf
  by_cases hk8 : i0 = 8
  · rw [if_pos hk8] at hf
    refine zg_1 (pc' := 132) (fun _ _ _ _ _ hl w => lv_tableIn hx hb zd_Tool_isAllowed_1 (by rw [hk8]; decide) (by rw [hk8]; decide) (by rw [hk8]; rfl) (by decide) w) ?_
    refine zg_1 (pc' := 133) (fun _ _ _ _ _ hl w => lv_lload_n hx hb zd_Tool_isAllowed_132 rfl (lv_at hl 1 rfl) w) ?_
    refine zg_1 (pc' := 136) (fun _ _ _ _ _ hl w => lv_ldc2 (v := (-1 : Int64)) hx hb hown (htT _ zt_111) zd_Tool_isAllowed_133 w) ?_
    refine zg_1 (pc' := 137) (fun _ _ _ _ _ hl w => W.lcmp hx hb zd_Tool_isAllowed_136 w) ?_
    refine zg_2 (pc1 := 154) (pc2 := 140) (Classical.em _) (fun _ _ _ _ _ w1 w2 => lv_if_eq hx hb zd_Tool_isAllowed_137 (by decide) w1 w2) (fun hc => ?_) (fun hc => ?_)
    · rw [if_pos hc] at hf
      refine zg_1 (pc' := 155) (fun _ _ _ _ _ hl w => lv_iconst (v := (1 : Int32)) hx hb zd_Tool_isAllowed_154 (by decide) w) ?_
      refine zg_1 (pc' := 159) (fun _ _ _ _ _ hl w => lv_goto hx hb zd_Tool_isAllowed_155 (by decide) w) ?_
      obtain rfl := zx_r1 hf
      exact hret (Or.inr rfl) _ _ zd_Tool_isAllowed_159
    · rw [if_neg hc] at hf
      refine zg_1 (pc' := 141) (fun _ _ _ _ _ hl w => lv_lload_n hx hb zd_Tool_isAllowed_140 rfl (lv_at hl 1 rfl) w) ?_
      refine zg_1 (pc' := 142) (fun _ _ _ _ _ hl w => lv_lconst (v := (1 : Int64)) hx hb zd_Tool_isAllowed_141 (by decide) w) ?_
      refine zg_1 (pc' := 143) (fun _ _ _ _ _ hl w => W.lcmp hx hb zd_Tool_isAllowed_142 w) ?_
      refine zg_2 (pc1 := 158) (pc2 := 146) (Classical.em _) (fun _ _ _ _ _ w1 w2 => lv_if_lt hx hb zd_Tool_isAllowed_143 (by decide) w1 w2) (fun hc => ?_) (fun hc => ?_)
      · rw [if_pos hc] at hf
        refine zg_1 (pc' := 159) (fun _ _ _ _ _ hl w => lv_iconst (v := (0 : Int32)) hx hb zd_Tool_isAllowed_158 (by decide) w) ?_
        obtain rfl := zx_r1 hf
        exact hret (Or.inl rfl) _ _ zd_Tool_isAllowed_159
      · rw [if_neg hc] at hf
        refine zg_1 (pc' := 147) (fun _ _ _ _ _ hl w => lv_lload_n hx hb zd_Tool_isAllowed_146 rfl (lv_at hl 1 rfl) w) ?_
        refine zg_1 (pc' := 150) (fun _ _ _ _ _ hl w => lv_ldc2 (v := (7 : Int64)) hx hb hown (htT _ zt_371) zd_Tool_isAllowed_147 w) ?_
        refine zg_1 (pc' := 151) (fun _ _ _ _ _ hl w => W.lcmp hx hb zd_Tool_isAllowed_150 w) ?_
        refine zg_2 (pc1 := 158) (pc2 := 154) (Classical.em _) (fun _ _ _ _ _ w1 w2 => lv_if_gt hx hb zd_Tool_isAllowed_151 (by decide) w1 w2) (fun hc => ?_) (fun hc => ?_)
        · rw [if_pos hc] at hf
          refine zg_1 (pc' := 159) (fun _ _ _ _ _ hl w => lv_iconst (v := (0 : Int32)) hx hb zd_Tool_isAllowed_158 (by decide) w) ?_
          obtain rfl := zx_r1 hf
          exact hret (Or.inl rfl) _ _ zd_Tool_isAllowed_159
        · rw [if_neg hc] at hf
          refine zg_1 (pc' := 155) (fun _ _ _ _ _ hl w => lv_iconst (v := (1 : Int32)) hx hb zd_Tool_isAllowed_154 (by decide) w) ?_
          refine zg_1 (pc' := 159) (fun _ _ _ _ _ hl w => lv_goto hx hb zd_Tool_isAllowed_155 (by decide) w) ?_
          obtain rfl := zx_r1 hf
          exact hret (Or.inr rfl) _ _ zd_Tool_isAllowed_159
  rw [if_neg hk8] at hf
  by_cases hk9 : i0 = 9
  · rw [if_pos hk9] at hf
    refine zg_1 (pc' := 160) (fun _ _ _ _ _ hl w => lv_tableIn hx hb zd_Tool_isAllowed_1 (by rw [hk9]; decide) (by rw [hk9]; decide) (by rw [hk9]; rfl) (by decide) w) ?_
    refine zg_1 (pc' := 161) (fun _ _ _ _ _ hl w => lv_lload_n hx hb zd_Tool_isAllowed_160 rfl (lv_at hl 1 rfl) w) ?_
    refine zg_1 (pc' := 162) (fun _ _ _ _ _ hl w => lv_lconst (v := (0 : Int64)) hx hb zd_Tool_isAllowed_161 (by decide) w) ?_
    refine zg_1 (pc' := 163) (fun _ _ _ _ _ hl w => W.lcmp hx hb zd_Tool_isAllowed_162 w) ?_
    refine zg_2 (pc1 := 173) (pc2 := 166) (Classical.em _) (fun _ _ _ _ _ w1 w2 => lv_if_eq hx hb zd_Tool_isAllowed_163 (by decide) w1 w2) (fun hc => ?_) (fun hc => ?_)
    · rw [if_pos hc] at hf
      refine zg_1 (pc' := 174) (fun _ _ _ _ _ hl w => lv_iconst (v := (1 : Int32)) hx hb zd_Tool_isAllowed_173 (by decide) w) ?_
      refine zg_1 (pc' := 178) (fun _ _ _ _ _ hl w => lv_goto hx hb zd_Tool_isAllowed_174 (by decide) w) ?_
      obtain rfl := zx_r1 hf
      exact hret (Or.inr rfl) _ _ zd_Tool_isAllowed_178
    · rw [if_neg hc] at hf
      refine zg_1 (pc' := 167) (fun _ _ _ _ _ hl w => lv_lload_n hx hb zd_Tool_isAllowed_166 rfl (lv_at hl 1 rfl) w) ?_
      obtain ⟨i_7, hq, hf⟩ := zx_p hf
      refine zg_call (pc' := 170) (y := s0) (rv := (some (.int i_7))) (rest := []) X hR ⟨Nat.le_refl _, Nat.le_refl _⟩ (fun H locs ls k j hsz hI hU hk => va_runS (As := [.long j1]) (rest := []) ⟨hx, hb, hml, hown, htT⟩ (zc_Names_isName l h0 D dA tb n hq) (va_cwS 1 htT (zw_gS zt_362 zt_363 zt_72 zt_364) rfl rfl rfl (by decide +kernel) ⟨Nat.le_trans (Nat.le_of_ble_eq_true rfl) hF.1, Nat.le_trans (Nat.le_of_ble_eq_true rfl) hF.2⟩) (zg_pre hU) rfl rfl hsz rfl (lv_room (Nat.le_of_ble_eq_true rfl)) zd_Tool_isAllowed_167 hk) rfl ?_
      refine zg_2 (pc1 := 177) (pc2 := 173) (Classical.em _) (fun _ _ _ _ _ w1 w2 => lv_if_eq hx hb zd_Tool_isAllowed_170 (by decide) w1 w2) (fun hc => ?_) (fun hc => ?_)
      · rw [if_pos hc] at hf
        refine zg_1 (pc' := 178) (fun _ _ _ _ _ hl w => lv_iconst (v := (0 : Int32)) hx hb zd_Tool_isAllowed_177 (by decide) w) ?_
        obtain rfl := zx_r1 hf
        exact hret (Or.inl rfl) _ _ zd_Tool_isAllowed_178
      · rw [if_neg hc] at hf
        refine zg_1 (pc' := 174) (fun _ _ _ _ _ hl w => lv_iconst (v := (1 : Int32)) hx hb zd_Tool_isAllowed_173 (by decide) w) ?_
        refine zg_1 (pc' := 178) (fun _ _ _ _ _ hl w => lv_goto hx hb zd_Tool_isAllowed_174 (by decide) w) ?_
        obtain rfl := zx_r1 hf
        exact hret (Or.inr rfl) _ _ zd_Tool_isAllowed_178
  rw [if_neg hk9] at hf
  by_cases hk10 : i0 = 10
  · rw [if_pos hk10] at hf
    refine zg_1 (pc' := 160) (fun _ _ _ _ _ hl w => lv_tableIn hx hb zd_Tool_isAllowed_1 (by rw [hk10]; decide) (by rw [hk10]; decide) (by rw [hk10]; rfl) (by decide) w) ?_
    refine zg_1 (pc' := 161) (fun _ _ _ _ _ hl w => lv_lload_n hx hb zd_Tool_isAllowed_160 rfl (lv_at hl 1 rfl) w) ?_
    refine zg_1 (pc' := 162) (fun _ _ _ _ _ hl w => lv_lconst (v := (0 : Int64)) hx hb zd_Tool_isAllowed_161 (by decide) w) ?_
    refine zg_1 (pc' := 163) (fun _ _ _ _ _ hl w => W.lcmp hx hb zd_Tool_isAllowed_162 w) ?_
    refine zg_2 (pc1 := 173) (pc2 := 166) (Classical.em _) (fun _ _ _ _ _ w1 w2 => lv_if_eq hx hb zd_Tool_isAllowed_163 (by decide) w1 w2) (fun hc => ?_) (fun hc => ?_)
    · rw [if_pos hc] at hf
      refine zg_1 (pc' := 174) (fun _ _ _ _ _ hl w => lv_iconst (v := (1 : Int32)) hx hb zd_Tool_isAllowed_173 (by decide) w) ?_
      refine zg_1 (pc' := 178) (fun _ _ _ _ _ hl w => lv_goto hx hb zd_Tool_isAllowed_174 (by decide) w) ?_
      obtain rfl := zx_r1 hf
      exact hret (Or.inr rfl) _ _ zd_Tool_isAllowed_178
    · rw [if_neg hc] at hf
      refine zg_1 (pc' := 167) (fun _ _ _ _ _ hl w => lv_lload_n hx hb zd_Tool_isAllowed_166 rfl (lv_at hl 1 rfl) w) ?_
      obtain ⟨i_8, hq, hf⟩ := zx_p hf
      refine zg_call (pc' := 170) (y := s0) (rv := (some (.int i_8))) (rest := []) X hR ⟨Nat.le_refl _, Nat.le_refl _⟩ (fun H locs ls k j hsz hI hU hk => va_runS (As := [.long j1]) (rest := []) ⟨hx, hb, hml, hown, htT⟩ (zc_Names_isName l h0 D dA tb n hq) (va_cwS 1 htT (zw_gS zt_362 zt_363 zt_72 zt_364) rfl rfl rfl (by decide +kernel) ⟨Nat.le_trans (Nat.le_of_ble_eq_true rfl) hF.1, Nat.le_trans (Nat.le_of_ble_eq_true rfl) hF.2⟩) (zg_pre hU) rfl rfl hsz rfl (lv_room (Nat.le_of_ble_eq_true rfl)) zd_Tool_isAllowed_167 hk) rfl ?_
      refine zg_2 (pc1 := 177) (pc2 := 173) (Classical.em _) (fun _ _ _ _ _ w1 w2 => lv_if_eq hx hb zd_Tool_isAllowed_170 (by decide) w1 w2) (fun hc => ?_) (fun hc => ?_)
      · rw [if_pos hc] at hf
        refine zg_1 (pc' := 178) (fun _ _ _ _ _ hl w => lv_iconst (v := (0 : Int32)) hx hb zd_Tool_isAllowed_177 (by decide) w) ?_
        obtain rfl := zx_r1 hf
        exact hret (Or.inl rfl) _ _ zd_Tool_isAllowed_178
      · rw [if_neg hc] at hf
        refine zg_1 (pc' := 174) (fun _ _ _ _ _ hl w => lv_iconst (v := (1 : Int32)) hx hb zd_Tool_isAllowed_173 (by decide) w) ?_
        refine zg_1 (pc' := 178) (fun _ _ _ _ _ hl w => lv_goto hx hb zd_Tool_isAllowed_174 (by decide) w) ?_
        obtain rfl := zx_r1 hf
        exact hret (Or.inr rfl) _ _ zd_Tool_isAllowed_178
  rw [if_neg hk10] at hf
  by_cases hk11 : i0 = 11
  · rw [if_pos hk11] at hf
    refine zg_1 (pc' := 179) (fun _ _ _ _ _ hl w => lv_tableIn hx hb zd_Tool_isAllowed_1 (by rw [hk11]; decide) (by rw [hk11]; decide) (by rw [hk11]; rfl) (by decide) w) ?_
    refine zg_1 (pc' := 180) (fun _ _ _ _ _ hl w => lv_lload_n hx hb zd_Tool_isAllowed_179 rfl (lv_at hl 1 rfl) w) ?_
    refine zg_1 (pc' := 181) (fun _ _ _ _ _ hl w => lv_lconst (v := (0 : Int64)) hx hb zd_Tool_isAllowed_180 (by decide) w) ?_
    refine zg_1 (pc' := 182) (fun _ _ _ _ _ hl w => W.lcmp hx hb zd_Tool_isAllowed_181 w) ?_
    refine zg_2 (pc1 := 197) (pc2 := 185) (Classical.em _) (fun _ _ _ _ _ w1 w2 => lv_if_lt hx hb zd_Tool_isAllowed_182 (by decide) w1 w2) (fun hc => ?_) (fun hc => ?_)
    · rw [if_pos hc] at hf
      refine zg_1 (pc' := 198) (fun _ _ _ _ _ hl w => lv_iconst (v := (0 : Int32)) hx hb zd_Tool_isAllowed_197 (by decide) w) ?_
      obtain rfl := zx_r1 hf
      exact hret (Or.inl rfl) _ _ zd_Tool_isAllowed_198
    · rw [if_neg hc] at hf
      refine zg_1 (pc' := 186) (fun _ _ _ _ _ hl w => lv_lload_n hx hb zd_Tool_isAllowed_185 rfl (lv_at hl 1 rfl) w) ?_
      refine zg_1 (pc' := 189) (fun _ _ _ _ _ hl w => lv_ldc2 (v := (2 : Int64)) hx hb hown (htT _ zt_372) zd_Tool_isAllowed_186 w) ?_
      refine zg_1 (pc' := 190) (fun _ _ _ _ _ hl w => W.lcmp hx hb zd_Tool_isAllowed_189 w) ?_
      refine zg_2 (pc1 := 197) (pc2 := 193) (Classical.em _) (fun _ _ _ _ _ w1 w2 => lv_if_gt hx hb zd_Tool_isAllowed_190 (by decide) w1 w2) (fun hc => ?_) (fun hc => ?_)
      · rw [if_pos hc] at hf
        refine zg_1 (pc' := 198) (fun _ _ _ _ _ hl w => lv_iconst (v := (0 : Int32)) hx hb zd_Tool_isAllowed_197 (by decide) w) ?_
        obtain rfl := zx_r1 hf
        exact hret (Or.inl rfl) _ _ zd_Tool_isAllowed_198
      · rw [if_neg hc] at hf
        refine zg_1 (pc' := 194) (fun _ _ _ _ _ hl w => lv_iconst (v := (1 : Int32)) hx hb zd_Tool_isAllowed_193 (by decide) w) ?_
        refine zg_1 (pc' := 198) (fun _ _ _ _ _ hl w => lv_goto hx hb zd_Tool_isAllowed_194 (by decide) w) ?_
        obtain rfl := zx_r1 hf
        exact hret (Or.inr rfl) _ _ zd_Tool_isAllowed_198
  rw [if_neg hk11] at hf
  by_cases hk12 : i0 = 12
  · rw [if_pos hk12] at hf
    refine zg_1 (pc' := 85) (fun _ _ _ _ _ hl w => lv_tableIn hx hb zd_Tool_isAllowed_1 (by rw [hk12]; decide) (by rw [hk12]; decide) (by rw [hk12]; rfl) (by decide) w) ?_
    refine zg_1 (pc' := 86) (fun _ _ _ _ _ hl w => lv_lload_n hx hb zd_Tool_isAllowed_85 rfl (lv_at hl 1 rfl) w) ?_
    obtain ⟨i_9, hq, hf⟩ := zx_p hf
    refine zg_call (pc' := 89) (y := s0) (rv := (some (.int i_9))) (rest := []) X hR ⟨Nat.le_refl _, Nat.le_refl _⟩ (fun H locs ls k j hsz hI hU hk => va_runS (As := [.long j1]) (rest := []) ⟨hx, hb, hml, hown, htT⟩ (zc_Numbers_isKey l h0 D dA tb n hq) (va_cwS 1 htT (zw_gS zt_365 zt_366 zt_73 zt_367) rfl rfl rfl (by decide +kernel) ⟨Nat.le_trans (Nat.le_of_ble_eq_true rfl) hF.1, Nat.le_trans (Nat.le_of_ble_eq_true rfl) hF.2⟩) (zg_pre hU) rfl rfl hsz rfl (lv_room (Nat.le_of_ble_eq_true rfl)) zd_Tool_isAllowed_86 hk) rfl ?_
    obtain ⟨h_10, hf⟩ := zx_ck hf
    obtain rfl := zx_r1 hf
    exact hret h_10 _ _ zd_Tool_isAllowed_89
  rw [if_neg hk12] at hf
  refine zg_1 (pc' := 199) (fun _ _ _ _ _ hl w => lv_tableOut hx hb zd_Tool_isAllowed_1 (zx_tab 12 (fun j hj => by rcases (show j = 0 ∨ j = 1 ∨ j = 2 ∨ j = 3 ∨ j = 4 ∨ j = 5 ∨ j = 6 ∨ j = 7 ∨ j = 8 ∨ j = 9 ∨ j = 10 ∨ j = 11 ∨ j = 12 by omega) with rfl | rfl | rfl | rfl | rfl | rfl | rfl | rfl | rfl | rfl | rfl | rfl | rfl <;> assumption)) (by decide) w) ?_
  refine zg_1 (pc' := 200) (fun _ _ _ _ _ hl w => lv_iconst (v := (0 : Int32)) hx hb zd_Tool_isAllowed_199 (by decide) w) ?_
  obtain rfl := zx_r1 hf
  exact hret (Or.inl rfl) _ _ zd_Tool_isAllowed_200
set_option maxHeartbeats 4000000 in
theorem zc_Tool_accept (l : Launch) (h0 : Nat) (D : va_G) (dA : Nat → ClassId) (tb : Nat → Nat) (n : Nat) {s0 : zh_S} {a0 : Nat} {i1 : Int32} {j2 : Int64} {r : Int32} {z : zh_S} (hf : zf_Tool_accept n s0 a0 i1 j2 = some (r, z)) : zc_M l zn_Tool_accept zs_Tool_accept 2 47 h0 D dA tb [.ref (h0 + a0), .int i1, .long j2] s0 (some (.int r)) z := by
  rw [zf_Tool_accept] at hf
  refine zc_of (cc := ze_Tool_accept) (maxL := 4) (ret := (some .boolean)) (lv := [(0, .ref (h0 + a0)), (1, .int i1), (2, .long j2)]) (by decide) rfl (Nat.le_of_ble_eq_true rfl) rfl ?_
  intro p e s m args below meth c X hnm
  obtain ⟨hx, hb, hml, hown, htT, hrt, hlk, x00, hIn⟩ := id X
  have hK := hIn.2.1
  have hT := hIn.2.2.1
  have hNe := hIn.2.2.2
  have hR : zg_R { frames := 2, cells := zh_N z - zh_N s0, slots := zh_M z - zh_M s0, locals := 47 } (zh_N s0) (zh_M s0) z := ⟨by show zh_N z ≤ zh_N s0 + (zh_N z - zh_N s0); omega, by show zh_M z ≤ zh_M s0 + (zh_M z - zh_M s0); omega⟩
  have hF : 2 ≤ ({ frames := 2, cells := zh_N z - zh_N s0, slots := zh_M z - zh_M s0, locals := 47 } : Room).frames ∧ 47 ≤ ({ frames := 2, cells := zh_N z - zh_N s0, slots := zh_M z - zh_M s0, locals := 47 } : Room).locals := ⟨Nat.le_refl _, Nat.le_refl _⟩
  have hret := fun (hz : r = 0 ∨ r = 1) (pc : Nat) (lv : List (Nat × Value)) (hd : decode ze_Tool_accept pc = .ok (.ireturn, 1)) => zg_iret (R := { frames := 2, cells := zh_N z - zh_N s0, slots := zh_M z - zh_M s0, locals := 47 }) (l := l) (e := e) (below := below) (c0 := zh_N s0) (s0 := zh_M s0) (z := z) (lv := lv) (v := r) X (zx_nz hz) hd
  refine zg_1 (pc' := 1) (fun _ _ _ _ _ hl w => lv_iload_n hx hb zd_Tool_accept_0 rfl (lv_at hl 1 rfl) w) ?_
  refine zg_1 (pc' := 2) (fun _ _ _ _ _ hl w => lv_lload_n hx hb zd_Tool_accept_1 rfl (lv_at hl 2 rfl) w) ?_
  obtain ⟨i_1, hq, hf⟩ := zx_p hf
  refine zg_call (pc' := 5) (y := s0) (rv := (some (.int i_1))) (rest := []) X hR ⟨Nat.le_refl _, Nat.le_refl _⟩ (fun H locs ls k j hsz hI hU hk => va_runS (As := [.int i1, .long j2]) (rest := []) ⟨hx, hb, hml, hown, htT⟩ (zc_Tool_isAllowed l h0 D dA tb n hq) (va_cwS 2 htT (zw_gS zt_359 zt_360 zt_66 zt_361) rfl rfl rfl (by decide +kernel) ⟨Nat.le_trans (Nat.le_of_ble_eq_true rfl) hF.1, Nat.le_trans (Nat.le_of_ble_eq_true rfl) hF.2⟩) (zg_pre hU) rfl rfl hsz rfl (lv_room (Nat.le_of_ble_eq_true rfl)) zd_Tool_accept_2 hk) rfl ?_
  refine zg_2 (pc1 := 10) (pc2 := 8) (Classical.em _).symm (fun _ _ _ _ _ w1 w2 => lv_if_ne hx hb zd_Tool_accept_5 (by decide) w1 w2) (fun hc => ?_) (fun hc => ?_)
  · rw [if_neg hc] at hf
    refine zg_1 (pc' := 11) (fun _ _ _ _ _ hl w => lv_aload_n hx hb zd_Tool_accept_10 rfl (lv_at hl 0 rfl) w) ?_
    obtain ⟨h_2, hf⟩ := zx_ck hf
    obtain ⟨a_3, h_4, hf⟩ := zx_p hf
    refine zg_get (pc' := 14) (ci := 6) hx hb htT zi_Tool hown hK h_2 rfl rfl 0 (by decide) (htT _ zt_112) (fun _ h9 => h9) (zx_hv h_4) zd_Tool_accept_11 rfl ?_
    refine zg_1 (pc' := 15) (fun _ _ _ _ _ hl w => lv_iload_n hx hb zd_Tool_accept_14 rfl (lv_at hl 1 rfl) w) ?_
    refine zg_1 (pc' := 16) (fun _ _ _ _ _ hl w => lv_lload_n hx hb zd_Tool_accept_15 rfl (lv_at hl 2 rfl) w) ?_
    obtain ⟨h_6, hf⟩ := zx_ck hf
    obtain ⟨s_5, e_s_5, hf⟩ := zx_l hf
    refine zg_last (pc' := 17) hx hb hK h_6 e_s_5 zd_Tool_accept_16 rfl ?_
    refine zg_1 (pc' := 18) (fun _ _ _ _ _ hl w => lv_iconst (v := (1 : Int32)) hx hb zd_Tool_accept_17 (by decide) w) ?_
    obtain ⟨rfl, rfl⟩ := zx_r2 hf
    exact hret (Or.inr rfl) _ _ zd_Tool_accept_18
  · rw [if_pos hc] at hf
    refine zg_1 (pc' := 9) (fun _ _ _ _ _ hl w => lv_iconst (v := (0 : Int32)) hx hb zd_Tool_accept_8 (by decide) w) ?_
    obtain ⟨rfl, rfl⟩ := zx_r2 hf
    exact hret (Or.inl rfl) _ _ zd_Tool_accept_9
set_option maxHeartbeats 4000000 in
theorem zc_V_set (l : Launch) (h0 : Nat) (D : va_G) (dA : Nat → ClassId) (tb : Nat → Nat) (n : Nat) {s0 : zh_S} {a0 : Nat} {i1 : Int32} {j2 : Int64} {r : Int32} {z : zh_S} (hf : zf_V_set n s0 a0 i1 j2 = some (r, z)) : zc_M l zn_V_set zs_V_set 3 70 h0 D dA tb [.ref (h0 + a0), .int i1, .long j2] s0 (some (.int r)) z := by
  rw [zf_V_set] at hf
  refine zc_of (cc := ze_V_set) (maxL := 4) (ret := (some .boolean)) (lv := [(0, .ref (h0 + a0)), (1, .int i1), (2, .long j2)]) (by decide) rfl (Nat.le_of_ble_eq_true rfl) rfl ?_
  intro p e s m args below meth c X hnm
  obtain ⟨hx, hb, hml, hown, htT, hrt, hlk, x00, hIn⟩ := id X
  have hK := hIn.2.1
  have hT := hIn.2.2.1
  have hNe := hIn.2.2.2
  have hR : zg_R { frames := 3, cells := zh_N z - zh_N s0, slots := zh_M z - zh_M s0, locals := 70 } (zh_N s0) (zh_M s0) z := ⟨by show zh_N z ≤ zh_N s0 + (zh_N z - zh_N s0); omega, by show zh_M z ≤ zh_M s0 + (zh_M z - zh_M s0); omega⟩
  have hF : 3 ≤ ({ frames := 3, cells := zh_N z - zh_N s0, slots := zh_M z - zh_M s0, locals := 70 } : Room).frames ∧ 70 ≤ ({ frames := 3, cells := zh_N z - zh_N s0, slots := zh_M z - zh_M s0, locals := 70 } : Room).locals := ⟨Nat.le_refl _, Nat.le_refl _⟩
  have hret := fun (hz : r = 0 ∨ r = 1) (pc : Nat) (lv : List (Nat × Value)) (hd : decode ze_V_set pc = .ok (.ireturn, 1)) => zg_iret (R := { frames := 3, cells := zh_N z - zh_N s0, slots := zh_M z - zh_M s0, locals := 70 }) (l := l) (e := e) (below := below) (c0 := zh_N s0) (s0 := zh_M s0) (z := z) (lv := lv) (v := r) X (zx_nz hz) hd
  refine zg_1 (pc' := 1) (fun _ _ _ _ _ hl w => lv_aload_n hx hb zd_V_set_0 rfl (lv_at hl 0 rfl) w) ?_
  obtain ⟨h_1, hf⟩ := zx_ck hf
  obtain ⟨a_2, h_3, hf⟩ := zx_p hf
  refine zg_get (pc' := 4) (ci := 7) hx hb htT zi_V hown hK h_1 rfl rfl 1 (by decide) (htT _ zt_303) (fun _ h9 => h9) (zx_hv h_3) zd_V_set_1 rfl ?_
  refine zg_1 (pc' := 5) (fun _ _ _ _ _ hl w => lv_iload_n hx hb zd_V_set_4 rfl (lv_at hl 1 rfl) w) ?_
  refine zg_1 (pc' := 6) (fun _ _ _ _ _ hl w => lv_lload_n hx hb zd_V_set_5 rfl (lv_at hl 2 rfl) w) ?_
  obtain ⟨h_5, hf⟩ := zx_ck hf
  obtain ⟨i_6, s_4, hq, hf⟩ := zx_b hf
  refine zg_call (pc' := 9) (y := s_4) (rv := (some (.int i_6))) (rest := []) X hR (zm_Tool_accept hq) (fun H locs ls k j hsz hI hU hk => va_runV (As := [.int i1, .long j2]) (rest := []) ⟨hx, hb, hml, hown, htT⟩ (zc_Tool_accept l h0 D dA tb n hq) (cwV 2 htT (zw_gV zt_355 zt_356 zt_357 zt_66 zt_358) rfl rfl rfl (by decide +kernel) ⟨Nat.le_trans (Nat.le_of_ble_eq_true rfl) hF.1, Nat.le_trans (Nat.le_of_ble_eq_true rfl) hF.2⟩) ⟨(zg_pre hU).1, zg_recv hK hI h_5 rfl, (zg_pre hU).2⟩ rfl rfl hsz rfl (lv_room (Nat.le_of_ble_eq_true rfl)) zd_V_set_6 hk) rfl ?_
  obtain ⟨h_7, hf⟩ := zx_ck hf
  obtain ⟨rfl, rfl⟩ := zx_r2 hf
  exact hret h_7 _ _ zd_V_set_9
set_option maxHeartbeats 4000000 in
theorem zw_M_set_201 {p : Program} {l : Launch} {e : Env} {R : Room} {s : State} {m : MethodId} {args : Array Value} {below : List Frame} {meth : Method} {c : Code} {Q : State → Prop} {h0 : Nat} {D : va_G} {dA : Nat → ClassId} {tb : Nat → Nat} {c0 k0 : Nat} {z : zh_S} {r : Int32} (X : zg_X p s m args meth c ze_M_set 5 zr_M (some .boolean) h0 D dA tb) (hR : zg_R R c0 k0 z) (hF : 2 ≤ R.frames ∧ 49 ≤ R.locals) (hret : (r = 0 ∨ r = 1) → ∀ (pc : Nat) (lv : List (Nat × Value)), decode ze_M_set pc = .ok (.ireturn, 1) → zg_G p l e R s m args below meth c Q h0 D dA 5 c0 k0 z z pc lv [.int r]) (n : Nat) : ∀ (s0 : zh_S) (a0 : Nat) (i1 : Int32) (j2 : Int64) (i4 : Int32), zb_M_set_201 n s0 a0 i1 j2 i4 = some (r, z) → zg_G p l e R s m args below meth c Q h0 D dA 5 c0 k0 z s0 201 [(0, .ref (h0 + a0)), (1, .int i1), (2, .long j2), (4, .int i4)] [] := by
  obtain ⟨hx, hb, hml, hown, htT, hrt, hlk, x00, hIn⟩ := id X
  have hK := hIn.2.1
  have hT := hIn.2.2.1
  have hNe := hIn.2.2.2
  intro s0 a0 i1 j2 i4 hf
  rw [zb_M_set_201] at hf
  refine zg_1 (pc' := 203) (fun _ _ _ _ _ hl w => lv_iload hx hb zd_M_set_201 (lv_at hl 3 rfl) w) ?_
  refine zg_2 (pc1 := 213) (pc2 := 206) (Classical.em _) (fun _ _ _ _ _ w1 w2 => lv_if_eq hx hb zd_M_set_203 (by decide) w1 w2) (fun hc => ?_) (fun hc => ?_)
  · rw [if_pos hc] at hf
    refine zg_1 (pc' := 215) (fun _ _ _ _ _ hl w => lv_iload hx hb zd_M_set_213 (lv_at hl 3 rfl) w) ?_
    obtain ⟨h_1, hf⟩ := zx_ck hf
    obtain ⟨rfl, rfl⟩ := zx_r2 hf
    exact hret h_1 _ _ zd_M_set_215
  · rw [if_neg hc] at hf
    refine zg_1 (pc' := 207) (fun _ _ _ _ _ hl w => lv_aload_n hx hb zd_M_set_206 rfl (lv_at hl 0 rfl) w) ?_
    obtain ⟨h_2, hf⟩ := zx_ck hf
    obtain ⟨a_3, h_4, hf⟩ := zx_p hf
    refine zg_get (pc' := 210) (ci := 8) hx hb htT zi_M hown hK h_2 rfl rfl 2 (by decide) (htT _ zt_807) (fun _ h9 => h9) (zx_hv h_4) zd_M_set_207 rfl ?_
    refine zg_1 (pc' := 211) (fun _ _ _ _ _ hl w => lv_iload_n hx hb zd_M_set_210 rfl (lv_at hl 1 rfl) w) ?_
    refine zg_1 (pc' := 212) (fun _ _ _ _ _ hl w => lv_lload_n hx hb zd_M_set_211 rfl (lv_at hl 2 rfl) w) ?_
    obtain ⟨h_6, hf⟩ := zx_ck hf
    obtain ⟨s_5, e_s_5, hf⟩ := zx_l hf
    refine zg_last (pc' := 213) hx hb hK h_6 e_s_5 zd_M_set_212 rfl ?_
    refine zg_1 (pc' := 215) (fun _ _ _ _ _ hl w => lv_iload hx hb zd_M_set_213 (lv_at hl 3 rfl) w) ?_
    obtain ⟨h_7, hf⟩ := zx_ck hf
    obtain ⟨rfl, rfl⟩ := zx_r2 hf
    exact hret h_7 _ _ zd_M_set_215
set_option maxHeartbeats 4000000 in
theorem zw_M_set_181 {p : Program} {l : Launch} {e : Env} {R : Room} {s : State} {m : MethodId} {args : Array Value} {below : List Frame} {meth : Method} {c : Code} {Q : State → Prop} {h0 : Nat} {D : va_G} {dA : Nat → ClassId} {tb : Nat → Nat} {c0 k0 : Nat} {z : zh_S} {r : Int32} (X : zg_X p s m args meth c ze_M_set 5 zr_M (some .boolean) h0 D dA tb) (hR : zg_R R c0 k0 z) (hF : 2 ≤ R.frames ∧ 49 ≤ R.locals) (hret : (r = 0 ∨ r = 1) → ∀ (pc : Nat) (lv : List (Nat × Value)), decode ze_M_set pc = .ok (.ireturn, 1) → zg_G p l e R s m args below meth c Q h0 D dA 5 c0 k0 z z pc lv [.int r]) (n : Nat) : ∀ (s0 : zh_S) (a0 : Nat) (i1 : Int32) (j2 : Int64) (it0 : Int32), zb_M_set_181 n s0 a0 i1 j2 it0 = some (r, z) → zg_G p l e R s m args below meth c Q h0 D dA 5 c0 k0 z s0 181 [(0, .ref (h0 + a0)), (1, .int i1), (2, .long j2)] [.int it0] := by
  obtain ⟨hx, hb, hml, hown, htT, hrt, hlk, x00, hIn⟩ := id X
  have hK := hIn.2.1
  have hT := hIn.2.2.1
  have hNe := hIn.2.2.2
  intro s0 a0 i1 j2 it0 hf
  rw [zb_M_set_181] at hf
  refine zg_s (pc' := 183) (lv' := [(4, .int it0), (0, .ref (h0 + a0)), (1, .int i1), (2, .long j2)]) (fun _ _ _ _ _ hl w => lv_istore hx hb zd_M_set_181 hl (by decide) rfl w) ?_
  refine zg_1 (pc' := 201) (fun _ _ _ _ _ hl w => lv_goto hx hb zd_M_set_183 (by decide) w) ?_
  refine zg_v [1, 2, 3, 0] rfl ?_
  exact zw_M_set_201 X hR hF hret n s0 a0 i1 j2 it0 hf
set_option maxHeartbeats 4000000 in
theorem zw_M_set_176 {p : Program} {l : Launch} {e : Env} {R : Room} {s : State} {m : MethodId} {args : Array Value} {below : List Frame} {meth : Method} {c : Code} {Q : State → Prop} {h0 : Nat} {D : va_G} {dA : Nat → ClassId} {tb : Nat → Nat} {c0 k0 : Nat} {z : zh_S} {r : Int32} (X : zg_X p s m args meth c ze_M_set 5 zr_M (some .boolean) h0 D dA tb) (hR : zg_R R c0 k0 z) (hF : 2 ≤ R.frames ∧ 49 ≤ R.locals) (hret : (r = 0 ∨ r = 1) → ∀ (pc : Nat) (lv : List (Nat × Value)), decode ze_M_set pc = .ok (.ireturn, 1) → zg_G p l e R s m args below meth c Q h0 D dA 5 c0 k0 z z pc lv [.int r]) (n : Nat) : ∀ (s0 : zh_S) (a0 : Nat) (i1 : Int32) (j2 : Int64), zb_M_set_176 n s0 a0 i1 j2 = some (r, z) → zg_G p l e R s m args below meth c Q h0 D dA 5 c0 k0 z s0 176 [(0, .ref (h0 + a0)), (1, .int i1), (2, .long j2)] [] := by
  obtain ⟨hx, hb, hml, hown, htT, hrt, hlk, x00, hIn⟩ := id X
  have hK := hIn.2.1
  have hT := hIn.2.2.1
  have hNe := hIn.2.2.2
  intro s0 a0 i1 j2 hf
  rw [zb_M_set_176] at hf
  refine zg_1 (pc' := 177) (fun _ _ _ _ _ hl w => lv_iconst (v := (1 : Int32)) hx hb zd_M_set_176 (by decide) w) ?_
  refine zg_1 (pc' := 181) (fun _ _ _ _ _ hl w => lv_goto hx hb zd_M_set_177 (by decide) w) ?_
  exact zw_M_set_181 X hR hF hret n s0 a0 i1 j2 (1 : Int32) hf
set_option maxHeartbeats 4000000 in
theorem zw_M_set_158 {p : Program} {l : Launch} {e : Env} {R : Room} {s : State} {m : MethodId} {args : Array Value} {below : List Frame} {meth : Method} {c : Code} {Q : State → Prop} {h0 : Nat} {D : va_G} {dA : Nat → ClassId} {tb : Nat → Nat} {c0 k0 : Nat} {z : zh_S} {r : Int32} (X : zg_X p s m args meth c ze_M_set 5 zr_M (some .boolean) h0 D dA tb) (hR : zg_R R c0 k0 z) (hF : 2 ≤ R.frames ∧ 49 ≤ R.locals) (hret : (r = 0 ∨ r = 1) → ∀ (pc : Nat) (lv : List (Nat × Value)), decode ze_M_set pc = .ok (.ireturn, 1) → zg_G p l e R s m args below meth c Q h0 D dA 5 c0 k0 z z pc lv [.int r]) (n : Nat) : ∀ (s0 : zh_S) (a0 : Nat) (i1 : Int32) (j2 : Int64) (it0 : Int32), zb_M_set_158 n s0 a0 i1 j2 it0 = some (r, z) → zg_G p l e R s m args below meth c Q h0 D dA 5 c0 k0 z s0 158 [(0, .ref (h0 + a0)), (1, .int i1), (2, .long j2)] [.int it0] := by
  obtain ⟨hx, hb, hml, hown, htT, hrt, hlk, x00, hIn⟩ := id X
  have hK := hIn.2.1
  have hT := hIn.2.2.1
  have hNe := hIn.2.2.2
  intro s0 a0 i1 j2 it0 hf
  rw [zb_M_set_158] at hf
  refine zg_s (pc' := 160) (lv' := [(4, .int it0), (0, .ref (h0 + a0)), (1, .int i1), (2, .long j2)]) (fun _ _ _ _ _ hl w => lv_istore hx hb zd_M_set_158 hl (by decide) rfl w) ?_
  refine zg_1 (pc' := 201) (fun _ _ _ _ _ hl w => lv_goto hx hb zd_M_set_160 (by decide) w) ?_
  refine zg_v [1, 2, 3, 0] rfl ?_
  exact zw_M_set_201 X hR hF hret n s0 a0 i1 j2 it0 hf
set_option maxHeartbeats 4000000 in
theorem zw_M_set_153 {p : Program} {l : Launch} {e : Env} {R : Room} {s : State} {m : MethodId} {args : Array Value} {below : List Frame} {meth : Method} {c : Code} {Q : State → Prop} {h0 : Nat} {D : va_G} {dA : Nat → ClassId} {tb : Nat → Nat} {c0 k0 : Nat} {z : zh_S} {r : Int32} (X : zg_X p s m args meth c ze_M_set 5 zr_M (some .boolean) h0 D dA tb) (hR : zg_R R c0 k0 z) (hF : 2 ≤ R.frames ∧ 49 ≤ R.locals) (hret : (r = 0 ∨ r = 1) → ∀ (pc : Nat) (lv : List (Nat × Value)), decode ze_M_set pc = .ok (.ireturn, 1) → zg_G p l e R s m args below meth c Q h0 D dA 5 c0 k0 z z pc lv [.int r]) (n : Nat) : ∀ (s0 : zh_S) (a0 : Nat) (i1 : Int32) (j2 : Int64), zb_M_set_153 n s0 a0 i1 j2 = some (r, z) → zg_G p l e R s m args below meth c Q h0 D dA 5 c0 k0 z s0 153 [(0, .ref (h0 + a0)), (1, .int i1), (2, .long j2)] [] := by
  obtain ⟨hx, hb, hml, hown, htT, hrt, hlk, x00, hIn⟩ := id X
  have hK := hIn.2.1
  have hT := hIn.2.2.1
  have hNe := hIn.2.2.2
  intro s0 a0 i1 j2 hf
  rw [zb_M_set_153] at hf
  refine zg_1 (pc' := 154) (fun _ _ _ _ _ hl w => lv_iconst (v := (1 : Int32)) hx hb zd_M_set_153 (by decide) w) ?_
  refine zg_1 (pc' := 158) (fun _ _ _ _ _ hl w => lv_goto hx hb zd_M_set_154 (by decide) w) ?_
  exact zw_M_set_158 X hR hF hret n s0 a0 i1 j2 (1 : Int32) hf
set_option maxHeartbeats 4000000 in
theorem zw_M_set_79 {p : Program} {l : Launch} {e : Env} {R : Room} {s : State} {m : MethodId} {args : Array Value} {below : List Frame} {meth : Method} {c : Code} {Q : State → Prop} {h0 : Nat} {D : va_G} {dA : Nat → ClassId} {tb : Nat → Nat} {c0 k0 : Nat} {z : zh_S} {r : Int32} (X : zg_X p s m args meth c ze_M_set 5 zr_M (some .boolean) h0 D dA tb) (hR : zg_R R c0 k0 z) (hF : 2 ≤ R.frames ∧ 49 ≤ R.locals) (hret : (r = 0 ∨ r = 1) → ∀ (pc : Nat) (lv : List (Nat × Value)), decode ze_M_set pc = .ok (.ireturn, 1) → zg_G p l e R s m args below meth c Q h0 D dA 5 c0 k0 z z pc lv [.int r]) (n : Nat) : ∀ (s0 : zh_S) (a0 : Nat) (i1 : Int32) (j2 : Int64) (it0 : Int32), zb_M_set_79 n s0 a0 i1 j2 it0 = some (r, z) → zg_G p l e R s m args below meth c Q h0 D dA 5 c0 k0 z s0 79 [(0, .ref (h0 + a0)), (1, .int i1), (2, .long j2)] [.int it0] := by
  obtain ⟨hx, hb, hml, hown, htT, hrt, hlk, x00, hIn⟩ := id X
  have hK := hIn.2.1
  have hT := hIn.2.2.1
  have hNe := hIn.2.2.2
  intro s0 a0 i1 j2 it0 hf
  rw [zb_M_set_79] at hf
  refine zg_s (pc' := 81) (lv' := [(4, .int it0), (0, .ref (h0 + a0)), (1, .int i1), (2, .long j2)]) (fun _ _ _ _ _ hl w => lv_istore hx hb zd_M_set_79 hl (by decide) rfl w) ?_
  refine zg_1 (pc' := 201) (fun _ _ _ _ _ hl w => lv_goto hx hb zd_M_set_81 (by decide) w) ?_
  refine zg_v [1, 2, 3, 0] rfl ?_
  exact zw_M_set_201 X hR hF hret n s0 a0 i1 j2 it0 hf
set_option maxHeartbeats 4000000 in
theorem zc_M_set (l : Launch) (h0 : Nat) (D : va_G) (dA : Nat → ClassId) (tb : Nat → Nat) (n : Nat) {s0 : zh_S} {a0 : Nat} {i1 : Int32} {j2 : Int64} {r : Int32} {z : zh_S} (hf : zf_M_set n s0 a0 i1 j2 = some (r, z)) : zc_M l zn_M_set zs_M_set 2 49 h0 D dA tb [.ref (h0 + a0), .int i1, .long j2] s0 (some (.int r)) z := by
  rw [zf_M_set] at hf
  refine zc_of (cc := ze_M_set) (maxL := 5) (ret := (some .boolean)) (lv := [(0, .ref (h0 + a0)), (1, .int i1), (2, .long j2)]) (by decide) rfl (Nat.le_of_ble_eq_true rfl) rfl ?_
  intro p e s m args below meth c X hnm
  obtain ⟨hx, hb, hml, hown, htT, hrt, hlk, x00, hIn⟩ := id X
  have hK := hIn.2.1
  have hT := hIn.2.2.1
  have hNe := hIn.2.2.2
  have hR : zg_R { frames := 2, cells := zh_N z - zh_N s0, slots := zh_M z - zh_M s0, locals := 49 } (zh_N s0) (zh_M s0) z := ⟨by show zh_N z ≤ zh_N s0 + (zh_N z - zh_N s0); omega, by show zh_M z ≤ zh_M s0 + (zh_M z - zh_M s0); omega⟩
  have hF : 2 ≤ ({ frames := 2, cells := zh_N z - zh_N s0, slots := zh_M z - zh_M s0, locals := 49 } : Room).frames ∧ 49 ≤ ({ frames := 2, cells := zh_N z - zh_N s0, slots := zh_M z - zh_M s0, locals := 49 } : Room).locals := ⟨Nat.le_refl _, Nat.le_refl _⟩
  have hret := fun (hz : r = 0 ∨ r = 1) (pc : Nat) (lv : List (Nat × Value)) (hd : decode ze_M_set pc = .ok (.ireturn, 1)) => zg_iret (R := { frames := 2, cells := zh_N z - zh_N s0, slots := zh_M z - zh_M s0, locals := 49 }) (l := l) (e := e) (below := below) (c0 := zh_N s0) (s0 := zh_M s0) (z := z) (lv := lv) (v := r) X (zx_nz hz) hd
  refine zg_1 (pc' := 1) (fun _ _ _ _ _ hl w => lv_iload_n hx hb zd_M_set_0 rfl (lv_at hl 1 rfl) w) ?_
  by_cases hk0 : i1 = 0
  · rw [if_pos hk0] at hf
    refine zg_1 (pc' := 68) (fun _ _ _ _ _ hl w => lv_tableIn hx hb zd_M_set_1 (by rw [hk0]; decide) (by rw [hk0]; decide) (by rw [hk0]; rfl) (by decide) w) ?_
    refine zg_1 (pc' := 69) (fun _ _ _ _ _ hl w => lv_lload_n hx hb zd_M_set_68 rfl (lv_at hl 2 rfl) w) ?_
    refine zg_1 (pc' := 70) (fun _ _ _ _ _ hl w => lv_lconst (v := (0 : Int64)) hx hb zd_M_set_69 (by decide) w) ?_
    refine zg_1 (pc' := 71) (fun _ _ _ _ _ hl w => W.lcmp hx hb zd_M_set_70 w) ?_
    refine zg_2 (pc1 := 78) (pc2 := 74) (Classical.em _) (fun _ _ _ _ _ w1 w2 => lv_if_lt hx hb zd_M_set_71 (by decide) w1 w2) (fun hc => ?_) (fun hc => ?_)
    · rw [if_pos hc] at hf
      refine zg_1 (pc' := 79) (fun _ _ _ _ _ hl w => lv_iconst (v := (0 : Int32)) hx hb zd_M_set_78 (by decide) w) ?_
      exact zw_M_set_79 X hR hF hret n s0 a0 i1 j2 (0 : Int32) hf
    · rw [if_neg hc] at hf
      refine zg_1 (pc' := 75) (fun _ _ _ _ _ hl w => lv_iconst (v := (1 : Int32)) hx hb zd_M_set_74 (by decide) w) ?_
      refine zg_1 (pc' := 79) (fun _ _ _ _ _ hl w => lv_goto hx hb zd_M_set_75 (by decide) w) ?_
      exact zw_M_set_79 X hR hF hret n s0 a0 i1 j2 (1 : Int32) hf
  rw [if_neg hk0] at hf
  by_cases hk1 : i1 = 1
  · rw [if_pos hk1] at hf
    refine zg_1 (pc' := 84) (fun _ _ _ _ _ hl w => lv_tableIn hx hb zd_M_set_1 (by rw [hk1]; decide) (by rw [hk1]; decide) (by rw [hk1]; rfl) (by decide) w) ?_
    refine zg_1 (pc' := 85) (fun _ _ _ _ _ hl w => lv_lload_n hx hb zd_M_set_84 rfl (lv_at hl 2 rfl) w) ?_
    obtain ⟨i_1, hq, hf⟩ := zx_p hf
    refine zg_call (pc' := 88) (y := s0) (rv := (some (.int i_1))) (rest := []) X hR ⟨Nat.le_refl _, Nat.le_refl _⟩ (fun H locs ls k j hsz hI hU hk => va_runS (As := [.long j2]) (rest := []) ⟨hx, hb, hml, hown, htT⟩ (zc_M_isName l h0 D dA tb n hq) (va_cwS 1 htT (zw_gS zt_934 zt_935 zt_71 zt_936) rfl rfl rfl (by decide +kernel) ⟨Nat.le_trans (Nat.le_of_ble_eq_true rfl) hF.1, Nat.le_trans (Nat.le_of_ble_eq_true rfl) hF.2⟩) (zg_pre hU) rfl rfl hsz rfl (lv_room (Nat.le_of_ble_eq_true rfl)) zd_M_set_85 hk) rfl ?_
    refine zg_s (pc' := 90) (lv' := [(4, .int i_1), (0, .ref (h0 + a0)), (1, .int i1), (2, .long j2)]) (fun _ _ _ _ _ hl w => lv_istore hx hb zd_M_set_88 hl (by decide) rfl w) ?_
    refine zg_1 (pc' := 201) (fun _ _ _ _ _ hl w => lv_goto hx hb zd_M_set_90 (by decide) w) ?_
    refine zg_v [1, 2, 3, 0] rfl ?_
    exact zw_M_set_201 X hR hF hret n s0 a0 i1 j2 i_1 hf
  rw [if_neg hk1] at hf
  by_cases hk2 : i1 = 2
  · rw [if_pos hk2] at hf
    refine zg_1 (pc' := 68) (fun _ _ _ _ _ hl w => lv_tableIn hx hb zd_M_set_1 (by rw [hk2]; decide) (by rw [hk2]; decide) (by rw [hk2]; rfl) (by decide) w) ?_
    refine zg_1 (pc' := 69) (fun _ _ _ _ _ hl w => lv_lload_n hx hb zd_M_set_68 rfl (lv_at hl 2 rfl) w) ?_
    refine zg_1 (pc' := 70) (fun _ _ _ _ _ hl w => lv_lconst (v := (0 : Int64)) hx hb zd_M_set_69 (by decide) w) ?_
    refine zg_1 (pc' := 71) (fun _ _ _ _ _ hl w => W.lcmp hx hb zd_M_set_70 w) ?_
    refine zg_2 (pc1 := 78) (pc2 := 74) (Classical.em _) (fun _ _ _ _ _ w1 w2 => lv_if_lt hx hb zd_M_set_71 (by decide) w1 w2) (fun hc => ?_) (fun hc => ?_)
    · rw [if_pos hc] at hf
      refine zg_1 (pc' := 79) (fun _ _ _ _ _ hl w => lv_iconst (v := (0 : Int32)) hx hb zd_M_set_78 (by decide) w) ?_
      exact zw_M_set_79 X hR hF hret n s0 a0 i1 j2 (0 : Int32) hf
    · rw [if_neg hc] at hf
      refine zg_1 (pc' := 75) (fun _ _ _ _ _ hl w => lv_iconst (v := (1 : Int32)) hx hb zd_M_set_74 (by decide) w) ?_
      refine zg_1 (pc' := 79) (fun _ _ _ _ _ hl w => lv_goto hx hb zd_M_set_75 (by decide) w) ?_
      exact zw_M_set_79 X hR hF hret n s0 a0 i1 j2 (1 : Int32) hf
  rw [if_neg hk2] at hf
  by_cases hk3 : i1 = 3
  · rw [if_pos hk3] at hf
    refine zg_1 (pc' := 68) (fun _ _ _ _ _ hl w => lv_tableIn hx hb zd_M_set_1 (by rw [hk3]; decide) (by rw [hk3]; decide) (by rw [hk3]; rfl) (by decide) w) ?_
    refine zg_1 (pc' := 69) (fun _ _ _ _ _ hl w => lv_lload_n hx hb zd_M_set_68 rfl (lv_at hl 2 rfl) w) ?_
    refine zg_1 (pc' := 70) (fun _ _ _ _ _ hl w => lv_lconst (v := (0 : Int64)) hx hb zd_M_set_69 (by decide) w) ?_
    refine zg_1 (pc' := 71) (fun _ _ _ _ _ hl w => W.lcmp hx hb zd_M_set_70 w) ?_
    refine zg_2 (pc1 := 78) (pc2 := 74) (Classical.em _) (fun _ _ _ _ _ w1 w2 => lv_if_lt hx hb zd_M_set_71 (by decide) w1 w2) (fun hc => ?_) (fun hc => ?_)
    · rw [if_pos hc] at hf
      refine zg_1 (pc' := 79) (fun _ _ _ _ _ hl w => lv_iconst (v := (0 : Int32)) hx hb zd_M_set_78 (by decide) w) ?_
      exact zw_M_set_79 X hR hF hret n s0 a0 i1 j2 (0 : Int32) hf
    · rw [if_neg hc] at hf
      refine zg_1 (pc' := 75) (fun _ _ _ _ _ hl w => lv_iconst (v := (1 : Int32)) hx hb zd_M_set_74 (by decide) w) ?_
      refine zg_1 (pc' := 79) (fun _ _ _ _ _ hl w => lv_goto hx hb zd_M_set_75 (by decide) w) ?_
      exact zw_M_set_79 X hR hF hret n s0 a0 i1 j2 (1 : Int32) hf
  rw [if_neg hk3] at hf
  by_cases hk4 : i1 = 4
  · rw [if_pos hk4] at hf
    refine zg_1 (pc' := 84) (fun _ _ _ _ _ hl w => lv_tableIn hx hb zd_M_set_1 (by rw [hk4]; decide) (by rw [hk4]; decide) (by rw [hk4]; rfl) (by decide) w) ?_
    refine zg_1 (pc' := 85) (fun _ _ _ _ _ hl w => lv_lload_n hx hb zd_M_set_84 rfl (lv_at hl 2 rfl) w) ?_
    obtain ⟨i_2, hq, hf⟩ := zx_p hf
    refine zg_call (pc' := 88) (y := s0) (rv := (some (.int i_2))) (rest := []) X hR ⟨Nat.le_refl _, Nat.le_refl _⟩ (fun H locs ls k j hsz hI hU hk => va_runS (As := [.long j2]) (rest := []) ⟨hx, hb, hml, hown, htT⟩ (zc_M_isName l h0 D dA tb n hq) (va_cwS 1 htT (zw_gS zt_934 zt_935 zt_71 zt_936) rfl rfl rfl (by decide +kernel) ⟨Nat.le_trans (Nat.le_of_ble_eq_true rfl) hF.1, Nat.le_trans (Nat.le_of_ble_eq_true rfl) hF.2⟩) (zg_pre hU) rfl rfl hsz rfl (lv_room (Nat.le_of_ble_eq_true rfl)) zd_M_set_85 hk) rfl ?_
    refine zg_s (pc' := 90) (lv' := [(4, .int i_2), (0, .ref (h0 + a0)), (1, .int i1), (2, .long j2)]) (fun _ _ _ _ _ hl w => lv_istore hx hb zd_M_set_88 hl (by decide) rfl w) ?_
    refine zg_1 (pc' := 201) (fun _ _ _ _ _ hl w => lv_goto hx hb zd_M_set_90 (by decide) w) ?_
    refine zg_v [1, 2, 3, 0] rfl ?_
    exact zw_M_set_201 X hR hF hret n s0 a0 i1 j2 i_2 hf
  rw [if_neg hk4] at hf
  by_cases hk5 : i1 = 5
  · rw [if_pos hk5] at hf
    refine zg_1 (pc' := 93) (fun _ _ _ _ _ hl w => lv_tableIn hx hb zd_M_set_1 (by rw [hk5]; decide) (by rw [hk5]; decide) (by rw [hk5]; rfl) (by decide) w) ?_
    refine zg_1 (pc' := 94) (fun _ _ _ _ _ hl w => lv_lload_n hx hb zd_M_set_93 rfl (lv_at hl 2 rfl) w) ?_
    refine zg_1 (pc' := 95) (fun _ _ _ _ _ hl w => lv_lconst (v := (0 : Int64)) hx hb zd_M_set_94 (by decide) w) ?_
    refine zg_1 (pc' := 98) (fun _ _ _ _ _ hl w => lv_ldc2 (v := (5 : Int64)) hx hb hown (htT _ zt_795) zd_M_set_95 w) ?_
    obtain ⟨i_3, hq, hf⟩ := zx_p hf
    refine zg_call (pc' := 101) (y := s0) (rv := (some (.int i_3))) (rest := []) X hR ⟨Nat.le_refl _, Nat.le_refl _⟩ (fun H locs ls k j hsz hI hU hk => va_runS (As := [.long j2, .long (0 : Int64), .long (5 : Int64)]) (rest := []) ⟨hx, hb, hml, hown, htT⟩ (zc_M_in l h0 D dA tb n hq) (va_cwS 3 htT (zw_gS zt_909 zt_910 zt_71 zt_911) rfl rfl rfl (by decide +kernel) ⟨Nat.le_trans (Nat.le_of_ble_eq_true rfl) hF.1, Nat.le_trans (Nat.le_of_ble_eq_true rfl) hF.2⟩) (zg_pre hU) rfl rfl hsz rfl (lv_room (Nat.le_of_ble_eq_true rfl)) zd_M_set_98 hk) rfl ?_
    refine zg_s (pc' := 103) (lv' := [(4, .int i_3), (0, .ref (h0 + a0)), (1, .int i1), (2, .long j2)]) (fun _ _ _ _ _ hl w => lv_istore hx hb zd_M_set_101 hl (by decide) rfl w) ?_
    refine zg_1 (pc' := 201) (fun _ _ _ _ _ hl w => lv_goto hx hb zd_M_set_103 (by decide) w) ?_
    refine zg_v [1, 2, 3, 0] rfl ?_
    exact zw_M_set_201 X hR hF hret n s0 a0 i1 j2 i_3 hf
  rw [if_neg hk5] at hf
  by_cases hk6 : i1 = 6
  · rw [if_pos hk6] at hf
    refine zg_1 (pc' := 106) (fun _ _ _ _ _ hl w => lv_tableIn hx hb zd_M_set_1 (by rw [hk6]; decide) (by rw [hk6]; decide) (by rw [hk6]; rfl) (by decide) w) ?_
    refine zg_1 (pc' := 107) (fun _ _ _ _ _ hl w => lv_lload_n hx hb zd_M_set_106 rfl (lv_at hl 2 rfl) w) ?_
    refine zg_1 (pc' := 110) (fun _ _ _ _ _ hl w => lv_ldc2 (v := (-1 : Int64)) hx hb hown (htT _ zt_804) zd_M_set_107 w) ?_
    refine zg_1 (pc' := 111) (fun _ _ _ _ _ hl w => lv_lconst (v := (1 : Int64)) hx hb zd_M_set_110 (by decide) w) ?_
    obtain ⟨i_4, hq, hf⟩ := zx_p hf
    refine zg_call (pc' := 114) (y := s0) (rv := (some (.int i_4))) (rest := []) X hR ⟨Nat.le_refl _, Nat.le_refl _⟩ (fun H locs ls k j hsz hI hU hk => va_runS (As := [.long j2, .long (-1 : Int64), .long (1 : Int64)]) (rest := []) ⟨hx, hb, hml, hown, htT⟩ (zc_M_in l h0 D dA tb n hq) (va_cwS 3 htT (zw_gS zt_909 zt_910 zt_71 zt_911) rfl rfl rfl (by decide +kernel) ⟨Nat.le_trans (Nat.le_of_ble_eq_true rfl) hF.1, Nat.le_trans (Nat.le_of_ble_eq_true rfl) hF.2⟩) (zg_pre hU) rfl rfl hsz rfl (lv_room (Nat.le_of_ble_eq_true rfl)) zd_M_set_111 hk) rfl ?_
    refine zg_s (pc' := 116) (lv' := [(4, .int i_4), (0, .ref (h0 + a0)), (1, .int i1), (2, .long j2)]) (fun _ _ _ _ _ hl w => lv_istore hx hb zd_M_set_114 hl (by decide) rfl w) ?_
    refine zg_1 (pc' := 201) (fun _ _ _ _ _ hl w => lv_goto hx hb zd_M_set_116 (by decide) w) ?_
    refine zg_v [1, 2, 3, 0] rfl ?_
    exact zw_M_set_201 X hR hF hret n s0 a0 i1 j2 i_4 hf
  rw [if_neg hk6] at hf
  by_cases hk7 : i1 = 7
  · rw [if_pos hk7] at hf
    refine zg_1 (pc' := 119) (fun _ _ _ _ _ hl w => lv_tableIn hx hb zd_M_set_1 (by rw [hk7]; decide) (by rw [hk7]; decide) (by rw [hk7]; rfl) (by decide) w) ?_
    refine zg_1 (pc' := 120) (fun _ _ _ _ _ hl w => lv_lload_n hx hb zd_M_set_119 rfl (lv_at hl 2 rfl) w) ?_
    refine zg_1 (pc' := 123) (fun _ _ _ _ _ hl w => lv_ldc2 (v := (-1 : Int64)) hx hb hown (htT _ zt_804) zd_M_set_120 w) ?_
    refine zg_1 (pc' := 126) (fun _ _ _ _ _ hl w => lv_ldc2 (v := (9 : Int64)) hx hb hown (htT _ zt_942) zd_M_set_123 w) ?_
    obtain ⟨i_5, hq, hf⟩ := zx_p hf
    refine zg_call (pc' := 129) (y := s0) (rv := (some (.int i_5))) (rest := []) X hR ⟨Nat.le_refl _, Nat.le_refl _⟩ (fun H locs ls k j hsz hI hU hk => va_runS (As := [.long j2, .long (-1 : Int64), .long (9 : Int64)]) (rest := []) ⟨hx, hb, hml, hown, htT⟩ (zc_M_in l h0 D dA tb n hq) (va_cwS 3 htT (zw_gS zt_909 zt_910 zt_71 zt_911) rfl rfl rfl (by decide +kernel) ⟨Nat.le_trans (Nat.le_of_ble_eq_true rfl) hF.1, Nat.le_trans (Nat.le_of_ble_eq_true rfl) hF.2⟩) (zg_pre hU) rfl rfl hsz rfl (lv_room (Nat.le_of_ble_eq_true rfl)) zd_M_set_126 hk) rfl ?_
    refine zg_s (pc' := 131) (lv' := [(4, .int i_5), (0, .ref (h0 + a0)), (1, .int i1), (2, .long j2)]) (fun _ _ _ _ _ hl w => lv_istore hx hb zd_M_set_129 hl (by decide) rfl w) ?_
    refine zg_1 (pc' := 201) (fun _ _ _ _ _ hl w => lv_goto hx hb zd_M_set_131 (by decide) w) ?_
    refine zg_v [1, 2, 3, 0] rfl ?_
    exact zw_M_set_201 X hR hF hret n s0 a0 i1 j2 i_5 hf
  rw [if_neg hk7] at hf
  by_cases hk8 : i1 = 8
  · rw [if_pos hk8] at hf
    refine zg_1 (pc' := 134) (fun _ _ _ _ _ hl w => lv_tableIn hx hb zd_M_set_1 (by rw [hk8]; decide) (by rw [hk8]; decide) (by rw [hk8]; rfl) (by decide) w) ?_
    refine zg_1 (pc' := 135) (fun _ _ _ _ _ hl w => lv_lload_n hx hb zd_M_set_134 rfl (lv_at hl 2 rfl) w) ?_
    refine zg_1 (pc' := 138) (fun _ _ _ _ _ hl w => lv_ldc2 (v := (-1 : Int64)) hx hb hown (htT _ zt_804) zd_M_set_135 w) ?_
    refine zg_1 (pc' := 139) (fun _ _ _ _ _ hl w => W.lcmp hx hb zd_M_set_138 w) ?_
    refine zg_2 (pc1 := 153) (pc2 := 142) (Classical.em _) (fun _ _ _ _ _ w1 w2 => lv_if_eq hx hb zd_M_set_139 (by decide) w1 w2) (fun hc => ?_) (fun hc => ?_)
    · rw [if_pos hc] at hf
      exact zw_M_set_153 X hR hF hret n s0 a0 i1 j2 hf
    · rw [if_neg hc] at hf
      refine zg_1 (pc' := 143) (fun _ _ _ _ _ hl w => lv_lload_n hx hb zd_M_set_142 rfl (lv_at hl 2 rfl) w) ?_
      refine zg_1 (pc' := 144) (fun _ _ _ _ _ hl w => lv_lconst (v := (1 : Int64)) hx hb zd_M_set_143 (by decide) w) ?_
      refine zg_1 (pc' := 147) (fun _ _ _ _ _ hl w => lv_ldc2 (v := (7 : Int64)) hx hb hown (htT _ zt_943) zd_M_set_144 w) ?_
      obtain ⟨i_6, hq, hf⟩ := zx_p hf
      refine zg_call (pc' := 150) (y := s0) (rv := (some (.int i_6))) (rest := []) X hR ⟨Nat.le_refl _, Nat.le_refl _⟩ (fun H locs ls k j hsz hI hU hk => va_runS (As := [.long j2, .long (1 : Int64), .long (7 : Int64)]) (rest := []) ⟨hx, hb, hml, hown, htT⟩ (zc_M_in l h0 D dA tb n hq) (va_cwS 3 htT (zw_gS zt_909 zt_910 zt_71 zt_911) rfl rfl rfl (by decide +kernel) ⟨Nat.le_trans (Nat.le_of_ble_eq_true rfl) hF.1, Nat.le_trans (Nat.le_of_ble_eq_true rfl) hF.2⟩) (zg_pre hU) rfl rfl hsz rfl (lv_room (Nat.le_of_ble_eq_true rfl)) zd_M_set_147 hk) rfl ?_
      refine zg_2 (pc1 := 157) (pc2 := 153) (Classical.em _) (fun _ _ _ _ _ w1 w2 => lv_if_eq hx hb zd_M_set_150 (by decide) w1 w2) (fun hc => ?_) (fun hc => ?_)
      · rw [if_pos hc] at hf
        refine zg_1 (pc' := 158) (fun _ _ _ _ _ hl w => lv_iconst (v := (0 : Int32)) hx hb zd_M_set_157 (by decide) w) ?_
        exact zw_M_set_158 X hR hF hret n s0 a0 i1 j2 (0 : Int32) hf
      · rw [if_neg hc] at hf
        exact zw_M_set_153 X hR hF hret n s0 a0 i1 j2 hf
  rw [if_neg hk8] at hf
  by_cases hk9 : i1 = 9
  · rw [if_pos hk9] at hf
    refine zg_1 (pc' := 163) (fun _ _ _ _ _ hl w => lv_tableIn hx hb zd_M_set_1 (by rw [hk9]; decide) (by rw [hk9]; decide) (by rw [hk9]; rfl) (by decide) w) ?_
    refine zg_1 (pc' := 164) (fun _ _ _ _ _ hl w => lv_lload_n hx hb zd_M_set_163 rfl (lv_at hl 2 rfl) w) ?_
    refine zg_1 (pc' := 165) (fun _ _ _ _ _ hl w => lv_lconst (v := (0 : Int64)) hx hb zd_M_set_164 (by decide) w) ?_
    refine zg_1 (pc' := 166) (fun _ _ _ _ _ hl w => W.lcmp hx hb zd_M_set_165 w) ?_
    refine zg_2 (pc1 := 176) (pc2 := 169) (Classical.em _) (fun _ _ _ _ _ w1 w2 => lv_if_eq hx hb zd_M_set_166 (by decide) w1 w2) (fun hc => ?_) (fun hc => ?_)
    · rw [if_pos hc] at hf
      exact zw_M_set_176 X hR hF hret n s0 a0 i1 j2 hf
    · rw [if_neg hc] at hf
      refine zg_1 (pc' := 170) (fun _ _ _ _ _ hl w => lv_lload_n hx hb zd_M_set_169 rfl (lv_at hl 2 rfl) w) ?_
      obtain ⟨i_7, hq, hf⟩ := zx_p hf
      refine zg_call (pc' := 173) (y := s0) (rv := (some (.int i_7))) (rest := []) X hR ⟨Nat.le_refl _, Nat.le_refl _⟩ (fun H locs ls k j hsz hI hU hk => va_runS (As := [.long j2]) (rest := []) ⟨hx, hb, hml, hown, htT⟩ (zc_M_isName l h0 D dA tb n hq) (va_cwS 1 htT (zw_gS zt_934 zt_935 zt_71 zt_936) rfl rfl rfl (by decide +kernel) ⟨Nat.le_trans (Nat.le_of_ble_eq_true rfl) hF.1, Nat.le_trans (Nat.le_of_ble_eq_true rfl) hF.2⟩) (zg_pre hU) rfl rfl hsz rfl (lv_room (Nat.le_of_ble_eq_true rfl)) zd_M_set_170 hk) rfl ?_
      refine zg_2 (pc1 := 180) (pc2 := 176) (Classical.em _) (fun _ _ _ _ _ w1 w2 => lv_if_eq hx hb zd_M_set_173 (by decide) w1 w2) (fun hc => ?_) (fun hc => ?_)
      · rw [if_pos hc] at hf
        refine zg_1 (pc' := 181) (fun _ _ _ _ _ hl w => lv_iconst (v := (0 : Int32)) hx hb zd_M_set_180 (by decide) w) ?_
        exact zw_M_set_181 X hR hF hret n s0 a0 i1 j2 (0 : Int32) hf
      · rw [if_neg hc] at hf
        exact zw_M_set_176 X hR hF hret n s0 a0 i1 j2 hf
  rw [if_neg hk9] at hf
  by_cases hk10 : i1 = 10
  · rw [if_pos hk10] at hf
    refine zg_1 (pc' := 163) (fun _ _ _ _ _ hl w => lv_tableIn hx hb zd_M_set_1 (by rw [hk10]; decide) (by rw [hk10]; decide) (by rw [hk10]; rfl) (by decide) w) ?_
    refine zg_1 (pc' := 164) (fun _ _ _ _ _ hl w => lv_lload_n hx hb zd_M_set_163 rfl (lv_at hl 2 rfl) w) ?_
    refine zg_1 (pc' := 165) (fun _ _ _ _ _ hl w => lv_lconst (v := (0 : Int64)) hx hb zd_M_set_164 (by decide) w) ?_
    refine zg_1 (pc' := 166) (fun _ _ _ _ _ hl w => W.lcmp hx hb zd_M_set_165 w) ?_
    refine zg_2 (pc1 := 176) (pc2 := 169) (Classical.em _) (fun _ _ _ _ _ w1 w2 => lv_if_eq hx hb zd_M_set_166 (by decide) w1 w2) (fun hc => ?_) (fun hc => ?_)
    · rw [if_pos hc] at hf
      exact zw_M_set_176 X hR hF hret n s0 a0 i1 j2 hf
    · rw [if_neg hc] at hf
      refine zg_1 (pc' := 170) (fun _ _ _ _ _ hl w => lv_lload_n hx hb zd_M_set_169 rfl (lv_at hl 2 rfl) w) ?_
      obtain ⟨i_8, hq, hf⟩ := zx_p hf
      refine zg_call (pc' := 173) (y := s0) (rv := (some (.int i_8))) (rest := []) X hR ⟨Nat.le_refl _, Nat.le_refl _⟩ (fun H locs ls k j hsz hI hU hk => va_runS (As := [.long j2]) (rest := []) ⟨hx, hb, hml, hown, htT⟩ (zc_M_isName l h0 D dA tb n hq) (va_cwS 1 htT (zw_gS zt_934 zt_935 zt_71 zt_936) rfl rfl rfl (by decide +kernel) ⟨Nat.le_trans (Nat.le_of_ble_eq_true rfl) hF.1, Nat.le_trans (Nat.le_of_ble_eq_true rfl) hF.2⟩) (zg_pre hU) rfl rfl hsz rfl (lv_room (Nat.le_of_ble_eq_true rfl)) zd_M_set_170 hk) rfl ?_
      refine zg_2 (pc1 := 180) (pc2 := 176) (Classical.em _) (fun _ _ _ _ _ w1 w2 => lv_if_eq hx hb zd_M_set_173 (by decide) w1 w2) (fun hc => ?_) (fun hc => ?_)
      · rw [if_pos hc] at hf
        refine zg_1 (pc' := 181) (fun _ _ _ _ _ hl w => lv_iconst (v := (0 : Int32)) hx hb zd_M_set_180 (by decide) w) ?_
        exact zw_M_set_181 X hR hF hret n s0 a0 i1 j2 (0 : Int32) hf
      · rw [if_neg hc] at hf
        exact zw_M_set_176 X hR hF hret n s0 a0 i1 j2 hf
  rw [if_neg hk10] at hf
  by_cases hk11 : i1 = 11
  · rw [if_pos hk11] at hf
    refine zg_1 (pc' := 186) (fun _ _ _ _ _ hl w => lv_tableIn hx hb zd_M_set_1 (by rw [hk11]; decide) (by rw [hk11]; decide) (by rw [hk11]; rfl) (by decide) w) ?_
    refine zg_1 (pc' := 187) (fun _ _ _ _ _ hl w => lv_lload_n hx hb zd_M_set_186 rfl (lv_at hl 2 rfl) w) ?_
    refine zg_1 (pc' := 188) (fun _ _ _ _ _ hl w => lv_lconst (v := (0 : Int64)) hx hb zd_M_set_187 (by decide) w) ?_
    refine zg_1 (pc' := 191) (fun _ _ _ _ _ hl w => lv_ldc2 (v := (2 : Int64)) hx hb hown (htT _ zt_906) zd_M_set_188 w) ?_
    obtain ⟨i_9, hq, hf⟩ := zx_p hf
    refine zg_call (pc' := 194) (y := s0) (rv := (some (.int i_9))) (rest := []) X hR ⟨Nat.le_refl _, Nat.le_refl _⟩ (fun H locs ls k j hsz hI hU hk => va_runS (As := [.long j2, .long (0 : Int64), .long (2 : Int64)]) (rest := []) ⟨hx, hb, hml, hown, htT⟩ (zc_M_in l h0 D dA tb n hq) (va_cwS 3 htT (zw_gS zt_909 zt_910 zt_71 zt_911) rfl rfl rfl (by decide +kernel) ⟨Nat.le_trans (Nat.le_of_ble_eq_true rfl) hF.1, Nat.le_trans (Nat.le_of_ble_eq_true rfl) hF.2⟩) (zg_pre hU) rfl rfl hsz rfl (lv_room (Nat.le_of_ble_eq_true rfl)) zd_M_set_191 hk) rfl ?_
    refine zg_s (pc' := 196) (lv' := [(4, .int i_9), (0, .ref (h0 + a0)), (1, .int i1), (2, .long j2)]) (fun _ _ _ _ _ hl w => lv_istore hx hb zd_M_set_194 hl (by decide) rfl w) ?_
    refine zg_1 (pc' := 201) (fun _ _ _ _ _ hl w => lv_goto hx hb zd_M_set_196 (by decide) w) ?_
    refine zg_v [1, 2, 3, 0] rfl ?_
    exact zw_M_set_201 X hR hF hret n s0 a0 i1 j2 i_9 hf
  rw [if_neg hk11] at hf
  by_cases hk12 : i1 = 12
  · rw [if_pos hk12] at hf
    refine zg_1 (pc' := 93) (fun _ _ _ _ _ hl w => lv_tableIn hx hb zd_M_set_1 (by rw [hk12]; decide) (by rw [hk12]; decide) (by rw [hk12]; rfl) (by decide) w) ?_
    refine zg_1 (pc' := 94) (fun _ _ _ _ _ hl w => lv_lload_n hx hb zd_M_set_93 rfl (lv_at hl 2 rfl) w) ?_
    refine zg_1 (pc' := 95) (fun _ _ _ _ _ hl w => lv_lconst (v := (0 : Int64)) hx hb zd_M_set_94 (by decide) w) ?_
    refine zg_1 (pc' := 98) (fun _ _ _ _ _ hl w => lv_ldc2 (v := (5 : Int64)) hx hb hown (htT _ zt_795) zd_M_set_95 w) ?_
    obtain ⟨i_10, hq, hf⟩ := zx_p hf
    refine zg_call (pc' := 101) (y := s0) (rv := (some (.int i_10))) (rest := []) X hR ⟨Nat.le_refl _, Nat.le_refl _⟩ (fun H locs ls k j hsz hI hU hk => va_runS (As := [.long j2, .long (0 : Int64), .long (5 : Int64)]) (rest := []) ⟨hx, hb, hml, hown, htT⟩ (zc_M_in l h0 D dA tb n hq) (va_cwS 3 htT (zw_gS zt_909 zt_910 zt_71 zt_911) rfl rfl rfl (by decide +kernel) ⟨Nat.le_trans (Nat.le_of_ble_eq_true rfl) hF.1, Nat.le_trans (Nat.le_of_ble_eq_true rfl) hF.2⟩) (zg_pre hU) rfl rfl hsz rfl (lv_room (Nat.le_of_ble_eq_true rfl)) zd_M_set_98 hk) rfl ?_
    refine zg_s (pc' := 103) (lv' := [(4, .int i_10), (0, .ref (h0 + a0)), (1, .int i1), (2, .long j2)]) (fun _ _ _ _ _ hl w => lv_istore hx hb zd_M_set_101 hl (by decide) rfl w) ?_
    refine zg_1 (pc' := 201) (fun _ _ _ _ _ hl w => lv_goto hx hb zd_M_set_103 (by decide) w) ?_
    refine zg_v [1, 2, 3, 0] rfl ?_
    exact zw_M_set_201 X hR hF hret n s0 a0 i1 j2 i_10 hf
  rw [if_neg hk12] at hf
  refine zg_1 (pc' := 199) (fun _ _ _ _ _ hl w => lv_tableOut hx hb zd_M_set_1 (zx_tab 12 (fun j hj => by rcases (show j = 0 ∨ j = 1 ∨ j = 2 ∨ j = 3 ∨ j = 4 ∨ j = 5 ∨ j = 6 ∨ j = 7 ∨ j = 8 ∨ j = 9 ∨ j = 10 ∨ j = 11 ∨ j = 12 by omega) with rfl | rfl | rfl | rfl | rfl | rfl | rfl | rfl | rfl | rfl | rfl | rfl | rfl <;> assumption)) (by decide) w) ?_
  refine zg_1 (pc' := 200) (fun _ _ _ _ _ hl w => lv_iconst (v := (0 : Int32)) hx hb zd_M_set_199 (by decide) w) ?_
  obtain ⟨rfl, rfl⟩ := zx_r2 hf
  exact hret (Or.inl rfl) _ _ zd_M_set_200
set_option maxHeartbeats 4000000 in
theorem zc_Draft_has (l : Launch) (h0 : Nat) (D : va_G) (dA : Nat → ClassId) (tb : Nat → Nat) (n : Nat) {s0 : zh_S} {a0 : Nat} {i1 : Int32} {r : Int32} (hf : zf_Draft_has n s0 a0 i1 = some r) : zc_M l zn_Draft_has zs_Draft_has 0 0 h0 D dA tb [.ref (h0 + a0), .int i1] s0 (some (.int r)) s0 := by
  rw [zf_Draft_has] at hf
  refine zc_of (cc := ze_Draft_has) (maxL := 2) (ret := (some .boolean)) (lv := [(0, .ref (h0 + a0)), (1, .int i1)]) (by decide) rfl (Nat.le_of_ble_eq_true rfl) rfl ?_
  intro p e s m args below meth c X hnm
  obtain ⟨hx, hb, hml, hown, htT, hrt, hlk, x00, hIn⟩ := id X
  have hK := hIn.2.1
  have hT := hIn.2.2.1
  have hNe := hIn.2.2.2
  have hR : zg_R { frames := 0, cells := zh_N s0 - zh_N s0, slots := zh_M s0 - zh_M s0, locals := 0 } (zh_N s0) (zh_M s0) s0 := ⟨by show zh_N s0 ≤ zh_N s0 + (zh_N s0 - zh_N s0); omega, by show zh_M s0 ≤ zh_M s0 + (zh_M s0 - zh_M s0); omega⟩
  have hF : 0 ≤ ({ frames := 0, cells := zh_N s0 - zh_N s0, slots := zh_M s0 - zh_M s0, locals := 0 } : Room).frames ∧ 0 ≤ ({ frames := 0, cells := zh_N s0 - zh_N s0, slots := zh_M s0 - zh_M s0, locals := 0 } : Room).locals := ⟨Nat.le_refl _, Nat.le_refl _⟩
  have hret := fun (hz : r = 0 ∨ r = 1) (pc : Nat) (lv : List (Nat × Value)) (hd : decode ze_Draft_has pc = .ok (.ireturn, 1)) => zg_iret (R := { frames := 0, cells := zh_N s0 - zh_N s0, slots := zh_M s0 - zh_M s0, locals := 0 }) (l := l) (e := e) (below := below) (c0 := zh_N s0) (s0 := zh_M s0) (z := s0) (lv := lv) (v := r) X (zx_nz hz) hd
  refine zg_1 (pc' := 1) (fun _ _ _ _ _ hl w => lv_iload_n hx hb zd_Draft_has_0 rfl (lv_at hl 1 rfl) w) ?_
  refine zg_2 (pc1 := 16) (pc2 := 4) (Classical.em _) (fun _ _ _ _ _ w1 w2 => lv_if_lt hx hb zd_Draft_has_1 (by decide) w1 w2) (fun hc => ?_) (fun hc => ?_)
  · rw [if_pos hc] at hf
    refine zg_1 (pc' := 17) (fun _ _ _ _ _ hl w => lv_iconst (v := (0 : Int32)) hx hb zd_Draft_has_16 (by decide) w) ?_
    obtain rfl := zx_r1 hf
    exact hret (Or.inl rfl) _ _ zd_Draft_has_17
  · rw [if_neg hc] at hf
    refine zg_1 (pc' := 5) (fun _ _ _ _ _ hl w => lv_iload_n hx hb zd_Draft_has_4 rfl (lv_at hl 1 rfl) w) ?_
    refine zg_1 (pc' := 6) (fun _ _ _ _ _ hl w => lv_aload_n hx hb zd_Draft_has_5 rfl (lv_at hl 0 rfl) w) ?_
    obtain ⟨h_1, hf⟩ := zx_ck hf
    refine zg_get (pc' := 9) (ci := 1) hx hb htT zi_Draft hown hK h_1 rfl rfl 1 (by decide) (htT _ zt_94) (fun _ h9 => h9) rfl zd_Draft_has_6 rfl ?_
    refine zg_2 (pc1 := 16) (pc2 := 12) (Classical.em _) (fun _ _ _ _ _ w1 w2 => lv_icmp_ge hx hb zd_Draft_has_9 (by decide) w1 w2) (fun hc => ?_) (fun hc => ?_)
    · rw [if_pos hc] at hf
      refine zg_1 (pc' := 17) (fun _ _ _ _ _ hl w => lv_iconst (v := (0 : Int32)) hx hb zd_Draft_has_16 (by decide) w) ?_
      obtain rfl := zx_r1 hf
      exact hret (Or.inl rfl) _ _ zd_Draft_has_17
    · rw [if_neg hc] at hf
      refine zg_1 (pc' := 13) (fun _ _ _ _ _ hl w => lv_iconst (v := (1 : Int32)) hx hb zd_Draft_has_12 (by decide) w) ?_
      refine zg_1 (pc' := 17) (fun _ _ _ _ _ hl w => lv_goto hx hb zd_Draft_has_13 (by decide) w) ?_
      obtain rfl := zx_r1 hf
      exact hret (Or.inr rfl) _ _ zd_Draft_has_17
set_option maxHeartbeats 4000000 in
theorem zc_V_at (l : Launch) (h0 : Nat) (D : va_G) (dA : Nat → ClassId) (tb : Nat → Nat) (n : Nat) {s0 : zh_S} {a0 : Nat} {i1 : Int32} {r : Int32} (hf : zf_V_at n s0 a0 i1 = some r) : zc_M l zn_V_at zs_V_at 1 21 h0 D dA tb [.ref (h0 + a0), .int i1] s0 (some (.int r)) s0 := by
  rw [zf_V_at] at hf
  refine zc_of (cc := ze_V_at) (maxL := 2) (ret := (some .int)) (lv := [(0, .ref (h0 + a0)), (1, .int i1)]) (by decide) rfl (Nat.le_of_ble_eq_true rfl) rfl ?_
  intro p e s m args below meth c X hnm
  obtain ⟨hx, hb, hml, hown, htT, hrt, hlk, x00, hIn⟩ := id X
  have hK := hIn.2.1
  have hT := hIn.2.2.1
  have hNe := hIn.2.2.2
  have hR : zg_R { frames := 1, cells := zh_N s0 - zh_N s0, slots := zh_M s0 - zh_M s0, locals := 21 } (zh_N s0) (zh_M s0) s0 := ⟨by show zh_N s0 ≤ zh_N s0 + (zh_N s0 - zh_N s0); omega, by show zh_M s0 ≤ zh_M s0 + (zh_M s0 - zh_M s0); omega⟩
  have hF : 1 ≤ ({ frames := 1, cells := zh_N s0 - zh_N s0, slots := zh_M s0 - zh_M s0, locals := 21 } : Room).frames ∧ 21 ≤ ({ frames := 1, cells := zh_N s0 - zh_N s0, slots := zh_M s0 - zh_M s0, locals := 21 } : Room).locals := ⟨Nat.le_refl _, Nat.le_refl _⟩
  have hret := fun (pc : Nat) (lv : List (Nat × Value)) (hd : decode ze_V_at pc = .ok (.ireturn, 1)) => zg_iret (R := { frames := 1, cells := zh_N s0 - zh_N s0, slots := zh_M s0 - zh_M s0, locals := 21 }) (l := l) (e := e) (below := below) (c0 := zh_N s0) (s0 := zh_M s0) (z := s0) (lv := lv) (v := r) X rfl hd
  refine zg_1 (pc' := 1) (fun _ _ _ _ _ hl w => lv_iload_n hx hb zd_V_at_0 rfl (lv_at hl 1 rfl) w) ?_
  refine zg_1 (pc' := 2) (fun _ _ _ _ _ hl w => lv_iconst (v := (-1 : Int32)) hx hb zd_V_at_1 (by decide) w) ?_
  refine zg_2 (pc1 := 13) (pc2 := 5) (Classical.em _).symm (fun _ _ _ _ _ w1 w2 => lv_icmp_ne hx hb zd_V_at_2 (by decide) w1 w2) (fun hc => ?_) (fun hc => ?_)
  · rw [if_neg hc] at hf
    refine zg_1 (pc' := 14) (fun _ _ _ _ _ hl w => lv_aload_n hx hb zd_V_at_13 rfl (lv_at hl 0 rfl) w) ?_
    obtain ⟨h_1, hf⟩ := zx_ck hf
    obtain ⟨a_2, h_3, hf⟩ := zx_p hf
    refine zg_get (pc' := 17) (ci := 7) hx hb htT zi_V hown hK h_1 rfl rfl 0 (by decide) (htT _ zt_302) (fun _ h9 => h9) (zx_hv h_3) zd_V_at_14 rfl ?_
    refine zg_1 (pc' := 18) (fun _ _ _ _ _ hl w => lv_iload_n hx hb zd_V_at_17 rfl (lv_at hl 1 rfl) w) ?_
    obtain ⟨h_4, hf⟩ := zx_ck hf
    obtain ⟨i_5, hq, hf⟩ := zx_p hf
    refine zg_call (pc' := 21) (y := s0) (rv := (some (.int i_5))) (rest := []) X hR ⟨Nat.le_refl _, Nat.le_refl _⟩ (fun H locs ls k j hsz hI hU hk => va_runV (As := [.int i1]) (rest := []) ⟨hx, hb, hml, hown, htT⟩ (zc_Draft_has l h0 D dA tb n hq) (cwV 1 htT (zw_gV zt_350 zt_335 zt_336 zt_65 zt_337) rfl rfl rfl (by decide +kernel) ⟨Nat.le_trans (Nat.le_of_ble_eq_true rfl) hF.1, Nat.le_trans (Nat.le_of_ble_eq_true rfl) hF.2⟩) ⟨(zg_pre hU).1, zg_recv hK hI h_4 rfl, (zg_pre hU).2⟩ rfl rfl hsz rfl (lv_room (Nat.le_of_ble_eq_true rfl)) zd_V_at_18 hk) rfl ?_
    refine zg_2 (pc1 := 36) (pc2 := 24) (Classical.em _) (fun _ _ _ _ _ w1 w2 => lv_if_eq hx hb zd_V_at_21 (by decide) w1 w2) (fun hc => ?_) (fun hc => ?_)
    · rw [if_pos hc] at hf
      refine zg_1 (pc' := 37) (fun _ _ _ _ _ hl w => lv_iconst (v := (-1 : Int32)) hx hb zd_V_at_36 (by decide) w) ?_
      obtain rfl := zx_r1 hf
      exact hret _ _ zd_V_at_37
    · rw [if_neg hc] at hf
      refine zg_1 (pc' := 25) (fun _ _ _ _ _ hl w => lv_aload_n hx hb zd_V_at_24 rfl (lv_at hl 0 rfl) w) ?_
      obtain ⟨a_6, h_7, hf⟩ := zx_p hf
      refine zg_get (pc' := 28) (ci := 7) hx hb htT zi_V hown hK h_1 rfl rfl 0 (by decide) (htT _ zt_302) (fun _ h9 => h9) (zx_hv h_7) zd_V_at_25 rfl ?_
      obtain ⟨h_8, hf⟩ := zx_ck hf
      obtain ⟨a_9, h_10, hf⟩ := zx_p hf
      refine zg_get (pc' := 31) (ci := 1) hx hb htT zi_Draft hown hK h_8 rfl rfl 0 (by decide) (htT _ zt_92) (fun _ h9 => h9) (zx_hv h_10) zd_V_at_28 rfl ?_
      refine zg_1 (pc' := 32) (fun _ _ _ _ _ hl w => lv_iload_n hx hb zd_V_at_31 rfl (lv_at hl 1 rfl) w) ?_
      obtain ⟨h_11, hf⟩ := zx_ck hf
      refine zg_iald (pc' := 33) hx hb hK h_11 zd_V_at_32 rfl ?_
      refine zg_1 (pc' := 37) (fun _ _ _ _ _ hl w => lv_goto hx hb zd_V_at_33 (by decide) w) ?_
      obtain rfl := zx_r1 hf
      exact hret _ _ zd_V_at_37
  · rw [if_pos hc] at hf
    refine zg_1 (pc' := 6) (fun _ _ _ _ _ hl w => lv_aload_n hx hb zd_V_at_5 rfl (lv_at hl 0 rfl) w) ?_
    obtain ⟨h_12, hf⟩ := zx_ck hf
    obtain ⟨a_13, h_14, hf⟩ := zx_p hf
    refine zg_get (pc' := 9) (ci := 7) hx hb htT zi_V hown hK h_12 rfl rfl 0 (by decide) (htT _ zt_302) (fun _ h9 => h9) (zx_hv h_14) zd_V_at_6 rfl ?_
    obtain ⟨h_15, hf⟩ := zx_ck hf
    refine zg_get (pc' := 12) (ci := 1) hx hb htT zi_Draft hown hK h_15 rfl rfl 1 (by decide) (htT _ zt_96) (fun _ h9 => h9) rfl zd_V_at_9 rfl ?_
    obtain rfl := zx_r1 hf
    exact hret _ _ zd_V_at_12
set_option maxHeartbeats 4000000 in
theorem zc_M_at (l : Launch) (h0 : Nat) (D : va_G) (dA : Nat → ClassId) (tb : Nat → Nat) (n : Nat) {s0 : zh_S} {a0 : Nat} {i1 : Int32} {r : Int32} (hf : zf_M_at n s0 a0 i1 = some r) : zc_M l zn_M_at zs_M_at 0 0 h0 D dA tb [.ref (h0 + a0), .int i1] s0 (some (.int r)) s0 := by
  rw [zf_M_at] at hf
  refine zc_of (cc := ze_M_at) (maxL := 2) (ret := (some .int)) (lv := [(0, .ref (h0 + a0)), (1, .int i1)]) (by decide) rfl (Nat.le_of_ble_eq_true rfl) rfl ?_
  intro p e s m args below meth c X hnm
  obtain ⟨hx, hb, hml, hown, htT, hrt, hlk, x00, hIn⟩ := id X
  have hK := hIn.2.1
  have hT := hIn.2.2.1
  have hNe := hIn.2.2.2
  have hR : zg_R { frames := 0, cells := zh_N s0 - zh_N s0, slots := zh_M s0 - zh_M s0, locals := 0 } (zh_N s0) (zh_M s0) s0 := ⟨by show zh_N s0 ≤ zh_N s0 + (zh_N s0 - zh_N s0); omega, by show zh_M s0 ≤ zh_M s0 + (zh_M s0 - zh_M s0); omega⟩
  have hF : 0 ≤ ({ frames := 0, cells := zh_N s0 - zh_N s0, slots := zh_M s0 - zh_M s0, locals := 0 } : Room).frames ∧ 0 ≤ ({ frames := 0, cells := zh_N s0 - zh_N s0, slots := zh_M s0 - zh_M s0, locals := 0 } : Room).locals := ⟨Nat.le_refl _, Nat.le_refl _⟩
  have hret := fun (pc : Nat) (lv : List (Nat × Value)) (hd : decode ze_M_at pc = .ok (.ireturn, 1)) => zg_iret (R := { frames := 0, cells := zh_N s0 - zh_N s0, slots := zh_M s0 - zh_M s0, locals := 0 }) (l := l) (e := e) (below := below) (c0 := zh_N s0) (s0 := zh_M s0) (z := s0) (lv := lv) (v := r) X rfl hd
  refine zg_1 (pc' := 1) (fun _ _ _ _ _ hl w => lv_iload_n hx hb zd_M_at_0 rfl (lv_at hl 1 rfl) w) ?_
  refine zg_1 (pc' := 2) (fun _ _ _ _ _ hl w => lv_iconst (v := (-1 : Int32)) hx hb zd_M_at_1 (by decide) w) ?_
  refine zg_2 (pc1 := 12) (pc2 := 5) (Classical.em _).symm (fun _ _ _ _ _ w1 w2 => lv_icmp_ne hx hb zd_M_at_2 (by decide) w1 w2) (fun hc => ?_) (fun hc => ?_)
  · rw [if_neg hc] at hf
    refine zg_1 (pc' := 13) (fun _ _ _ _ _ hl w => lv_iload_n hx hb zd_M_at_12 rfl (lv_at hl 1 rfl) w) ?_
    refine zg_2 (pc1 := 24) (pc2 := 16) (Classical.em _) (fun _ _ _ _ _ w1 w2 => lv_if_lt hx hb zd_M_at_13 (by decide) w1 w2) (fun hc => ?_) (fun hc => ?_)
    · rw [if_pos hc] at hf
      refine zg_1 (pc' := 25) (fun _ _ _ _ _ hl w => lv_iconst (v := (-1 : Int32)) hx hb zd_M_at_24 (by decide) w) ?_
      refine zg_1 (pc' := 34) (fun _ _ _ _ _ hl w => lv_goto hx hb zd_M_at_25 (by decide) w) ?_
      obtain rfl := zx_r1 hf
      exact hret _ _ zd_M_at_34
    · rw [if_neg hc] at hf
      refine zg_1 (pc' := 17) (fun _ _ _ _ _ hl w => lv_iload_n hx hb zd_M_at_16 rfl (lv_at hl 1 rfl) w) ?_
      refine zg_1 (pc' := 18) (fun _ _ _ _ _ hl w => lv_aload_n hx hb zd_M_at_17 rfl (lv_at hl 0 rfl) w) ?_
      obtain ⟨h_1, hf⟩ := zx_ck hf
      refine zg_get (pc' := 21) (ci := 8) hx hb htT zi_M hown hK h_1 rfl rfl 1 (by decide) (htT _ zt_806) (fun _ h9 => h9) rfl zd_M_at_18 rfl ?_
      refine zg_2 (pc1 := 28) (pc2 := 24) (Classical.em _) (fun _ _ _ _ _ w1 w2 => lv_icmp_lt hx hb zd_M_at_21 (by decide) w1 w2) (fun hc => ?_) (fun hc => ?_)
      · rw [if_pos hc] at hf
        refine zg_1 (pc' := 29) (fun _ _ _ _ _ hl w => lv_aload_n hx hb zd_M_at_28 rfl (lv_at hl 0 rfl) w) ?_
        obtain ⟨a_2, h_3, hf⟩ := zx_p hf
        refine zg_get (pc' := 32) (ci := 8) hx hb htT zi_M hown hK h_1 rfl rfl 0 (by decide) (htT _ zt_805) (fun _ h9 => h9) (zx_hv h_3) zd_M_at_29 rfl ?_
        refine zg_1 (pc' := 33) (fun _ _ _ _ _ hl w => lv_iload_n hx hb zd_M_at_32 rfl (lv_at hl 1 rfl) w) ?_
        obtain ⟨h_4, hf⟩ := zx_ck hf
        refine zg_iald (pc' := 34) hx hb hK h_4 zd_M_at_33 rfl ?_
        obtain rfl := zx_r1 hf
        exact hret _ _ zd_M_at_34
      · rw [if_neg hc] at hf
        refine zg_1 (pc' := 25) (fun _ _ _ _ _ hl w => lv_iconst (v := (-1 : Int32)) hx hb zd_M_at_24 (by decide) w) ?_
        refine zg_1 (pc' := 34) (fun _ _ _ _ _ hl w => lv_goto hx hb zd_M_at_25 (by decide) w) ?_
        obtain rfl := zx_r1 hf
        exact hret _ _ zd_M_at_34
  · rw [if_pos hc] at hf
    refine zg_1 (pc' := 6) (fun _ _ _ _ _ hl w => lv_aload_n hx hb zd_M_at_5 rfl (lv_at hl 0 rfl) w) ?_
    obtain ⟨h_5, hf⟩ := zx_ck hf
    refine zg_get (pc' := 9) (ci := 8) hx hb htT zi_M hown hK h_5 rfl rfl 1 (by decide) (htT _ zt_806) (fun _ h9 => h9) rfl zd_M_at_6 rfl ?_
    refine zg_1 (pc' := 34) (fun _ _ _ _ _ hl w => lv_goto hx hb zd_M_at_9 (by decide) w) ?_
    obtain rfl := zx_r1 hf
    exact hret _ _ zd_M_at_34
set_option maxHeartbeats 4000000 in
theorem zc_V_clear (l : Launch) (h0 : Nat) (D : va_G) (dA : Nat → ClassId) (tb : Nat → Nat) (n : Nat) {s0 : zh_S} {a0 : Nat} {z : zh_S} (hf : zf_V_clear n s0 a0 = some z) : zc_M l zn_V_clear zs_V_clear 1 20 h0 D dA tb [.ref (h0 + a0)] s0 none z := by
  rw [zf_V_clear] at hf
  refine zc_of (cc := ze_V_clear) (maxL := 1) (ret := none) (lv := [(0, .ref (h0 + a0))]) (by decide) rfl (Nat.le_of_ble_eq_true rfl) rfl ?_
  intro p e s m args below meth c X hnm
  obtain ⟨hx, hb, hml, hown, htT, hrt, hlk, x00, hIn⟩ := id X
  have hK := hIn.2.1
  have hT := hIn.2.2.1
  have hNe := hIn.2.2.2
  have hR : zg_R { frames := 1, cells := zh_N z - zh_N s0, slots := zh_M z - zh_M s0, locals := 20 } (zh_N s0) (zh_M s0) z := ⟨by show zh_N z ≤ zh_N s0 + (zh_N z - zh_N s0); omega, by show zh_M z ≤ zh_M s0 + (zh_M z - zh_M s0); omega⟩
  have hF : 1 ≤ ({ frames := 1, cells := zh_N z - zh_N s0, slots := zh_M z - zh_M s0, locals := 20 } : Room).frames ∧ 20 ≤ ({ frames := 1, cells := zh_N z - zh_N s0, slots := zh_M z - zh_M s0, locals := 20 } : Room).locals := ⟨Nat.le_refl _, Nat.le_refl _⟩
  have hret := fun (pc : Nat) (lv : List (Nat × Value)) (hd : decode ze_V_clear pc = .ok (.return_, 1)) => zg_vret (R := { frames := 1, cells := zh_N z - zh_N s0, slots := zh_M z - zh_M s0, locals := 20 }) (l := l) (e := e) (below := below) (c0 := zh_N s0) (s0 := zh_M s0) (z := z) (lv := lv) X hd
  refine zg_1 (pc' := 1) (fun _ _ _ _ _ hl w => lv_aload_n hx hb zd_V_clear_0 rfl (lv_at hl 0 rfl) w) ?_
  obtain ⟨h_1, hf⟩ := zx_ck hf
  obtain ⟨a_2, h_3, hf⟩ := zx_p hf
  refine zg_get (pc' := 4) (ci := 7) hx hb htT zi_V hown hK h_1 rfl rfl 0 (by decide) (htT _ zt_302) (fun _ h9 => h9) (zx_hv h_3) zd_V_clear_1 rfl ?_
  obtain ⟨h_5, hf⟩ := zx_ck hf
  obtain ⟨s_4, hq, hf⟩ := zx_p hf
  refine zg_call (pc' := 7) (y := s_4) (rv := none) (rest := []) X hR (zm_Draft_empty hq) (fun H locs ls k j hsz hI hU hk => va_runV (As := []) (rest := []) ⟨hx, hb, hml, hown, htT⟩ (zc_Draft_empty l h0 D dA tb n hq) (cwV 0 htT (zw_gV zt_342 zt_343 zt_344 zt_65 zt_345) rfl rfl rfl (by decide +kernel) ⟨Nat.le_trans (Nat.le_of_ble_eq_true rfl) hF.1, Nat.le_trans (Nat.le_of_ble_eq_true rfl) hF.2⟩) ⟨(zg_pre hU).1, zg_recv hK hI h_5 rfl, (zg_pre hU).2⟩ rfl rfl hsz rfl (lv_room (Nat.le_of_ble_eq_true rfl)) zd_V_clear_4 hk) rfl ?_
  obtain rfl := zx_r1 hf
  exact hret _ _ zd_V_clear_7
set_option maxHeartbeats 4000000 in
theorem zc_M_clear (l : Launch) (h0 : Nat) (D : va_G) (dA : Nat → ClassId) (tb : Nat → Nat) (n : Nat) {s0 : zh_S} {a0 : Nat} {z : zh_S} (hf : zf_M_clear n s0 a0 = some z) : zc_M l zn_M_clear zs_M_clear 0 0 h0 D dA tb [.ref (h0 + a0)] s0 none z := by
  rw [zf_M_clear] at hf
  refine zc_of (cc := ze_M_clear) (maxL := 1) (ret := none) (lv := [(0, .ref (h0 + a0))]) (by decide) rfl (Nat.le_of_ble_eq_true rfl) rfl ?_
  intro p e s m args below meth c X hnm
  obtain ⟨hx, hb, hml, hown, htT, hrt, hlk, x00, hIn⟩ := id X
  have hK := hIn.2.1
  have hT := hIn.2.2.1
  have hNe := hIn.2.2.2
  have hR : zg_R { frames := 0, cells := zh_N z - zh_N s0, slots := zh_M z - zh_M s0, locals := 0 } (zh_N s0) (zh_M s0) z := ⟨by show zh_N z ≤ zh_N s0 + (zh_N z - zh_N s0); omega, by show zh_M z ≤ zh_M s0 + (zh_M z - zh_M s0); omega⟩
  have hF : 0 ≤ ({ frames := 0, cells := zh_N z - zh_N s0, slots := zh_M z - zh_M s0, locals := 0 } : Room).frames ∧ 0 ≤ ({ frames := 0, cells := zh_N z - zh_N s0, slots := zh_M z - zh_M s0, locals := 0 } : Room).locals := ⟨Nat.le_refl _, Nat.le_refl _⟩
  have hret := fun (pc : Nat) (lv : List (Nat × Value)) (hd : decode ze_M_clear pc = .ok (.return_, 1)) => zg_vret (R := { frames := 0, cells := zh_N z - zh_N s0, slots := zh_M z - zh_M s0, locals := 0 }) (l := l) (e := e) (below := below) (c0 := zh_N s0) (s0 := zh_M s0) (z := z) (lv := lv) X hd
  refine zg_1 (pc' := 1) (fun _ _ _ _ _ hl w => lv_aload_n hx hb zd_M_clear_0 rfl (lv_at hl 0 rfl) w) ?_
  refine zg_1 (pc' := 2) (fun _ _ _ _ _ hl w => lv_iconst (v := (0 : Int32)) hx hb zd_M_clear_1 (by decide) w) ?_
  obtain ⟨h_2, hf⟩ := zx_ck hf
  obtain ⟨s_1, e_s_1, hf⟩ := zx_l hf
  refine zg_putI (pc' := 5) (ci := 8) (ty := .int) hx hb htT zi_M zy_M zo_M zj_M hown hK h_2 rfl rfl 1 (by decide) (htT _ zt_806) (fun _ h9 => h9) (Or.inl rfl) (by decide +kernel) rfl rfl rfl e_s_1 zd_M_clear_2 rfl ?_
  obtain rfl := zx_r1 hf
  exact hret _ _ zd_M_clear_5
set_option maxHeartbeats 4000000 in
theorem zc_Draft_replace (l : Launch) (h0 : Nat) (D : va_G) (dA : Nat → ClassId) (tb : Nat → Nat) (n : Nat) {s0 : zh_S} {a0 : Nat} {i1 : Int32} {i2 : Int32} {r : Int32} {z : zh_S} (hf : zf_Draft_replace n s0 a0 i1 i2 = some (r, z)) : zc_M l zn_Draft_replace zs_Draft_replace 1 21 h0 D dA tb [.ref (h0 + a0), .int i1, .int i2] s0 (some (.int r)) z := by
  rw [zf_Draft_replace] at hf
  refine zc_of (cc := ze_Draft_replace) (maxL := 3) (ret := (some .boolean)) (lv := [(0, .ref (h0 + a0)), (1, .int i1), (2, .int i2)]) (by decide) rfl (Nat.le_of_ble_eq_true rfl) rfl ?_
  intro p e s m args below meth c X hnm
  obtain ⟨hx, hb, hml, hown, htT, hrt, hlk, x00, hIn⟩ := id X
  have hK := hIn.2.1
  have hT := hIn.2.2.1
  have hNe := hIn.2.2.2
  have hR : zg_R { frames := 1, cells := zh_N z - zh_N s0, slots := zh_M z - zh_M s0, locals := 21 } (zh_N s0) (zh_M s0) z := ⟨by show zh_N z ≤ zh_N s0 + (zh_N z - zh_N s0); omega, by show zh_M z ≤ zh_M s0 + (zh_M z - zh_M s0); omega⟩
  have hF : 1 ≤ ({ frames := 1, cells := zh_N z - zh_N s0, slots := zh_M z - zh_M s0, locals := 21 } : Room).frames ∧ 21 ≤ ({ frames := 1, cells := zh_N z - zh_N s0, slots := zh_M z - zh_M s0, locals := 21 } : Room).locals := ⟨Nat.le_refl _, Nat.le_refl _⟩
  have hret := fun (hz : r = 0 ∨ r = 1) (pc : Nat) (lv : List (Nat × Value)) (hd : decode ze_Draft_replace pc = .ok (.ireturn, 1)) => zg_iret (R := { frames := 1, cells := zh_N z - zh_N s0, slots := zh_M z - zh_M s0, locals := 21 }) (l := l) (e := e) (below := below) (c0 := zh_N s0) (s0 := zh_M s0) (z := z) (lv := lv) (v := r) X (zx_nz hz) hd
  refine zg_1 (pc' := 1) (fun _ _ _ _ _ hl w => lv_aload_n hx hb zd_Draft_replace_0 rfl (lv_at hl 0 rfl) w) ?_
  refine zg_1 (pc' := 2) (fun _ _ _ _ _ hl w => lv_iload_n hx hb zd_Draft_replace_1 rfl (lv_at hl 1 rfl) w) ?_
  obtain ⟨h_1, hf⟩ := zx_ck hf
  obtain ⟨i_2, hq, hf⟩ := zx_p hf
  refine zg_call (pc' := 5) (y := s0) (rv := (some (.int i_2))) (rest := []) X hR ⟨Nat.le_refl _, Nat.le_refl _⟩ (fun H locs ls k j hsz hI hU hk => va_runV (As := [.int i1]) (rest := []) ⟨hx, hb, hml, hown, htT⟩ (zc_Draft_has l h0 D dA tb n hq) (cwV 1 htT (zw_gV zt_334 zt_335 zt_336 zt_65 zt_337) rfl rfl rfl (by decide +kernel) ⟨Nat.le_trans (Nat.le_of_ble_eq_true rfl) hF.1, Nat.le_trans (Nat.le_of_ble_eq_true rfl) hF.2⟩) ⟨(zg_pre hU).1, zg_recv hK hI h_1 rfl, (zg_pre hU).2⟩ rfl rfl hsz rfl (lv_room (Nat.le_of_ble_eq_true rfl)) zd_Draft_replace_2 hk) rfl ?_
  refine zg_2 (pc1 := 15) (pc2 := 8) (Classical.em _) (fun _ _ _ _ _ w1 w2 => lv_if_eq hx hb zd_Draft_replace_5 (by decide) w1 w2) (fun hc => ?_) (fun hc => ?_)
  · rw [if_pos hc] at hf
    refine zg_1 (pc' := 16) (fun _ _ _ _ _ hl w => lv_iconst (v := (0 : Int32)) hx hb zd_Draft_replace_15 (by decide) w) ?_
    obtain ⟨rfl, rfl⟩ := zx_r2 hf
    exact hret (Or.inl rfl) _ _ zd_Draft_replace_16
  · rw [if_neg hc] at hf
    refine zg_1 (pc' := 9) (fun _ _ _ _ _ hl w => lv_iload_n hx hb zd_Draft_replace_8 rfl (lv_at hl 2 rfl) w) ?_
    obtain ⟨i_3, hq, hf⟩ := zx_p hf
    refine zg_call (pc' := 12) (y := s0) (rv := (some (.int i_3))) (rest := []) X hR ⟨Nat.le_refl _, Nat.le_refl _⟩ (fun H locs ls k j hsz hI hU hk => va_runS (As := [.int i2]) (rest := []) ⟨hx, hb, hml, hown, htT⟩ (zc_Draft_isByte l h0 D dA tb n hq) (va_cwS 1 htT (zw_gS zt_323 zt_324 zt_65 zt_325) rfl rfl rfl (by decide +kernel) ⟨Nat.le_trans (Nat.le_of_ble_eq_true rfl) hF.1, Nat.le_trans (Nat.le_of_ble_eq_true rfl) hF.2⟩) (zg_pre hU) rfl rfl hsz rfl (lv_room (Nat.le_of_ble_eq_true rfl)) zd_Draft_replace_9 hk) rfl ?_
    refine zg_2 (pc1 := 17) (pc2 := 15) (Classical.em _).symm (fun _ _ _ _ _ w1 w2 => lv_if_ne hx hb zd_Draft_replace_12 (by decide) w1 w2) (fun hc => ?_) (fun hc => ?_)
    · rw [if_neg hc] at hf
      refine zg_1 (pc' := 18) (fun _ _ _ _ _ hl w => lv_aload_n hx hb zd_Draft_replace_17 rfl (lv_at hl 0 rfl) w) ?_
      obtain ⟨a_4, h_5, hf⟩ := zx_p hf
      refine zg_get (pc' := 21) (ci := 1) hx hb htT zi_Draft hown hK h_1 rfl rfl 0 (by decide) (htT _ zt_91) (fun _ h9 => h9) (zx_hv h_5) zd_Draft_replace_18 rfl ?_
      refine zg_1 (pc' := 22) (fun _ _ _ _ _ hl w => lv_iload_n hx hb zd_Draft_replace_21 rfl (lv_at hl 1 rfl) w) ?_
      refine zg_1 (pc' := 23) (fun _ _ _ _ _ hl w => lv_iload_n hx hb zd_Draft_replace_22 rfl (lv_at hl 2 rfl) w) ?_
      obtain ⟨h_7, hf⟩ := zx_ck hf
      obtain ⟨s_6, e_s_6, hf⟩ := zx_l hf
      refine zg_iast (pc' := 24) hx hb hK h_7 e_s_6 zd_Draft_replace_23 rfl ?_
      refine zg_1 (pc' := 25) (fun _ _ _ _ _ hl w => lv_iconst (v := (1 : Int32)) hx hb zd_Draft_replace_24 (by decide) w) ?_
      obtain ⟨rfl, rfl⟩ := zx_r2 hf
      exact hret (Or.inr rfl) _ _ zd_Draft_replace_25
    · rw [if_pos hc] at hf
      refine zg_1 (pc' := 16) (fun _ _ _ _ _ hl w => lv_iconst (v := (0 : Int32)) hx hb zd_Draft_replace_15 (by decide) w) ?_
      obtain ⟨rfl, rfl⟩ := zx_r2 hf
      exact hret (Or.inl rfl) _ _ zd_Draft_replace_16
set_option maxHeartbeats 4000000 in
theorem zc_V_poke (l : Launch) (h0 : Nat) (D : va_G) (dA : Nat → ClassId) (tb : Nat → Nat) (n : Nat) {s0 : zh_S} {a0 : Nat} {i1 : Int32} {i2 : Int32} {r : Int32} {z : zh_S} (hf : zf_V_poke n s0 a0 i1 i2 = some (r, z)) : zc_M l zn_V_poke zs_V_poke 2 43 h0 D dA tb [.ref (h0 + a0), .int i1, .int i2] s0 (some (.int r)) z := by
  rw [zf_V_poke] at hf
  refine zc_of (cc := ze_V_poke) (maxL := 3) (ret := (some .boolean)) (lv := [(0, .ref (h0 + a0)), (1, .int i1), (2, .int i2)]) (by decide) rfl (Nat.le_of_ble_eq_true rfl) rfl ?_
  intro p e s m args below meth c X hnm
  obtain ⟨hx, hb, hml, hown, htT, hrt, hlk, x00, hIn⟩ := id X
  have hK := hIn.2.1
  have hT := hIn.2.2.1
  have hNe := hIn.2.2.2
  have hR : zg_R { frames := 2, cells := zh_N z - zh_N s0, slots := zh_M z - zh_M s0, locals := 43 } (zh_N s0) (zh_M s0) z := ⟨by show zh_N z ≤ zh_N s0 + (zh_N z - zh_N s0); omega, by show zh_M z ≤ zh_M s0 + (zh_M z - zh_M s0); omega⟩
  have hF : 2 ≤ ({ frames := 2, cells := zh_N z - zh_N s0, slots := zh_M z - zh_M s0, locals := 43 } : Room).frames ∧ 43 ≤ ({ frames := 2, cells := zh_N z - zh_N s0, slots := zh_M z - zh_M s0, locals := 43 } : Room).locals := ⟨Nat.le_refl _, Nat.le_refl _⟩
  have hret := fun (hz : r = 0 ∨ r = 1) (pc : Nat) (lv : List (Nat × Value)) (hd : decode ze_V_poke pc = .ok (.ireturn, 1)) => zg_iret (R := { frames := 2, cells := zh_N z - zh_N s0, slots := zh_M z - zh_M s0, locals := 43 }) (l := l) (e := e) (below := below) (c0 := zh_N s0) (s0 := zh_M s0) (z := z) (lv := lv) (v := r) X (zx_nz hz) hd
  refine zg_1 (pc' := 1) (fun _ _ _ _ _ hl w => lv_aload_n hx hb zd_V_poke_0 rfl (lv_at hl 0 rfl) w) ?_
  obtain ⟨h_1, hf⟩ := zx_ck hf
  obtain ⟨a_2, h_3, hf⟩ := zx_p hf
  refine zg_get (pc' := 4) (ci := 7) hx hb htT zi_V hown hK h_1 rfl rfl 0 (by decide) (htT _ zt_302) (fun _ h9 => h9) (zx_hv h_3) zd_V_poke_1 rfl ?_
  refine zg_1 (pc' := 5) (fun _ _ _ _ _ hl w => lv_iload_n hx hb zd_V_poke_4 rfl (lv_at hl 1 rfl) w) ?_
  refine zg_1 (pc' := 6) (fun _ _ _ _ _ hl w => lv_iload_n hx hb zd_V_poke_5 rfl (lv_at hl 2 rfl) w) ?_
  obtain ⟨h_5, hf⟩ := zx_ck hf
  obtain ⟨i_6, s_4, hq, hf⟩ := zx_b hf
  refine zg_call (pc' := 9) (y := s_4) (rv := (some (.int i_6))) (rest := []) X hR (zm_Draft_replace hq) (fun H locs ls k j hsz hI hU hk => va_runV (As := [.int i1, .int i2]) (rest := []) ⟨hx, hb, hml, hown, htT⟩ (zc_Draft_replace l h0 D dA tb n hq) (cwV 2 htT (zw_gV zt_330 zt_331 zt_332 zt_65 zt_333) rfl rfl rfl (by decide +kernel) ⟨Nat.le_trans (Nat.le_of_ble_eq_true rfl) hF.1, Nat.le_trans (Nat.le_of_ble_eq_true rfl) hF.2⟩) ⟨(zg_pre hU).1, zg_recv hK hI h_5 rfl, (zg_pre hU).2⟩ rfl rfl hsz rfl (lv_room (Nat.le_of_ble_eq_true rfl)) zd_V_poke_6 hk) rfl ?_
  obtain ⟨h_7, hf⟩ := zx_ck hf
  obtain ⟨rfl, rfl⟩ := zx_r2 hf
  exact hret h_7 _ _ zd_V_poke_9
set_option maxHeartbeats 4000000 in
theorem zc_M_poke (l : Launch) (h0 : Nat) (D : va_G) (dA : Nat → ClassId) (tb : Nat → Nat) (n : Nat) {s0 : zh_S} {a0 : Nat} {i1 : Int32} {i2 : Int32} {r : Int32} {z : zh_S} (hf : zf_M_poke n s0 a0 i1 i2 = some (r, z)) : zc_M l zn_M_poke zs_M_poke 1 25 h0 D dA tb [.ref (h0 + a0), .int i1, .int i2] s0 (some (.int r)) z := by
  rw [zf_M_poke] at hf
  refine zc_of (cc := ze_M_poke) (maxL := 3) (ret := (some .boolean)) (lv := [(0, .ref (h0 + a0)), (1, .int i1), (2, .int i2)]) (by decide) rfl (Nat.le_of_ble_eq_true rfl) rfl ?_
  intro p e s m args below meth c X hnm
  obtain ⟨hx, hb, hml, hown, htT, hrt, hlk, x00, hIn⟩ := id X
  have hK := hIn.2.1
  have hT := hIn.2.2.1
  have hNe := hIn.2.2.2
  have hR : zg_R { frames := 1, cells := zh_N z - zh_N s0, slots := zh_M z - zh_M s0, locals := 25 } (zh_N s0) (zh_M s0) z := ⟨by show zh_N z ≤ zh_N s0 + (zh_N z - zh_N s0); omega, by show zh_M z ≤ zh_M s0 + (zh_M z - zh_M s0); omega⟩
  have hF : 1 ≤ ({ frames := 1, cells := zh_N z - zh_N s0, slots := zh_M z - zh_M s0, locals := 25 } : Room).frames ∧ 25 ≤ ({ frames := 1, cells := zh_N z - zh_N s0, slots := zh_M z - zh_M s0, locals := 25 } : Room).locals := ⟨Nat.le_refl _, Nat.le_refl _⟩
  have hret := fun (hz : r = 0 ∨ r = 1) (pc : Nat) (lv : List (Nat × Value)) (hd : decode ze_M_poke pc = .ok (.ireturn, 1)) => zg_iret (R := { frames := 1, cells := zh_N z - zh_N s0, slots := zh_M z - zh_M s0, locals := 25 }) (l := l) (e := e) (below := below) (c0 := zh_N s0) (s0 := zh_M s0) (z := z) (lv := lv) (v := r) X (zx_nz hz) hd
  refine zg_1 (pc' := 1) (fun _ _ _ _ _ hl w => lv_iload_n hx hb zd_M_poke_0 rfl (lv_at hl 1 rfl) w) ?_
  refine zg_2 (pc1 := 24) (pc2 := 4) (Classical.em _) (fun _ _ _ _ _ w1 w2 => lv_if_lt hx hb zd_M_poke_1 (by decide) w1 w2) (fun hc => ?_) (fun hc => ?_)
  · rw [if_pos hc] at hf
    refine zg_1 (pc' := 25) (fun _ _ _ _ _ hl w => lv_iconst (v := (0 : Int32)) hx hb zd_M_poke_24 (by decide) w) ?_
    obtain ⟨rfl, rfl⟩ := zx_r2 hf
    exact hret (Or.inl rfl) _ _ zd_M_poke_25
  · rw [if_neg hc] at hf
    refine zg_1 (pc' := 5) (fun _ _ _ _ _ hl w => lv_iload_n hx hb zd_M_poke_4 rfl (lv_at hl 1 rfl) w) ?_
    refine zg_1 (pc' := 6) (fun _ _ _ _ _ hl w => lv_aload_n hx hb zd_M_poke_5 rfl (lv_at hl 0 rfl) w) ?_
    obtain ⟨h_1, hf⟩ := zx_ck hf
    refine zg_get (pc' := 9) (ci := 8) hx hb htT zi_M hown hK h_1 rfl rfl 1 (by decide) (htT _ zt_806) (fun _ h9 => h9) rfl zd_M_poke_6 rfl ?_
    refine zg_2 (pc1 := 24) (pc2 := 12) (Classical.em _) (fun _ _ _ _ _ w1 w2 => lv_icmp_ge hx hb zd_M_poke_9 (by decide) w1 w2) (fun hc => ?_) (fun hc => ?_)
    · rw [if_pos hc] at hf
      refine zg_1 (pc' := 25) (fun _ _ _ _ _ hl w => lv_iconst (v := (0 : Int32)) hx hb zd_M_poke_24 (by decide) w) ?_
      obtain ⟨rfl, rfl⟩ := zx_r2 hf
      exact hret (Or.inl rfl) _ _ zd_M_poke_25
    · rw [if_neg hc] at hf
      refine zg_1 (pc' := 13) (fun _ _ _ _ _ hl w => lv_iload_n hx hb zd_M_poke_12 rfl (lv_at hl 2 rfl) w) ?_
      refine zg_1 (pc' := 14) (fun _ _ _ _ _ hl w => lv_i2l (v := i2.toInt64) hx hb zd_M_poke_13 rfl w) ?_
      refine zg_1 (pc' := 15) (fun _ _ _ _ _ hl w => lv_lconst (v := (0 : Int64)) hx hb zd_M_poke_14 (by decide) w) ?_
      refine zg_1 (pc' := 18) (fun _ _ _ _ _ hl w => lv_ldc2 (v := (255 : Int64)) hx hb hown (htT _ zt_917) zd_M_poke_15 w) ?_
      obtain ⟨i_2, hq, hf⟩ := zx_p hf
      refine zg_call (pc' := 21) (y := s0) (rv := (some (.int i_2))) (rest := []) X hR ⟨Nat.le_refl _, Nat.le_refl _⟩ (fun H locs ls k j hsz hI hU hk => va_runS (As := [.long (i2.toInt64), .long (0 : Int64), .long (255 : Int64)]) (rest := []) ⟨hx, hb, hml, hown, htT⟩ (zc_M_in l h0 D dA tb n hq) (va_cwS 3 htT (zw_gS zt_909 zt_910 zt_71 zt_911) rfl rfl rfl (by decide +kernel) ⟨Nat.le_trans (Nat.le_of_ble_eq_true rfl) hF.1, Nat.le_trans (Nat.le_of_ble_eq_true rfl) hF.2⟩) (zg_pre hU) rfl rfl hsz rfl (lv_room (Nat.le_of_ble_eq_true rfl)) zd_M_poke_18 hk) rfl ?_
      refine zg_2 (pc1 := 26) (pc2 := 24) (Classical.em _).symm (fun _ _ _ _ _ w1 w2 => lv_if_ne hx hb zd_M_poke_21 (by decide) w1 w2) (fun hc => ?_) (fun hc => ?_)
      · rw [if_neg hc] at hf
        refine zg_1 (pc' := 27) (fun _ _ _ _ _ hl w => lv_aload_n hx hb zd_M_poke_26 rfl (lv_at hl 0 rfl) w) ?_
        obtain ⟨a_3, h_4, hf⟩ := zx_p hf
        refine zg_get (pc' := 30) (ci := 8) hx hb htT zi_M hown hK h_1 rfl rfl 0 (by decide) (htT _ zt_805) (fun _ h9 => h9) (zx_hv h_4) zd_M_poke_27 rfl ?_
        refine zg_1 (pc' := 31) (fun _ _ _ _ _ hl w => lv_iload_n hx hb zd_M_poke_30 rfl (lv_at hl 1 rfl) w) ?_
        refine zg_1 (pc' := 32) (fun _ _ _ _ _ hl w => lv_iload_n hx hb zd_M_poke_31 rfl (lv_at hl 2 rfl) w) ?_
        obtain ⟨h_6, hf⟩ := zx_ck hf
        obtain ⟨s_5, e_s_5, hf⟩ := zx_l hf
        refine zg_iast (pc' := 33) hx hb hK h_6 e_s_5 zd_M_poke_32 rfl ?_
        refine zg_1 (pc' := 34) (fun _ _ _ _ _ hl w => lv_iconst (v := (1 : Int32)) hx hb zd_M_poke_33 (by decide) w) ?_
        obtain ⟨rfl, rfl⟩ := zx_r2 hf
        exact hret (Or.inr rfl) _ _ zd_M_poke_34
      · rw [if_pos hc] at hf
        refine zg_1 (pc' := 25) (fun _ _ _ _ _ hl w => lv_iconst (v := (0 : Int32)) hx hb zd_M_poke_24 (by decide) w) ?_
        obtain ⟨rfl, rfl⟩ := zx_r2 hf
        exact hret (Or.inl rfl) _ _ zd_M_poke_25
set_option maxHeartbeats 4000000 in
theorem zc_V_put (l : Launch) (h0 : Nat) (D : va_G) (dA : Nat → ClassId) (tb : Nat → Nat) (n : Nat) {s0 : zh_S} {a0 : Nat} {i1 : Int32} {r : Int32} {z : zh_S} (hf : zf_V_put n s0 a0 i1 = some (r, z)) : zc_M l zn_V_put zs_V_put 2 41 h0 D dA tb [.ref (h0 + a0), .int i1] s0 (some (.int r)) z := by
  rw [zf_V_put] at hf
  refine zc_of (cc := ze_V_put) (maxL := 2) (ret := (some .boolean)) (lv := [(0, .ref (h0 + a0)), (1, .int i1)]) (by decide) rfl (Nat.le_of_ble_eq_true rfl) rfl ?_
  intro p e s m args below meth c X hnm
  obtain ⟨hx, hb, hml, hown, htT, hrt, hlk, x00, hIn⟩ := id X
  have hK := hIn.2.1
  have hT := hIn.2.2.1
  have hNe := hIn.2.2.2
  have hR : zg_R { frames := 2, cells := zh_N z - zh_N s0, slots := zh_M z - zh_M s0, locals := 41 } (zh_N s0) (zh_M s0) z := ⟨by show zh_N z ≤ zh_N s0 + (zh_N z - zh_N s0); omega, by show zh_M z ≤ zh_M s0 + (zh_M z - zh_M s0); omega⟩
  have hF : 2 ≤ ({ frames := 2, cells := zh_N z - zh_N s0, slots := zh_M z - zh_M s0, locals := 41 } : Room).frames ∧ 41 ≤ ({ frames := 2, cells := zh_N z - zh_N s0, slots := zh_M z - zh_M s0, locals := 41 } : Room).locals := ⟨Nat.le_refl _, Nat.le_refl _⟩
  have hret := fun (hz : r = 0 ∨ r = 1) (pc : Nat) (lv : List (Nat × Value)) (hd : decode ze_V_put pc = .ok (.ireturn, 1)) => zg_iret (R := { frames := 2, cells := zh_N z - zh_N s0, slots := zh_M z - zh_M s0, locals := 41 }) (l := l) (e := e) (below := below) (c0 := zh_N s0) (s0 := zh_M s0) (z := z) (lv := lv) (v := r) X (zx_nz hz) hd
  refine zg_1 (pc' := 1) (fun _ _ _ _ _ hl w => lv_aload_n hx hb zd_V_put_0 rfl (lv_at hl 0 rfl) w) ?_
  obtain ⟨h_1, hf⟩ := zx_ck hf
  obtain ⟨a_2, h_3, hf⟩ := zx_p hf
  refine zg_get (pc' := 4) (ci := 7) hx hb htT zi_V hown hK h_1 rfl rfl 0 (by decide) (htT _ zt_302) (fun _ h9 => h9) (zx_hv h_3) zd_V_put_1 rfl ?_
  refine zg_1 (pc' := 5) (fun _ _ _ _ _ hl w => lv_iload_n hx hb zd_V_put_4 rfl (lv_at hl 1 rfl) w) ?_
  obtain ⟨h_5, hf⟩ := zx_ck hf
  obtain ⟨i_6, s_4, hq, hf⟩ := zx_b hf
  refine zg_call (pc' := 8) (y := s_4) (rv := (some (.int i_6))) (rest := []) X hR (zm_Draft_append hq) (fun H locs ls k j hsz hI hU hk => va_runV (As := [.int i1]) (rest := []) ⟨hx, hb, hml, hown, htT⟩ (zc_Draft_append l h0 D dA tb n hq) (cwV 1 htT (zw_gV zt_319 zt_320 zt_321 zt_65 zt_322) rfl rfl rfl (by decide +kernel) ⟨Nat.le_trans (Nat.le_of_ble_eq_true rfl) hF.1, Nat.le_trans (Nat.le_of_ble_eq_true rfl) hF.2⟩) ⟨(zg_pre hU).1, zg_recv hK hI h_5 rfl, (zg_pre hU).2⟩ rfl rfl hsz rfl (lv_room (Nat.le_of_ble_eq_true rfl)) zd_V_put_5 hk) rfl ?_
  obtain ⟨h_7, hf⟩ := zx_ck hf
  obtain ⟨rfl, rfl⟩ := zx_r2 hf
  exact hret h_7 _ _ zd_V_put_8
set_option maxHeartbeats 4000000 in
theorem zc_M_put (l : Launch) (h0 : Nat) (D : va_G) (dA : Nat → ClassId) (tb : Nat → Nat) (n : Nat) {s0 : zh_S} {a0 : Nat} {i1 : Int32} {r : Int32} {z : zh_S} (hf : zf_M_put n s0 a0 i1 = some (r, z)) : zc_M l zn_M_put zs_M_put 1 25 h0 D dA tb [.ref (h0 + a0), .int i1] s0 (some (.int r)) z := by
  rw [zf_M_put] at hf
  refine zc_of (cc := ze_M_put) (maxL := 2) (ret := (some .boolean)) (lv := [(0, .ref (h0 + a0)), (1, .int i1)]) (by decide) rfl (Nat.le_of_ble_eq_true rfl) rfl ?_
  intro p e s m args below meth c X hnm
  obtain ⟨hx, hb, hml, hown, htT, hrt, hlk, x00, hIn⟩ := id X
  have hK := hIn.2.1
  have hT := hIn.2.2.1
  have hNe := hIn.2.2.2
  have hR : zg_R { frames := 1, cells := zh_N z - zh_N s0, slots := zh_M z - zh_M s0, locals := 25 } (zh_N s0) (zh_M s0) z := ⟨by show zh_N z ≤ zh_N s0 + (zh_N z - zh_N s0); omega, by show zh_M z ≤ zh_M s0 + (zh_M z - zh_M s0); omega⟩
  have hF : 1 ≤ ({ frames := 1, cells := zh_N z - zh_N s0, slots := zh_M z - zh_M s0, locals := 25 } : Room).frames ∧ 25 ≤ ({ frames := 1, cells := zh_N z - zh_N s0, slots := zh_M z - zh_M s0, locals := 25 } : Room).locals := ⟨Nat.le_refl _, Nat.le_refl _⟩
  have hret := fun (hz : r = 0 ∨ r = 1) (pc : Nat) (lv : List (Nat × Value)) (hd : decode ze_M_put pc = .ok (.ireturn, 1)) => zg_iret (R := { frames := 1, cells := zh_N z - zh_N s0, slots := zh_M z - zh_M s0, locals := 25 }) (l := l) (e := e) (below := below) (c0 := zh_N s0) (s0 := zh_M s0) (z := z) (lv := lv) (v := r) X (zx_nz hz) hd
  refine zg_1 (pc' := 1) (fun _ _ _ _ _ hl w => lv_iload_n hx hb zd_M_put_0 rfl (lv_at hl 1 rfl) w) ?_
  refine zg_1 (pc' := 2) (fun _ _ _ _ _ hl w => lv_i2l (v := i1.toInt64) hx hb zd_M_put_1 rfl w) ?_
  refine zg_1 (pc' := 3) (fun _ _ _ _ _ hl w => lv_lconst (v := (0 : Int64)) hx hb zd_M_put_2 (by decide) w) ?_
  refine zg_1 (pc' := 6) (fun _ _ _ _ _ hl w => lv_ldc2 (v := (255 : Int64)) hx hb hown (htT _ zt_917) zd_M_put_3 w) ?_
  obtain ⟨i_1, hq, hf⟩ := zx_p hf
  refine zg_call (pc' := 9) (y := s0) (rv := (some (.int i_1))) (rest := []) X hR ⟨Nat.le_refl _, Nat.le_refl _⟩ (fun H locs ls k j hsz hI hU hk => va_runS (As := [.long (i1.toInt64), .long (0 : Int64), .long (255 : Int64)]) (rest := []) ⟨hx, hb, hml, hown, htT⟩ (zc_M_in l h0 D dA tb n hq) (va_cwS 3 htT (zw_gS zt_909 zt_910 zt_71 zt_911) rfl rfl rfl (by decide +kernel) ⟨Nat.le_trans (Nat.le_of_ble_eq_true rfl) hF.1, Nat.le_trans (Nat.le_of_ble_eq_true rfl) hF.2⟩) (zg_pre hU) rfl rfl hsz rfl (lv_room (Nat.le_of_ble_eq_true rfl)) zd_M_put_6 hk) rfl ?_
  refine zg_2 (pc1 := 22) (pc2 := 12) (Classical.em _) (fun _ _ _ _ _ w1 w2 => lv_if_eq hx hb zd_M_put_9 (by decide) w1 w2) (fun hc => ?_) (fun hc => ?_)
  · rw [if_pos hc] at hf
    refine zg_1 (pc' := 23) (fun _ _ _ _ _ hl w => lv_iconst (v := (0 : Int32)) hx hb zd_M_put_22 (by decide) w) ?_
    obtain ⟨rfl, rfl⟩ := zx_r2 hf
    exact hret (Or.inl rfl) _ _ zd_M_put_23
  · rw [if_neg hc] at hf
    refine zg_1 (pc' := 13) (fun _ _ _ _ _ hl w => lv_aload_n hx hb zd_M_put_12 rfl (lv_at hl 0 rfl) w) ?_
    obtain ⟨h_2, hf⟩ := zx_ck hf
    refine zg_get (pc' := 16) (ci := 8) hx hb htT zi_M hown hK h_2 rfl rfl 1 (by decide) (htT _ zt_806) (fun _ h9 => h9) rfl zd_M_put_13 rfl ?_
    refine zg_1 (pc' := 19) (fun _ _ _ _ _ hl w => lv_sipush (v := (200 : Int32)) hx hb zd_M_put_16 (by decide) w) ?_
    refine zg_2 (pc1 := 24) (pc2 := 22) (Classical.em _).symm (fun _ _ _ _ _ w1 w2 => lv_icmp_ne hx hb zd_M_put_19 (by decide) w1 w2) (fun hc => ?_) (fun hc => ?_)
    · rw [if_neg hc] at hf
      refine zg_1 (pc' := 25) (fun _ _ _ _ _ hl w => lv_aload_n hx hb zd_M_put_24 rfl (lv_at hl 0 rfl) w) ?_
      obtain ⟨a_3, h_4, hf⟩ := zx_p hf
      refine zg_get (pc' := 28) (ci := 8) hx hb htT zi_M hown hK h_2 rfl rfl 0 (by decide) (htT _ zt_805) (fun _ h9 => h9) (zx_hv h_4) zd_M_put_25 rfl ?_
      refine zg_1 (pc' := 29) (fun _ _ _ _ _ hl w => lv_aload_n hx hb zd_M_put_28 rfl (lv_at hl 0 rfl) w) ?_
      refine zg_get (pc' := 32) (ci := 8) hx hb htT zi_M hown hK h_2 rfl rfl 1 (by decide) (htT _ zt_806) (fun _ h9 => h9) rfl zd_M_put_29 rfl ?_
      refine zg_1 (pc' := 33) (fun _ _ _ _ _ hl w => lv_iload_n hx hb zd_M_put_32 rfl (lv_at hl 1 rfl) w) ?_
      obtain ⟨h_6, hf⟩ := zx_ck hf
      obtain ⟨s_5, e_s_5, hf⟩ := zx_l hf
      refine zg_iast (pc' := 34) hx hb hK h_6 e_s_5 zd_M_put_33 rfl ?_
      refine zg_1 (pc' := 35) (fun _ _ _ _ _ hl w => lv_aload_n hx hb zd_M_put_34 rfl (lv_at hl 0 rfl) w) ?_
      refine zg_1 (pc' := 36) (fun _ _ _ _ _ hl w => lv_dup hx hb zd_M_put_35 rfl w) ?_
      obtain ⟨h_7, hf⟩ := zx_ck hf
      refine zg_get (pc' := 39) (ci := 8) hx hb htT zi_M hown hK h_7 rfl rfl 1 (by decide) (htT _ zt_806) (fun _ h9 => h9) rfl zd_M_put_36 rfl ?_
      refine zg_1 (pc' := 40) (fun _ _ _ _ _ hl w => lv_iconst (v := (1 : Int32)) hx hb zd_M_put_39 (by decide) w) ?_
      refine zg_1 (pc' := 41) (fun _ _ _ _ _ hl w => lv_iadd hx hb zd_M_put_40 w) ?_
      obtain ⟨s_8, e_s_8, hf⟩ := zx_l hf
      refine zg_putI (pc' := 44) (ci := 8) (ty := .int) hx hb htT zi_M zy_M zo_M zj_M hown hK h_7 rfl rfl 1 (by decide) (htT _ zt_806) (fun _ h9 => h9) (Or.inl rfl) (by decide +kernel) rfl rfl rfl e_s_8 zd_M_put_41 rfl ?_
      refine zg_1 (pc' := 45) (fun _ _ _ _ _ hl w => lv_iconst (v := (1 : Int32)) hx hb zd_M_put_44 (by decide) w) ?_
      obtain ⟨rfl, rfl⟩ := zx_r2 hf
      exact hret (Or.inr rfl) _ _ zd_M_put_45
    · rw [if_pos hc] at hf
      refine zg_1 (pc' := 23) (fun _ _ _ _ _ hl w => lv_iconst (v := (0 : Int32)) hx hb zd_M_put_22 (by decide) w) ?_
      obtain ⟨rfl, rfl⟩ := zx_r2 hf
      exact hret (Or.inl rfl) _ _ zd_M_put_23
