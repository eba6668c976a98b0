set_option maxHeartbeats 4000000 in
theorem zw_Names_length_4 {p : Program} {l : Launch} {e : Env} {R : Room} {s : State} {m : MethodId} {args : Array Value} {below : List Frame} {meth : Method} {c : Code} {Q : State → Prop} {h0 : Nat} {D : va_G} {dA : Nat → ClassId} {tb : Nat → Nat} {c0 k0 : Nat} {s0 : zh_S} {r : Int32} (X : zg_X p s m args meth c ze_Names_length 5 zr_Names (some .int) h0 D dA tb) (hR : zg_R R c0 k0 s0) (hF : 0 ≤ R.frames ∧ 0 ≤ R.locals) (hret : ∀ (pc : Nat) (lv : List (Nat × Value)), decode ze_Names_length pc = .ok (.ireturn, 1) → zg_G p l e R s m args below meth c Q h0 D dA 5 c0 k0 s0 s0 pc lv [.int r]) (n : Nat) (k : Nat) : ∀ (i2 : Int32) (j3 : Int64), zl_Names_length_4 n k i2 j3 = some r → zg_G p l e R s m args below meth c Q h0 D dA 5 c0 k0 s0 s0 4 [(2, .int i2), (3, .long j3)] [] := by
  obtain ⟨hx, hb, hml, hown, htT, hrt, hlk, x00, hIn⟩ := id X
  have hK := hIn.2.1
  have hT := hIn.2.2.1
  have hNe := hIn.2.2.2
  induction k with
  | zero => intro i2 j3 hf; cases hf
  | succ k ih =>
    intro i2 j3 hf
    rw [zl_Names_length_4] at hf
    refine zg_1 (pc' := 5) (fun _ _ _ _ _ hl w => lv_lload_n hx hb zd_Names_length_4 rfl (lv_at hl 1 rfl) w) ?_
    refine zg_1 (pc' := 6) (fun _ _ _ _ _ hl w => lv_lconst (v := (0 : Int64)) hx hb zd_Names_length_5 (by decide) w) ?_
    refine zg_1 (pc' := 7) (fun _ _ _ _ _ hl w => W.lcmp hx hb zd_Names_length_6 w) ?_
    refine zg_2 (pc1 := 20) (pc2 := 10) (Classical.em _) (fun _ _ _ _ _ w1 w2 => lv_if_eq hx hb zd_Names_length_7 (by decide) w1 w2) (fun hc => ?_) (fun hc => ?_)
    · rw [if_pos hc] at hf
      refine zg_1 (pc' := 21) (fun _ _ _ _ _ hl w => lv_iload_n hx hb zd_Names_length_20 rfl (lv_at hl 0 rfl) w) ?_
      obtain rfl := zx_r1 hf
      exact hret _ _ zd_Names_length_21
    · rw [if_neg hc] at hf
      obtain ⟨i_1, e_i_1, hf⟩ := zx_l hf
      refine zg_s (pc' := 13) (lv' := [(2, .int i_1), (3, .long j3)]) (fun _ _ _ _ _ hl w => lv_iinc (k := 0) (v := i_1) hx hb zd_Names_length_10 hl rfl (by rw [e_i_1]; rfl) (by decide) rfl w) ?_
      refine zg_1 (pc' := 14) (fun _ _ _ _ _ hl w => lv_lload_n hx hb zd_Names_length_13 rfl (lv_at hl 1 rfl) w) ?_
      refine zg_1 (pc' := 15) (fun _ _ _ _ _ hl w => lv_iconst (v := (5 : Int32)) hx hb zd_Names_length_14 (by decide) w) ?_
      refine zg_1 (pc' := 16) (fun _ _ _ _ _ hl w => lv_lushr (v := (zu_l j3 (5 : Int32))) hx hb zd_Names_length_15 rfl w) ?_
      obtain ⟨j_2, e_j_2, hf⟩ := zx_l hf
      refine zg_tl e_j_2 ?_
      refine zg_s (pc' := 17) (lv' := [(3, .long j_2), (2, .int i_1)]) (fun _ _ _ _ _ hl w => lv_lstore_n hx hb zd_Names_length_16 rfl hl (by decide) rfl w) ?_
      refine zg_1 (pc' := 4) (fun _ _ _ _ _ hl w => lv_goto hx hb zd_Names_length_17 (by decide) w) ?_
      refine zg_v [1, 0] rfl ?_
      exact ih i_1 j_2 hf
set_option maxHeartbeats 4000000 in
theorem zc_Names_length (l : Launch) (h0 : Nat) (D : va_G) (dA : Nat → ClassId) (tb : Nat → Nat) (n : Nat) {s0 : zh_S} {j0 : Int64} {r : Int32} (hf : zf_Names_length n j0 = some r) : zc_M l zn_Names_length zs_Names_length 0 0 h0 D dA tb [.long j0] s0 (some (.int r)) s0 := by
  rw [zf_Names_length] at hf
  refine zc_of (cc := ze_Names_length) (maxL := 5) (ret := (some .int)) (lv := [(0, .long j0)]) (by decide) rfl (Nat.le_of_ble_eq_true rfl) rfl ?_
  intro p e s m args below meth c X hnm
  obtain ⟨hx, hb, hml, hown, htT, hrt, hlk, x00, hIn⟩ := id X
  have hK := hIn.2.1
  have hT := hIn.2.2.1
  have hNe := hIn.2.2.2
  have hR : zg_R { frames := 0, cells := zh_N s0 - zh_N s0, slots := zh_M s0 - zh_M s0, locals := 0 } (zh_N s0) (zh_M s0) s0 := ⟨by show zh_N s0 ≤ zh_N s0 + (zh_N s0 - zh_N s0); omega, by show zh_M s0 ≤ zh_M s0 + (zh_M s0 - zh_M s0); omega⟩
  have hF : 0 ≤ ({ frames := 0, cells := zh_N s0 - zh_N s0, slots := zh_M s0 - zh_M s0, locals := 0 } : Room).frames ∧ 0 ≤ ({ frames := 0, cells := zh_N s0 - zh_N s0, slots := zh_M s0 - zh_M s0, locals := 0 } : Room).locals := ⟨Nat.le_refl _, Nat.le_refl _⟩
  have hret := fun (pc : Nat) (lv : List (Nat × Value)) (hd : decode ze_Names_length pc = .ok (.ireturn, 1)) => zg_iret (R := { frames := 0, cells := zh_N s0 - zh_N s0, slots := zh_M s0 - zh_M s0, locals := 0 }) (l := l) (e := e) (below := below) (c0 := zh_N s0) (s0 := zh_M s0) (z := s0) (lv := lv) (v := r) X rfl hd
  refine zg_1 (pc' := 1) (fun _ _ _ _ _ hl w => lv_iconst (v := (0 : Int32)) hx hb zd_Names_length_0 (by decide) w) ?_
  refine zg_s (pc' := 2) (lv' := [(2, .int (0 : Int32)), (0, .long j0)]) (fun _ _ _ _ _ hl w => lv_istore_n hx hb zd_Names_length_1 rfl hl (by decide) rfl w) ?_
  refine zg_1 (pc' := 3) (fun _ _ _ _ _ hl w => lv_lload_n hx hb zd_Names_length_2 rfl (lv_at hl 1 rfl) w) ?_
  refine zg_s (pc' := 4) (lv' := [(3, .long j0), (2, .int (0 : Int32)), (0, .long j0)]) (fun _ _ _ _ _ hl w => lv_lstore_n hx hb zd_Names_length_3 rfl hl (by decide) rfl w) ?_
  refine zg_v [1, 0] rfl ?_
  exact zw_Names_length_4 X hR hF hret n n (0 : Int32) j0 hf
set_option maxHeartbeats 4000000 in
theorem zc_Names_toAscii (l : Launch) (h0 : Nat) (D : va_G) (dA : Nat → ClassId) (tb : Nat → Nat) (n : Nat) {s0 : zh_S} {i0 : Int32} {r : Int32} (hf : zf_Names_toAscii n i0 = some r) : zc_M l zn_Names_toAscii zs_Names_toAscii 0 0 h0 D dA tb [.int i0] s0 (some (.int r)) s0 := by
  rw [zf_Names_toAscii] at hf
  refine zc_of (cc := ze_Names_toAscii) (maxL := 1) (ret := (some .int)) (lv := [(0, .int i0)]) (by decide) rfl (Nat.le_of_ble_eq_true rfl) rfl ?_
  intro p e s m args below meth c X hnm
  obtain ⟨hx, hb, hml, hown, htT, hrt, hlk, x00, hIn⟩ := id X
  have hK := hIn.2.1
  have hT := hIn.2.2.1
  have hNe := hIn.2.2.2
  have hR : zg_R { frames := 0, cells := zh_N s0 - zh_N s0, slots := zh_M s0 - zh_M s0, locals := 0 } (zh_N s0) (zh_M s0) s0 := ⟨by show zh_N s0 ≤ zh_N s0 + (zh_N s0 - zh_N s0); omega, by show zh_M s0 ≤ zh_M s0 + (zh_M s0 - zh_M s0); omega⟩
  have hF : 0 ≤ ({ frames := 0, cells := zh_N s0 - zh_N s0, slots := zh_M s0 - zh_M s0, locals := 0 } : Room).frames ∧ 0 ≤ ({ frames := 0, cells := zh_N s0 - zh_N s0, slots := zh_M s0 - zh_M s0, locals := 0 } : Room).locals := ⟨Nat.le_refl _, Nat.le_refl _⟩
  have hret := fun (pc : Nat) (lv : List (Nat × Value)) (hd : decode ze_Names_toAscii pc = .ok (.ireturn, 1)) => zg_iret (R := { frames := 0, cells := zh_N s0 - zh_N s0, slots := zh_M s0 - zh_M s0, locals := 0 }) (l := l) (e := e) (below := below) (c0 := zh_N s0) (s0 := zh_M s0) (z := s0) (lv := lv) (v := r) X rfl hd
  refine zg_1 (pc' := 1) (fun _ _ _ _ _ hl w => lv_iload_n hx hb zd_Names_toAscii_0 rfl (lv_at hl 0 rfl) w) ?_
  refine zg_1 (pc' := 3) (fun _ _ _ _ _ hl w => lv_bipush (v := (27 : Int32)) hx hb zd_Names_toAscii_1 (by decide) w) ?_
  refine zg_2 (pc1 := 11) (pc2 := 6) (Classical.em _).symm (fun _ _ _ _ _ w1 w2 => lv_icmp_ne hx hb zd_Names_toAscii_3 (by decide) w1 w2) (fun hc => ?_) (fun hc => ?_)
  · rw [if_neg hc] at hf
    refine zg_1 (pc' := 13) (fun _ _ _ _ _ hl w => lv_bipush (v := (96 : Int32)) hx hb zd_Names_toAscii_11 (by decide) w) ?_
    refine zg_1 (pc' := 14) (fun _ _ _ _ _ hl w => lv_iload_n hx hb zd_Names_toAscii_13 rfl (lv_at hl 0 rfl) w) ?_
    refine zg_1 (pc' := 15) (fun _ _ _ _ _ hl w => lv_iadd hx hb zd_Names_toAscii_14 w) ?_
    obtain rfl := zx_r1 hf
    exact hret _ _ zd_Names_toAscii_15
  · rw [if_pos hc] at hf
    refine zg_1 (pc' := 8) (fun _ _ _ _ _ hl w => lv_bipush (v := (46 : Int32)) hx hb zd_Names_toAscii_6 (by decide) w) ?_
    refine zg_1 (pc' := 15) (fun _ _ _ _ _ hl w => lv_goto hx hb zd_Names_toAscii_8 (by decide) w) ?_
    obtain rfl := zx_r1 hf
    exact hret _ _ zd_Names_toAscii_15
set_option maxHeartbeats 4000000 in
theorem zw_Draft_appendName_18 {p : Program} {l : Launch} {e : Env} {R : Room} {s : State} {m : MethodId} {args : Array Value} {below : List Frame} {meth : Method} {c : Code} {Q : State → Prop} {h0 : Nat} {D : va_G} {dA : Nat → ClassId} {tb : Nat → Nat} {c0 k0 : Nat} {z : zh_S} (X : zg_X p s m args meth c ze_Draft_appendName 6 zr_Draft none h0 D dA tb) (hR : zg_R R c0 k0 z) (hF : 2 ≤ R.frames ∧ 41 ≤ R.locals) (hret : ∀ (pc : Nat) (lv : List (Nat × Value)), decode ze_Draft_appendName pc = .ok (.return_, 1) → zg_G p l e R s m args below meth c Q h0 D dA 6 c0 k0 z z pc lv []) (n : Nat) (k : Nat) : ∀ (s0 : zh_S) (a0 : Nat) (j4 : Int64), zl_Draft_appendName_18 n k s0 a0 j4 = some z → zg_G p l e R s m args below meth c Q h0 D dA 6 c0 k0 z s0 18 [(0, .ref (h0 + a0)), (4, .long j4)] [] := by
  obtain ⟨hx, hb, hml, hown, htT, hrt, hlk, x00, hIn⟩ := id X
  have hK := hIn.2.1
  have hT := hIn.2.2.1
  have hNe := hIn.2.2.2
  induction k with
  | zero => intro s0 a0 j4 hf; cases hf
  | succ k ih =>
    intro s0 a0 j4 hf
    rw [zl_Draft_appendName_18] at hf
    refine zg_1 (pc' := 20) (fun _ _ _ _ _ hl w => lv_lload hx hb zd_Draft_appendName_18 (lv_at hl 1 rfl) w) ?_
    refine zg_1 (pc' := 21) (fun _ _ _ _ _ hl w => lv_lconst (v := (0 : Int64)) hx hb zd_Draft_appendName_20 (by decide) w) ?_
    refine zg_1 (pc' := 22) (fun _ _ _ _ _ hl w => W.lcmp hx hb zd_Draft_appendName_21 w) ?_
    refine zg_2 (pc1 := 48) (pc2 := 25) (Classical.em _) (fun _ _ _ _ _ w1 w2 => lv_if_eq hx hb zd_Draft_appendName_22 (by decide) w1 w2) (fun hc => ?_) (fun hc => ?_)
    · rw [if_pos hc] at hf
      obtain rfl := zx_r1 hf
      exact hret _ _ zd_Draft_appendName_48
    · rw [if_neg hc] at hf
      refine zg_1 (pc' := 26) (fun _ _ _ _ _ hl w => lv_aload_n hx hb zd_Draft_appendName_25 rfl (lv_at hl 0 rfl) w) ?_
      refine zg_1 (pc' := 28) (fun _ _ _ _ _ hl w => lv_lload hx hb zd_Draft_appendName_26 (lv_at hl 1 rfl) w) ?_
      refine zg_1 (pc' := 29) (fun _ _ _ _ _ hl w => lv_l2i (v := j4.toInt32) hx hb zd_Draft_appendName_28 rfl w) ?_
      refine zg_1 (pc' := 31) (fun _ _ _ _ _ hl w => lv_bipush (v := (31 : Int32)) hx hb zd_Draft_appendName_29 (by decide) w) ?_
      refine zg_1 (pc' := 32) (fun _ _ _ _ _ hl w => lv_iand hx hb zd_Draft_appendName_31 w) ?_
      obtain ⟨i_1, hq, hf⟩ := zx_p hf
      refine zg_call (pc' := 35) (y := s0) (rv := (some (.int i_1))) (rest := [.ref (h0 + a0)]) X hR ⟨Nat.le_refl _, Nat.le_refl _⟩ (fun H locs ls k j hsz hI hU hk => va_runS (As := [.int (j4.toInt32 &&& (31 : Int32))]) (rest := [.ref (h0 + a0)]) ⟨hx, hb, hml, hown, htT⟩ (zc_Names_toAscii l h0 D dA tb n hq) (va_cwS 1 htT (zw_gS zt_410 zt_411 zt_72 zt_412) rfl rfl rfl (by decide +kernel) ⟨Nat.le_trans (Nat.le_of_ble_eq_true rfl) hF.1, Nat.le_trans (Nat.le_of_ble_eq_true rfl) hF.2⟩) (zg_pre hU) rfl rfl hsz rfl (lv_room (Nat.le_of_ble_eq_true rfl)) zd_Draft_appendName_32 hk) rfl ?_
      obtain ⟨h_3, hf⟩ := zx_ck hf
      obtain ⟨i_4, s_2, hq, hf⟩ := zx_b hf
      refine zg_call (pc' := 38) (y := s_2) (rv := (some (.int i_4))) (rest := []) X hR (zm_Draft_append hq) (fun H locs ls k j hsz hI hU hk => va_runV (As := [.int i_1]) (rest := []) ⟨hx, hb, hml, hown, htT⟩ (zc_Draft_append l h0 D dA tb n hq) (cwV 1 htT (zw_gV zt_402 zt_320 zt_321 zt_65 zt_322) rfl rfl rfl (by decide +kernel) ⟨Nat.le_trans (Nat.le_of_ble_eq_true rfl) hF.1, Nat.le_trans (Nat.le_of_ble_eq_true rfl) hF.2⟩) ⟨(zg_pre hU).1, zg_recv hK hI h_3 rfl, (zg_pre hU).2⟩ rfl rfl hsz rfl (lv_room (Nat.le_of_ble_eq_true rfl)) zd_Draft_appendName_35 hk) rfl ?_
      refine zg_1 (pc' := 39) (fun _ _ _ _ _ hl w => lv_pop hx hb zd_Draft_appendName_38 rfl w) ?_
      refine zg_1 (pc' := 41) (fun _ _ _ _ _ hl w => lv_lload hx hb zd_Draft_appendName_39 (lv_at hl 1 rfl) w) ?_
      refine zg_1 (pc' := 42) (fun _ _ _ _ _ hl w => lv_iconst (v := (5 : Int32)) hx hb zd_Draft_appendName_41 (by decide) w) ?_
      refine zg_1 (pc' := 43) (fun _ _ _ _ _ hl w => lv_lushr (v := (zu_l j4 (5 : Int32))) hx hb zd_Draft_appendName_42 rfl w) ?_
      obtain ⟨j_5, e_j_5, hf⟩ := zx_l hf
      refine zg_tl e_j_5 ?_
      refine zg_s (pc' := 45) (lv' := [(4, .long j_5), (0, .ref (h0 + a0))]) (fun _ _ _ _ _ hl w => lv_lstore hx hb zd_Draft_appendName_43 hl (by decide) rfl w) ?_
      refine zg_1 (pc' := 18) (fun _ _ _ _ _ hl w => lv_goto hx hb zd_Draft_appendName_45 (by decide) w) ?_
      refine zg_v [1, 0] rfl ?_
      exact ih s_2 a0 j_5 hf
set_option maxHeartbeats 4000000 in
theorem zc_Draft_appendName (l : Launch) (h0 : Nat) (D : va_G) (dA : Nat → ClassId) (tb : Nat → Nat) (n : Nat) {s0 : zh_S} {a0 : Nat} {i1 : Int32} {j2 : Int64} {z : zh_S} (hf : zf_Draft_appendName n s0 a0 i1 j2 = some z) : zc_M l zn_Draft_appendName zs_Draft_appendName 2 41 h0 D dA tb [.ref (h0 + a0), .int i1, .long j2] s0 none z := by
  rw [zf_Draft_appendName] at hf
  refine zc_of (cc := ze_Draft_appendName) (maxL := 6) (ret := none) (lv := [(0, .ref (h0 + a0)), (1, .int i1), (2, .long j2)]) (by decide) rfl (Nat.le_of_ble_eq_true rfl) rfl ?_
  intro p e s m args below meth c X hnm
  obtain ⟨hx, hb, hml, hown, htT, hrt, hlk, x00, hIn⟩ := id X
  have hK := hIn.2.1
  have hT := hIn.2.2.1
  have hNe := hIn.2.2.2
  have hR : zg_R { frames := 2, cells := zh_N z - zh_N s0, slots := zh_M z - zh_M s0, locals := 41 } (zh_N s0) (zh_M s0) z := ⟨by show zh_N z ≤ zh_N s0 + (zh_N z - zh_N s0); omega, by show zh_M z ≤ zh_M s0 + (zh_M z - zh_M s0); omega⟩
  have hF : 2 ≤ ({ frames := 2, cells := zh_N z - zh_N s0, slots := zh_M z - zh_M s0, locals := 41 } : Room).frames ∧ 41 ≤ ({ frames := 2, cells := zh_N z - zh_N s0, slots := zh_M z - zh_M s0, locals := 41 } : Room).locals := ⟨Nat.le_refl _, Nat.le_refl _⟩
  have hret := fun (pc : Nat) (lv : List (Nat × Value)) (hd : decode ze_Draft_appendName pc = .ok (.return_, 1)) => zg_vret (R := { frames := 2, cells := zh_N z - zh_N s0, slots := zh_M z - zh_M s0, locals := 41 }) (l := l) (e := e) (below := below) (c0 := zh_N s0) (s0 := zh_M s0) (z := z) (lv := lv) X hd
  refine zg_1 (pc' := 1) (fun _ _ _ _ _ hl w => lv_aload_n hx hb zd_Draft_appendName_0 rfl (lv_at hl 0 rfl) w) ?_
  refine zg_1 (pc' := 2) (fun _ _ _ _ _ hl w => lv_iload_n hx hb zd_Draft_appendName_1 rfl (lv_at hl 1 rfl) w) ?_
  obtain ⟨h_2, hf⟩ := zx_ck hf
  obtain ⟨i_3, s_1, hq, hf⟩ := zx_b hf
  refine zg_call (pc' := 5) (y := s_1) (rv := (some (.int i_3))) (rest := []) X hR (zm_Draft_append hq) (fun H locs ls k j hsz hI hU hk => va_runV (As := [.int i1]) (rest := []) ⟨hx, hb, hml, hown, htT⟩ (zc_Draft_append l h0 D dA tb n hq) (cwV 1 htT (zw_gV zt_402 zt_320 zt_321 zt_65 zt_322) rfl rfl rfl (by decide +kernel) ⟨Nat.le_trans (Nat.le_of_ble_eq_true rfl) hF.1, Nat.le_trans (Nat.le_of_ble_eq_true rfl) hF.2⟩) ⟨(zg_pre hU).1, zg_recv hK hI h_2 rfl, (zg_pre hU).2⟩ rfl rfl hsz rfl (lv_room (Nat.le_of_ble_eq_true rfl)) zd_Draft_appendName_2 hk) rfl ?_
  refine zg_1 (pc' := 6) (fun _ _ _ _ _ hl w => lv_pop hx hb zd_Draft_appendName_5 rfl w) ?_
  refine zg_1 (pc' := 7) (fun _ _ _ _ _ hl w => lv_aload_n hx hb zd_Draft_appendName_6 rfl (lv_at hl 0 rfl) w) ?_
  refine zg_1 (pc' := 8) (fun _ _ _ _ _ hl w => lv_lload_n hx hb zd_Draft_appendName_7 rfl (lv_at hl 2 rfl) w) ?_
  obtain ⟨i_4, hq, hf⟩ := zx_p hf
  refine zg_call (pc' := 11) (y := s_1) (rv := (some (.int i_4))) (rest := [.ref (h0 + a0)]) X hR ⟨Nat.le_refl _, Nat.le_refl _⟩ (fun H locs ls k j hsz hI hU hk => va_runS (As := [.long j2]) (rest := [.ref (h0 + a0)]) ⟨hx, hb, hml, hown, htT⟩ (zc_Names_length l h0 D dA tb n hq) (va_cwS 1 htT (zw_gS zt_407 zt_408 zt_72 zt_409) rfl rfl rfl (by decide +kernel) ⟨Nat.le_trans (Nat.le_of_ble_eq_true rfl) hF.1, Nat.le_trans (Nat.le_of_ble_eq_true rfl) hF.2⟩) (zg_pre hU) rfl rfl hsz rfl (lv_room (Nat.le_of_ble_eq_true rfl)) zd_Draft_appendName_8 hk) rfl ?_
  obtain ⟨h_6, hf⟩ := zx_ck hf
  obtain ⟨i_7, s_5, hq, hf⟩ := zx_b hf
  refine zg_call (pc' := 14) (y := s_5) (rv := (some (.int i_7))) (rest := []) X hR (zm_Draft_append hq) (fun H locs ls k j hsz hI hU hk => va_runV (As := [.int i_4]) (rest := []) ⟨hx, hb, hml, hown, htT⟩ (zc_Draft_append l h0 D dA tb n hq) (cwV 1 htT (zw_gV zt_402 zt_320 zt_321 zt_65 zt_322) rfl rfl rfl (by decide +kernel) ⟨Nat.le_trans (Nat.le_of_ble_eq_true rfl) hF.1, Nat.le_trans (Nat.le_of_ble_eq_true rfl) hF.2⟩) ⟨(zg_pre hU).1, zg_recv hK hI h_6 rfl, (zg_pre hU).2⟩ rfl rfl hsz rfl (lv_room (Nat.le_of_ble_eq_true rfl)) zd_Draft_appendName_11 hk) rfl ?_
  refine zg_1 (pc' := 15) (fun _ _ _ _ _ hl w => lv_pop hx hb zd_Draft_appendName_14 rfl w) ?_
  refine zg_1 (pc' := 16) (fun _ _ _ _ _ hl w => lv_lload_n hx hb zd_Draft_appendName_15 rfl (lv_at hl 2 rfl) w) ?_
  refine zg_s (pc' := 18) (lv' := [(4, .long j2), (0, .ref (h0 + a0)), (1, .int i1), (2, .long j2)]) (fun _ _ _ _ _ hl w => lv_lstore hx hb zd_Draft_appendName_16 hl (by decide) rfl w) ?_
  refine zg_v [1, 0] rfl ?_
  exact zw_Draft_appendName_18 X hR hF hret n n s_5 a0 j2 hf
set_option maxHeartbeats 4000000 in
theorem zw_Draft_appendInteger_44 {p : Program} {l : Launch} {e : Env} {R : Room} {s : State} {m : MethodId} {args : Array Value} {below : List Frame} {meth : Method} {c : Code} {Q : State → Prop} {h0 : Nat} {D : va_G} {dA : Nat → ClassId} {tb : Nat → Nat} {c0 k0 : Nat} {z : zh_S} (X : zg_X p s m args meth c ze_Draft_appendInteger 5 zr_Draft none h0 D dA tb) (hR : zg_R R c0 k0 z) (hF : 2 ≤ R.frames ∧ 41 ≤ R.locals) (hret : ∀ (pc : Nat) (lv : List (Nat × Value)), decode ze_Draft_appendInteger pc = .ok (.return_, 1) → zg_G p l e R s m args below meth c Q h0 D dA 5 c0 k0 z z pc lv []) (n : Nat) (k : Nat) : ∀ (s0 : zh_S) (a0 : Nat) (j1 : Int64) (i4 : Int32), zl_Draft_appendInteger_44 n k s0 a0 j1 i4 = some z → zg_G p l e R s m args below meth c Q h0 D dA 5 c0 k0 z s0 44 [(0, .ref (h0 + a0)), (1, .long j1), (4, .int i4)] [] := by
  obtain ⟨hx, hb, hml, hown, htT, hrt, hlk, x00, hIn⟩ := id X
  have hK := hIn.2.1
  have hT := hIn.2.2.1
  have hNe := hIn.2.2.2
  induction k with
  | zero => intro s0 a0 j1 i4 hf; cases hf
  | succ k ih =>
    intro s0 a0 j1 i4 hf
    rw [zl_Draft_appendInteger_44] at hf
    refine zg_1 (pc' := 46) (fun _ _ _ _ _ hl w => lv_iload hx hb zd_Draft_appendInteger_44 (lv_at hl 2 rfl) w) ?_
    refine zg_2 (pc1 := 72) (pc2 := 49) (Classical.em _) (fun _ _ _ _ _ w1 w2 => lv_if_lt hx hb zd_Draft_appendInteger_46 (by decide) w1 w2) (fun hc => ?_) (fun hc => ?_)
    · rw [if_pos hc] at hf
      obtain rfl := zx_r1 hf
      exact hret _ _ zd_Draft_appendInteger_72
    · rw [if_neg hc] at hf
      refine zg_1 (pc' := 50) (fun _ _ _ _ _ hl w => lv_aload_n hx hb zd_Draft_appendInteger_49 rfl (lv_at hl 0 rfl) w) ?_
      refine zg_1 (pc' := 51) (fun _ _ _ _ _ hl w => lv_lload_n hx hb zd_Draft_appendInteger_50 rfl (lv_at hl 1 rfl) w) ?_
      refine zg_1 (pc' := 53) (fun _ _ _ _ _ hl w => lv_bipush (v := (8 : Int32)) hx hb zd_Draft_appendInteger_51 (by decide) w) ?_
      refine zg_1 (pc' := 55) (fun _ _ _ _ _ hl w => lv_iload hx hb zd_Draft_appendInteger_53 (lv_at hl 2 rfl) w) ?_
      refine zg_1 (pc' := 56) (fun _ _ _ _ _ hl w => lv_imul hx hb zd_Draft_appendInteger_55 w) ?_
      refine zg_1 (pc' := 57) (fun _ _ _ _ _ hl w => lv_lushr (v := (zu_l j1 ((8 : Int32) * i4))) hx hb zd_Draft_appendInteger_56 rfl w) ?_
      refine zg_1 (pc' := 58) (fun _ _ _ _ _ hl w => lv_l2i (v := (zu_l j1 ((8 : Int32) * i4)).toInt32) hx hb zd_Draft_appendInteger_57 rfl w) ?_
      refine zg_1 (pc' := 61) (fun _ _ _ _ _ hl w => lv_sipush (v := (255 : Int32)) hx hb zd_Draft_appendInteger_58 (by decide) w) ?_
      refine zg_1 (pc' := 62) (fun _ _ _ _ _ hl w => lv_iand hx hb zd_Draft_appendInteger_61 w) ?_
      obtain ⟨h_2, hf⟩ := zx_ck hf
      obtain ⟨i_3, s_1, hq, hf⟩ := zx_b hf
      refine zg_call (pc' := 65) (y := s_1) (rv := (some (.int i_3))) (rest := []) X hR (zm_Draft_append hq) (fun H locs ls k j hsz hI hU hk => va_runV (As := [.int ((zu_l j1 ((8 : Int32) * i4)).toInt32 &&& (255 : Int32))]) (rest := []) ⟨hx, hb, hml, hown, htT⟩ (zc_Draft_append l h0 D dA tb n hq) (cwV 1 htT (zw_gV zt_402 zt_320 zt_321 zt_65 zt_322) rfl rfl rfl (by decide +kernel) ⟨Nat.le_trans (Nat.le_of_ble_eq_true rfl) hF.1, Nat.le_trans (Nat.le_of_ble_eq_true rfl) hF.2⟩) ⟨(zg_pre hU).1, zg_recv hK hI h_2 rfl, (zg_pre hU).2⟩ rfl rfl hsz rfl (lv_room (Nat.le_of_ble_eq_true rfl)) zd_Draft_appendInteger_62 hk) rfl ?_
      refine zg_1 (pc' := 66) (fun _ _ _ _ _ hl w => lv_pop hx hb zd_Draft_appendInteger_65 rfl w) ?_
      obtain ⟨i_4, e_i_4, hf⟩ := zx_l hf
      refine zg_s (pc' := 69) (lv' := [(4, .int i_4), (0, .ref (h0 + a0)), (1, .long j1)]) (fun _ _ _ _ _ hl w => lv_iinc (k := 2) (v := i_4) hx hb zd_Draft_appendInteger_66 hl rfl (by rw [e_i_4]; rfl) (by decide) rfl w) ?_
      refine zg_1 (pc' := 44) (fun _ _ _ _ _ hl w => lv_goto hx hb zd_Draft_appendInteger_69 (by decide) w) ?_
      refine zg_v [1, 2, 0] rfl ?_
      exact ih s_1 a0 j1 i_4 hf
set_option maxHeartbeats 4000000 in
theorem zw_Draft_appendInteger_27 {p : Program} {l : Launch} {e : Env} {R : Room} {s : State} {m : MethodId} {args : Array Value} {below : List Frame} {meth : Method} {c : Code} {Q : State → Prop} {h0 : Nat} {D : va_G} {dA : Nat → ClassId} {tb : Nat → Nat} {c0 k0 : Nat} {z : zh_S} (X : zg_X p s m args meth c ze_Draft_appendInteger 5 zr_Draft none h0 D dA tb) (hR : zg_R R c0 k0 z) (hF : 2 ≤ R.frames ∧ 41 ≤ R.locals) (hret : ∀ (pc : Nat) (lv : List (Nat × Value)), decode ze_Draft_appendInteger pc = .ok (.return_, 1) → zg_G p l e R s m args below meth c Q h0 D dA 5 c0 k0 z z pc lv []) (n : Nat) : ∀ (s0 : zh_S) (a0 : Nat) (j1 : Int64) (i3 : Int32), zb_Draft_appendInteger_27 n s0 a0 j1 i3 = some z → zg_G p l e R s m args below meth c Q h0 D dA 5 c0 k0 z s0 27 [(0, .ref (h0 + a0)), (1, .long j1), (3, .int i3)] [] := by
  obtain ⟨hx, hb, hml, hown, htT, hrt, hlk, x00, hIn⟩ := id X
  have hK := hIn.2.1
  have hT := hIn.2.2.1
  have hNe := hIn.2.2.2
  intro s0 a0 j1 i3 hf
  rw [zb_Draft_appendInteger_27] at hf
  refine zg_1 (pc' := 28) (fun _ _ _ _ _ hl w => lv_aload_n hx hb zd_Draft_appendInteger_27 rfl (lv_at hl 0 rfl) w) ?_
  refine zg_1 (pc' := 29) (fun _ _ _ _ _ hl w => lv_iconst (v := (2 : Int32)) hx hb zd_Draft_appendInteger_28 (by decide) w) ?_
  obtain ⟨h_2, hf⟩ := zx_ck hf
  obtain ⟨i_3, s_1, hq, hf⟩ := zx_b hf
  refine zg_call (pc' := 32) (y := s_1) (rv := (some (.int i_3))) (rest := []) X hR (zm_Draft_append hq) (fun H locs ls k j hsz hI hU hk => va_runV (As := [.int (2 : Int32)]) (rest := []) ⟨hx, hb, hml, hown, htT⟩ (zc_Draft_append l h0 D dA tb n hq) (cwV 1 htT (zw_gV zt_402 zt_320 zt_321 zt_65 zt_322) rfl rfl rfl (by decide +kernel) ⟨Nat.le_trans (Nat.le_of_ble_eq_true rfl) hF.1, Nat.le_trans (Nat.le_of_ble_eq_true rfl) hF.2⟩) ⟨(zg_pre hU).1, zg_recv hK hI h_2 rfl, (zg_pre hU).2⟩ rfl rfl hsz rfl (lv_room (Nat.le_of_ble_eq_true rfl)) zd_Draft_appendInteger_29 hk) rfl ?_
  refine zg_1 (pc' := 33) (fun _ _ _ _ _ hl w => lv_pop hx hb zd_Draft_appendInteger_32 rfl w) ?_
  refine zg_1 (pc' := 34) (fun _ _ _ _ _ hl w => lv_aload_n hx hb zd_Draft_appendInteger_33 rfl (lv_at hl 0 rfl) w) ?_
  refine zg_1 (pc' := 35) (fun _ _ _ _ _ hl w => lv_iload_n hx hb zd_Draft_appendInteger_34 rfl (lv_at hl 2 rfl) w) ?_
  obtain ⟨h_5, hf⟩ := zx_ck hf
  obtain ⟨i_6, s_4, hq, hf⟩ := zx_b hf
  refine zg_call (pc' := 38) (y := s_4) (rv := (some (.int i_6))) (rest := []) X hR (zm_Draft_append hq) (fun H locs ls k j hsz hI hU hk => va_runV (As := [.int i3]) (rest := []) ⟨hx, hb, hml, hown, htT⟩ (zc_Draft_append l h0 D dA tb n hq) (cwV 1 htT (zw_gV zt_402 zt_320 zt_321 zt_65 zt_322) rfl rfl rfl (by decide +kernel) ⟨Nat.le_trans (Nat.le_of_ble_eq_true rfl) hF.1, Nat.le_trans (Nat.le_of_ble_eq_true rfl) hF.2⟩) ⟨(zg_pre hU).1, zg_recv hK hI h_5 rfl, (zg_pre hU).2⟩ rfl rfl hsz rfl (lv_room (Nat.le_of_ble_eq_true rfl)) zd_Draft_appendInteger_35 hk) rfl ?_
  refine zg_1 (pc' := 39) (fun _ _ _ _ _ hl w => lv_pop hx hb zd_Draft_appendInteger_38 rfl w) ?_
  refine zg_1 (pc' := 40) (fun _ _ _ _ _ hl w => lv_iload_n hx hb zd_Draft_appendInteger_39 rfl (lv_at hl 2 rfl) w) ?_
  refine zg_1 (pc' := 41) (fun _ _ _ _ _ hl w => lv_iconst (v := (1 : Int32)) hx hb zd_Draft_appendInteger_40 (by decide) w) ?_
  refine zg_1 (pc' := 42) (fun _ _ _ _ _ hl w => lv_isub hx hb zd_Draft_appendInteger_41 w) ?_
  obtain ⟨i_7, e_i_7, hf⟩ := zx_l hf
  refine zg_ti e_i_7 ?_
  refine zg_s (pc' := 44) (lv' := [(4, .int i_7), (0, .ref (h0 + a0)), (1, .long j1), (3, .int i3)]) (fun _ _ _ _ _ hl w => lv_istore hx hb zd_Draft_appendInteger_42 hl (by decide) rfl w) ?_
  refine zg_v [1, 2, 0] rfl ?_
  exact zw_Draft_appendInteger_44 X hR hF hret n n s_4 a0 j1 i_7 hf
set_option maxHeartbeats 4000000 in
theorem zw_Draft_appendInteger_2 {p : Program} {l : Launch} {e : Env} {R : Room} {s : State} {m : MethodId} {args : Array Value} {below : List Frame} {meth : Method} {c : Code} {Q : State → Prop} {h0 : Nat} {D : va_G} {dA : Nat → ClassId} {tb : Nat → Nat} {c0 k0 : Nat} {z : zh_S} (X : zg_X p s m args meth c ze_Draft_appendInteger 5 zr_Draft none h0 D dA tb) (hR : zg_R R c0 k0 z) (hF : 2 ≤ R.frames ∧ 41 ≤ R.locals) (hret : ∀ (pc : Nat) (lv : List (Nat × Value)), decode ze_Draft_appendInteger pc = .ok (.return_, 1) → zg_G p l e R s m args below meth c Q h0 D dA 5 c0 k0 z z pc lv []) (n : Nat) (k : Nat) : ∀ (s0 : zh_S) (a0 : Nat) (j1 : Int64) (i3 : Int32), zl_Draft_appendInteger_2 n k s0 a0 j1 i3 = some z → zg_G p l e R s m args below meth c Q h0 D dA 5 c0 k0 z s0 2 [(0, .ref (h0 + a0)), (1, .long j1), (3, .int i3)] [] := by
  obtain ⟨hx, hb, hml, hown, htT, hrt, hlk, x00, hIn⟩ := id X
  have hK := hIn.2.1
  have hT := hIn.2.2.1
  have hNe := hIn.2.2.2
  induction k with
  | zero => intro s0 a0 j1 i3 hf; cases hf
  | succ k ih =>
    intro s0 a0 j1 i3 hf
    rw [zl_Draft_appendInteger_2] at hf
    refine zg_1 (pc' := 3) (fun _ _ _ _ _ hl w => lv_iload_n hx hb zd_Draft_appendInteger_2 rfl (lv_at hl 2 rfl) w) ?_
    refine zg_1 (pc' := 5) (fun _ _ _ _ _ hl w => lv_bipush (v := (8 : Int32)) hx hb zd_Draft_appendInteger_3 (by decide) w) ?_
    refine zg_2 (pc1 := 27) (pc2 := 8) (Classical.em _) (fun _ _ _ _ _ w1 w2 => lv_icmp_ge hx hb zd_Draft_appendInteger_5 (by decide) w1 w2) (fun hc => ?_) (fun hc => ?_)
    · rw [if_pos hc] at hf
      exact zw_Draft_appendInteger_27 X hR hF hret n s0 a0 j1 i3 hf
    · rw [if_neg hc] at hf
      refine zg_1 (pc' := 9) (fun _ _ _ _ _ hl w => lv_lload_n hx hb zd_Draft_appendInteger_8 rfl (lv_at hl 1 rfl) w) ?_
      refine zg_1 (pc' := 11) (fun _ _ _ _ _ hl w => lv_bipush (v := (8 : Int32)) hx hb zd_Draft_appendInteger_9 (by decide) w) ?_
      refine zg_1 (pc' := 12) (fun _ _ _ _ _ hl w => lv_iload_n hx hb zd_Draft_appendInteger_11 rfl (lv_at hl 2 rfl) w) ?_
      refine zg_1 (pc' := 13) (fun _ _ _ _ _ hl w => lv_imul hx hb zd_Draft_appendInteger_12 w) ?_
      refine zg_1 (pc' := 14) (fun _ _ _ _ _ hl w => lv_iconst (v := (1 : Int32)) hx hb zd_Draft_appendInteger_13 (by decide) w) ?_
      refine zg_1 (pc' := 15) (fun _ _ _ _ _ hl w => lv_isub hx hb zd_Draft_appendInteger_14 w) ?_
      refine zg_1 (pc' := 16) (fun _ _ _ _ _ hl w => lv_lushr (v := (zu_l j1 (((8 : Int32) * i3) - (1 : Int32)))) hx hb zd_Draft_appendInteger_15 rfl w) ?_
      refine zg_1 (pc' := 17) (fun _ _ _ _ _ hl w => lv_lconst (v := (0 : Int64)) hx hb zd_Draft_appendInteger_16 (by decide) w) ?_
      refine zg_1 (pc' := 18) (fun _ _ _ _ _ hl w => W.lcmp hx hb zd_Draft_appendInteger_17 w) ?_
      refine zg_2 (pc1 := 27) (pc2 := 21) (Classical.em _) (fun _ _ _ _ _ w1 w2 => lv_if_eq hx hb zd_Draft_appendInteger_18 (by decide) w1 w2) (fun hc => ?_) (fun hc => ?_)
      · rw [if_pos hc] at hf
        exact zw_Draft_appendInteger_27 X hR hF hret n s0 a0 j1 i3 hf
      · rw [if_neg hc] at hf
        obtain ⟨i_1, e_i_1, hf⟩ := zx_l hf
        refine zg_s (pc' := 24) (lv' := [(3, .int i_1), (0, .ref (h0 + a0)), (1, .long j1)]) (fun _ _ _ _ _ hl w => lv_iinc (k := 2) (v := i_1) hx hb zd_Draft_appendInteger_21 hl rfl (by rw [e_i_1]; rfl) (by decide) rfl w) ?_
        refine zg_1 (pc' := 2) (fun _ _ _ _ _ hl w => lv_goto hx hb zd_Draft_appendInteger_24 (by decide) w) ?_
        refine zg_v [1, 2, 0] rfl ?_
        exact ih s0 a0 j1 i_1 hf
set_option maxHeartbeats 4000000 in
theorem zc_Draft_appendInteger (l : Launch) (h0 : Nat) (D : va_G) (dA : Nat → ClassId) (tb : Nat → Nat) (n : Nat) {s0 : zh_S} {a0 : Nat} {j1 : Int64} {z : zh_S} (hf : zf_Draft_appendInteger n s0 a0 j1 = some z) : zc_M l zn_Draft_appendInteger zs_Draft_appendInteger 2 41 h0 D dA tb [.ref (h0 + a0), .long j1] s0 none z := by
  rw [zf_Draft_appendInteger] at hf
  refine zc_of (cc := ze_Draft_appendInteger) (maxL := 5) (ret := none) (lv := [(0, .ref (h0 + a0)), (1, .long j1)]) (by decide) rfl (Nat.le_of_ble_eq_true rfl) rfl ?_
  intro p e s m args below meth c X hnm
  obtain ⟨hx, hb, hml, hown, htT, hrt, hlk, x00, hIn⟩ := id X
  have hK := hIn.2.1
  have hT := hIn.2.2.1
  have hNe := hIn.2.2.2
  have hR : zg_R { frames := 2, cells := zh_N z - zh_N s0, slots := zh_M z - zh_M s0, locals := 41 } (zh_N s0) (zh_M s0) z := ⟨by show zh_N z ≤ zh_N s0 + (zh_N z - zh_N s0); omega, by show zh_M z ≤ zh_M s0 + (zh_M z - zh_M s0); omega⟩
  have hF : 2 ≤ ({ frames := 2, cells := zh_N z - zh_N s0, slots := zh_M z - zh_M s0, locals := 41 } : Room).frames ∧ 41 ≤ ({ frames := 2, cells := zh_N z - zh_N s0, slots := zh_M z - zh_M s0, locals := 41 } : Room).locals := ⟨Nat.le_refl _, Nat.le_refl _⟩
  have hret := fun (pc : Nat) (lv : List (Nat × Value)) (hd : decode ze_Draft_appendInteger pc = .ok (.return_, 1)) => zg_vret (R := { frames := 2, cells := zh_N z - zh_N s0, slots := zh_M z - zh_M s0, locals := 41 }) (l := l) (e := e) (below := below) (c0 := zh_N s0) (s0 := zh_M s0) (z := z) (lv := lv) X hd
  refine zg_1 (pc' := 1) (fun _ _ _ _ _ hl w => lv_iconst (v := (1 : Int32)) hx hb zd_Draft_appendInteger_0 (by decide) w) ?_
  refine zg_s (pc' := 2) (lv' := [(3, .int (1 : Int32)), (0, .ref (h0 + a0)), (1, .long j1)]) (fun _ _ _ _ _ hl w => lv_istore_n hx hb zd_Draft_appendInteger_1 rfl hl (by decide) rfl w) ?_
  refine zg_v [1, 2, 0] rfl ?_
  exact zw_Draft_appendInteger_2 X hR hF hret n n s0 a0 j1 (1 : Int32) hf
set_option maxHeartbeats 4000000 in
theorem zw_Draft_wrap_94 {p : Program} {l : Launch} {e : Env} {R : Room} {s : State} {m : MethodId} {args : Array Value} {below : List Frame} {meth : Method} {c : Code} {Q : State → Prop} {h0 : Nat} {D : va_G} {dA : Nat → ClassId} {tb : Nat → Nat} {c0 k0 : Nat} {z : zh_S} (X : zg_X p s m args meth c ze_Draft_wrap 5 zr_Draft none h0 D dA tb) (hR : zg_R R c0 k0 z) (hF : 1 ≤ R.frames ∧ 40 ≤ R.locals) (hret : ∀ (pc : Nat) (lv : List (Nat × Value)), decode ze_Draft_wrap pc = .ok (.return_, 1) → zg_G p l e R s m args below meth c Q h0 D dA 5 c0 k0 z z pc lv []) (n : Nat) : ∀ (s0 : zh_S) (a0 : Nat) (i1 : Int32) (i3 : Int32) (i4 : Int32), zb_Draft_wrap_94 n s0 a0 i1 i3 i4 = some z → zg_G p l e R s m args below meth c Q h0 D dA 5 c0 k0 z s0 94 [(0, .ref (h0 + a0)), (1, .int i1), (3, .int i3), (4, .int i4)] [] := by
  obtain ⟨hx, hb, hml, hown, htT, hrt, hlk, x00, hIn⟩ := id X
  have hK := hIn.2.1
  have hT := hIn.2.2.1
  have hNe := hIn.2.2.2
  intro s0 a0 i1 i3 i4 hf
  rw [zb_Draft_wrap_94] at hf
  refine zg_1 (pc' := 95) (fun _ _ _ _ _ hl w => lv_aload_n hx hb zd_Draft_wrap_94 rfl (lv_at hl 0 rfl) w) ?_
  obtain ⟨h_1, hf⟩ := zx_ck hf
  obtain ⟨a_2, h_3, hf⟩ := zx_p hf
  refine zg_get (pc' := 98) (ci := 1) hx hb htT zi_Draft hown hK h_1 rfl rfl 0 (by decide) (htT _ zt_91) (fun _ h9 => h9) (zx_hv h_3) zd_Draft_wrap_95 rfl ?_
  refine zg_1 (pc' := 99) (fun _ _ _ _ _ hl w => lv_iload_n hx hb zd_Draft_wrap_98 rfl (lv_at hl 1 rfl) w) ?_
  refine zg_1 (pc' := 101) (fun _ _ _ _ _ hl w => lv_iload hx hb zd_Draft_wrap_99 (lv_at hl 3 rfl) w) ?_
  refine zg_1 (pc' := 102) (fun _ _ _ _ _ hl w => lv_iadd hx hb zd_Draft_wrap_101 w) ?_
  refine zg_1 (pc' := 103) (fun _ _ _ _ _ hl w => lv_iconst (v := (1 : Int32)) hx hb zd_Draft_wrap_102 (by decide) w) ?_
  refine zg_1 (pc' := 104) (fun _ _ _ _ _ hl w => lv_isub hx hb zd_Draft_wrap_103 w) ?_
  refine zg_1 (pc' := 105) (fun _ _ _ _ _ hl w => lv_iload_n hx hb zd_Draft_wrap_104 rfl (lv_at hl 2 rfl) w) ?_
  obtain ⟨h_5, hf⟩ := zx_ck hf
  obtain ⟨s_4, e_s_4, hf⟩ := zx_l hf
  refine zg_iast (pc' := 106) hx hb hK h_5 e_s_4 zd_Draft_wrap_105 rfl ?_
  obtain rfl := zx_r1 hf
  exact hret _ _ zd_Draft_wrap_106
set_option maxHeartbeats 4000000 in
theorem zw_Draft_wrap_18 {p : Program} {l : Launch} {e : Env} {R : Room} {s : State} {m : MethodId} {args : Array Value} {below : List Frame} {meth : Method} {c : Code} {Q : State → Prop} {h0 : Nat} {D : va_G} {dA : Nat → ClassId} {tb : Nat → Nat} {c0 k0 : Nat} {z : zh_S} (X : zg_X p s m args meth c ze_Draft_wrap 5 zr_Draft none h0 D dA tb) (hR : zg_R R c0 k0 z) (hF : 1 ≤ R.frames ∧ 40 ≤ R.locals) (hret : ∀ (pc : Nat) (lv : List (Nat × Value)), decode ze_Draft_wrap pc = .ok (.return_, 1) → zg_G p l e R s m args below meth c Q h0 D dA 5 c0 k0 z z pc lv []) (n : Nat) : ∀ (s0 : zh_S) (a0 : Nat) (i1 : Int32) (i2 : Int32) (i3 : Int32) (it0 : Int32), zb_Draft_wrap_18 n s0 a0 i1 i2 i3 it0 = some z → zg_G p l e R s m args below meth c Q h0 D dA 5 c0 k0 z s0 18 [(0, .ref (h0 + a0)), (1, .int i1), (2, .int i2), (3, .int i3)] [.int it0] := by
  obtain ⟨hx, hb, hml, hown, htT, hrt, hlk, x00, hIn⟩ := id X
  have hK := hIn.2.1
  have hT := hIn.2.2.1
  have hNe := hIn.2.2.2
  intro s0 a0 i1 i2 i3 it0 hf
  rw [zb_Draft_wrap_18] at hf
  refine zg_s (pc' := 20) (lv' := [(4, .int it0), (0, .ref (h0 + a0)), (1, .int i1), (2, .int i2), (3, .int i3)]) (fun _ _ _ _ _ hl w => lv_istore hx hb zd_Draft_wrap_18 hl (by decide) rfl w) ?_
  refine zg_1 (pc' := 21) (fun _ _ _ _ _ hl w => lv_iload_n hx hb zd_Draft_wrap_20 rfl (lv_at hl 2 rfl) w) ?_
  refine zg_2 (pc1 := 41) (pc2 := 24) (Classical.em _) (fun _ _ _ _ _ w1 w2 => lv_if_lt hx hb zd_Draft_wrap_21 (by decide) w1 w2) (fun hc => ?_) (fun hc => ?_)
  · rw [if_pos hc] at hf
    obtain rfl := zx_r1 hf
    exact hret _ _ zd_Draft_wrap_41
  · rw [if_neg hc] at hf
    refine zg_1 (pc' := 25) (fun _ _ _ _ _ hl w => lv_iload_n hx hb zd_Draft_wrap_24 rfl (lv_at hl 4 rfl) w) ?_
    refine zg_2 (pc1 := 41) (pc2 := 28) (Classical.em _) (fun _ _ _ _ _ w1 w2 => lv_if_lt hx hb zd_Draft_wrap_25 (by decide) w1 w2) (fun hc => ?_) (fun hc => ?_)
    · rw [if_pos hc] at hf
      obtain rfl := zx_r1 hf
      exact hret _ _ zd_Draft_wrap_41
    · rw [if_neg hc] at hf
      refine zg_1 (pc' := 29) (fun _ _ _ _ _ hl w => lv_aload_n hx hb zd_Draft_wrap_28 rfl (lv_at hl 1 rfl) w) ?_
      obtain ⟨h_1, hf⟩ := zx_ck hf
      refine zg_get (pc' := 32) (ci := 1) hx hb htT zi_Draft hown hK h_1 rfl rfl 1 (by decide) (htT _ zt_94) (fun _ h9 => h9) rfl zd_Draft_wrap_29 rfl ?_
      refine zg_1 (pc' := 34) (fun _ _ _ _ _ hl w => lv_iload hx hb zd_Draft_wrap_32 (lv_at hl 0 rfl) w) ?_
      refine zg_1 (pc' := 35) (fun _ _ _ _ _ hl w => lv_iadd hx hb zd_Draft_wrap_34 w) ?_
      refine zg_1 (pc' := 38) (fun _ _ _ _ _ hl w => lv_sipush (v := (200 : Int32)) hx hb zd_Draft_wrap_35 (by decide) w) ?_
      refine zg_2 (pc1 := 42) (pc2 := 41) (Classical.em _) (fun _ _ _ _ _ w1 w2 => lv_icmp_le hx hb zd_Draft_wrap_38 (by decide) w1 w2) (fun hc => ?_) (fun hc => ?_)
      · rw [if_pos hc] at hf
        refine zg_1 (pc' := 43) (fun _ _ _ _ _ hl w => lv_aload_n hx hb zd_Draft_wrap_42 rfl (lv_at hl 1 rfl) w) ?_
        obtain ⟨a_2, h_3, hf⟩ := zx_p hf
        refine zg_get (pc' := 46) (ci := 1) hx hb htT zi_Draft hown hK h_1 rfl rfl 0 (by decide) (htT _ zt_91) (fun _ h9 => h9) (zx_hv h_3) zd_Draft_wrap_43 rfl ?_
        refine zg_1 (pc' := 47) (fun _ _ _ _ _ hl w => lv_iload_n hx hb zd_Draft_wrap_46 rfl (lv_at hl 2 rfl) w) ?_
        refine zg_1 (pc' := 48) (fun _ _ _ _ _ hl w => lv_aload_n hx hb zd_Draft_wrap_47 rfl (lv_at hl 1 rfl) w) ?_
        obtain ⟨a_4, h_5, hf⟩ := zx_p hf
        refine zg_get (pc' := 51) (ci := 1) hx hb htT zi_Draft hown hK h_1 rfl rfl 0 (by decide) (htT _ zt_91) (fun _ h9 => h9) (zx_hv h_5) zd_Draft_wrap_48 rfl ?_
        refine zg_1 (pc' := 52) (fun _ _ _ _ _ hl w => lv_iload_n hx hb zd_Draft_wrap_51 rfl (lv_at hl 2 rfl) w) ?_
        refine zg_1 (pc' := 54) (fun _ _ _ _ _ hl w => lv_iload hx hb zd_Draft_wrap_52 (lv_at hl 0 rfl) w) ?_
        refine zg_1 (pc' := 55) (fun _ _ _ _ _ hl w => lv_iadd hx hb zd_Draft_wrap_54 w) ?_
        refine zg_1 (pc' := 56) (fun _ _ _ _ _ hl w => lv_iload_n hx hb zd_Draft_wrap_55 rfl (lv_at hl 4 rfl) w) ?_
        obtain ⟨h_7, hf⟩ := zx_ck hf
        obtain ⟨s_6, e_s_6, hf⟩ := zx_l hf
        refine zg_copy (pc' := 59) hx hb hml hown (htT _ zt_432) (htT _ zt_434) (htT _ zt_433) (htT _ zt_74) hK h_7 e_s_6 (Nat.le_trans (Nat.le_of_ble_eq_true rfl) hF.1) (Nat.le_trans (Nat.le_of_ble_eq_true rfl) hF.2) zd_Draft_wrap_56 rfl ?_
        refine zg_1 (pc' := 60) (fun _ _ _ _ _ hl w => lv_aload_n hx hb zd_Draft_wrap_59 rfl (lv_at hl 1 rfl) w) ?_
        refine zg_1 (pc' := 61) (fun _ _ _ _ _ hl w => lv_dup hx hb zd_Draft_wrap_60 rfl w) ?_
        obtain ⟨h_8, hf⟩ := zx_ck hf
        refine zg_get (pc' := 64) (ci := 1) hx hb htT zi_Draft hown hK h_8 rfl rfl 1 (by decide) (htT _ zt_94) (fun _ h9 => h9) rfl zd_Draft_wrap_61 rfl ?_
        refine zg_1 (pc' := 66) (fun _ _ _ _ _ hl w => lv_iload hx hb zd_Draft_wrap_64 (lv_at hl 0 rfl) w) ?_
        refine zg_1 (pc' := 67) (fun _ _ _ _ _ hl w => lv_iadd hx hb zd_Draft_wrap_66 w) ?_
        obtain ⟨s_9, e_s_9, hf⟩ := zx_l hf
        refine zg_putI (pc' := 70) (ci := 1) (ty := .int) hx hb htT zi_Draft zy_Draft zo_Draft zj_Draft hown hK h_8 rfl rfl 1 (by decide) (htT _ zt_94) (fun _ h9 => h9) (Or.inl rfl) (by decide +kernel) rfl rfl rfl e_s_9 zd_Draft_wrap_67 rfl ?_
        refine zg_1 (pc' := 71) (fun _ _ _ _ _ hl w => lv_aload_n hx hb zd_Draft_wrap_70 rfl (lv_at hl 1 rfl) w) ?_
        obtain ⟨a_10, h_11, hf⟩ := zx_p hf
        refine zg_get (pc' := 74) (ci := 1) hx hb htT zi_Draft hown hK (zx_oI e_s_9 h_8) rfl rfl 0 (by decide) (htT _ zt_91) (fun _ h9 => h9) (zx_hv h_11) zd_Draft_wrap_71 rfl ?_
        refine zg_1 (pc' := 75) (fun _ _ _ _ _ hl w => lv_iload_n hx hb zd_Draft_wrap_74 rfl (lv_at hl 2 rfl) w) ?_
        refine zg_1 (pc' := 76) (fun _ _ _ _ _ hl w => lv_iload_n hx hb zd_Draft_wrap_75 rfl (lv_at hl 3 rfl) w) ?_
        obtain ⟨h_13, hf⟩ := zx_ck hf
        obtain ⟨s_12, e_s_12, hf⟩ := zx_l hf
        refine zg_iast (pc' := 77) hx hb hK h_13 e_s_12 zd_Draft_wrap_76 rfl ?_
        refine zg_1 (pc' := 79) (fun _ _ _ _ _ hl w => lv_iload hx hb zd_Draft_wrap_77 (lv_at hl 0 rfl) w) ?_
        refine zg_1 (pc' := 80) (fun _ _ _ _ _ hl w => lv_iconst (v := (3 : Int32)) hx hb zd_Draft_wrap_79 (by decide) w) ?_
        refine zg_2 (pc1 := 94) (pc2 := 83) (Classical.em _).symm (fun _ _ _ _ _ w1 w2 => lv_icmp_ne hx hb zd_Draft_wrap_80 (by decide) w1 w2) (fun hc => ?_) (fun hc => ?_)
        · rw [if_neg hc] at hf
          refine zg_v [1, 2, 4, 0] rfl ?_
          exact zw_Draft_wrap_94 X hR hF hret n s_12 a0 i1 i3 it0 hf
        · rw [if_pos hc] at hf
          refine zg_1 (pc' := 84) (fun _ _ _ _ _ hl w => lv_aload_n hx hb zd_Draft_wrap_83 rfl (lv_at hl 1 rfl) w) ?_
          obtain ⟨h_14, hf⟩ := zx_ck hf
          obtain ⟨a_15, h_16, hf⟩ := zx_p hf
          refine zg_get (pc' := 87) (ci := 1) hx hb htT zi_Draft hown hK h_14 rfl rfl 0 (by decide) (htT _ zt_91) (fun _ h9 => h9) (zx_hv h_16) zd_Draft_wrap_84 rfl ?_
          refine zg_1 (pc' := 88) (fun _ _ _ _ _ hl w => lv_iload_n hx hb zd_Draft_wrap_87 rfl (lv_at hl 2 rfl) w) ?_
          refine zg_1 (pc' := 89) (fun _ _ _ _ _ hl w => lv_iconst (v := (1 : Int32)) hx hb zd_Draft_wrap_88 (by decide) w) ?_
          refine zg_1 (pc' := 90) (fun _ _ _ _ _ hl w => lv_iadd hx hb zd_Draft_wrap_89 w) ?_
          refine zg_1 (pc' := 93) (fun _ _ _ _ _ hl w => lv_sipush (v := (129 : Int32)) hx hb zd_Draft_wrap_90 (by decide) w) ?_
          obtain ⟨h_18, hf⟩ := zx_ck hf
          obtain ⟨s_17, e_s_17, hf⟩ := zx_l hf
          refine zg_iast (pc' := 94) hx hb hK h_18 e_s_17 zd_Draft_wrap_93 rfl ?_
          refine zg_v [1, 2, 4, 0] rfl ?_
          exact zw_Draft_wrap_94 X hR hF hret n s_17 a0 i1 i3 it0 hf
      · rw [if_neg hc] at hf
        obtain rfl := zx_r1 hf
        exact hret _ _ zd_Draft_wrap_41
set_option maxHeartbeats 4000000 in
theorem zc_Draft_wrap (l : Launch) (h0 : Nat) (D : va_G) (dA : Nat → ClassId) (tb : Nat → Nat) (n : Nat) {s0 : zh_S} {a0 : Nat} {i1 : Int32} {i2 : Int32} {z : zh_S} (hf : zf_Draft_wrap n s0 a0 i1 i2 = some z) : zc_M l zn_Draft_wrap zs_Draft_wrap 1 40 h0 D dA tb [.ref (h0 + a0), .int i1, .int i2] s0 none z := by
  rw [zf_Draft_wrap] at hf
  refine zc_of (cc := ze_Draft_wrap) (maxL := 5) (ret := none) (lv := [(0, .ref (h0 + a0)), (1, .int i1), (2, .int i2)]) (by decide) rfl (Nat.le_of_ble_eq_true rfl) rfl ?_
  intro p e s m args below meth c X hnm
  obtain ⟨hx, hb, hml, hown, htT, hrt, hlk, x00, hIn⟩ := id X
  have hK := hIn.2.1
  have hT := hIn.2.2.1
  have hNe := hIn.2.2.2
  have hR : zg_R { frames := 1, cells := zh_N z - zh_N s0, slots := zh_M z - zh_M s0, locals := 40 } (zh_N s0) (zh_M s0) z := ⟨by show zh_N z ≤ zh_N s0 + (zh_N z - zh_N s0); omega, by show zh_M z ≤ zh_M s0 + (zh_M z - zh_M s0); omega⟩
  have hF : 1 ≤ ({ frames := 1, cells := zh_N z - zh_N s0, slots := zh_M z - zh_M s0, locals := 40 } : Room).frames ∧ 40 ≤ ({ frames := 1, cells := zh_N z - zh_N s0, slots := zh_M z - zh_M s0, locals := 40 } : Room).locals := ⟨Nat.le_refl _, Nat.le_refl _⟩
  have hret := fun (pc : Nat) (lv : List (Nat × Value)) (hd : decode ze_Draft_wrap pc = .ok (.return_, 1)) => zg_vret (R := { frames := 1, cells := zh_N z - zh_N s0, slots := zh_M z - zh_M s0, locals := 40 }) (l := l) (e := e) (below := below) (c0 := zh_N s0) (s0 := zh_M s0) (z := z) (lv := lv) X hd
  refine zg_1 (pc' := 1) (fun _ _ _ _ _ hl w => lv_aload_n hx hb zd_Draft_wrap_0 rfl (lv_at hl 0 rfl) w) ?_
  obtain ⟨h_1, hf⟩ := zx_ck hf
  refine zg_get (pc' := 4) (ci := 1) hx hb htT zi_Draft hown hK h_1 rfl rfl 1 (by decide) (htT _ zt_94) (fun _ h9 => h9) rfl zd_Draft_wrap_1 rfl ?_
  refine zg_1 (pc' := 5) (fun _ _ _ _ _ hl w => lv_iload_n hx hb zd_Draft_wrap_4 rfl (lv_at hl 1 rfl) w) ?_
  refine zg_1 (pc' := 6) (fun _ _ _ _ _ hl w => lv_isub hx hb zd_Draft_wrap_5 w) ?_
  obtain ⟨i_2, e_i_2, hf⟩ := zx_l hf
  refine zg_ti e_i_2 ?_
  refine zg_s (pc' := 7) (lv' := [(3, .int i_2), (0, .ref (h0 + a0)), (1, .int i1), (2, .int i2)]) (fun _ _ _ _ _ hl w => lv_istore_n hx hb zd_Draft_wrap_6 rfl hl (by decide) rfl w) ?_
  refine zg_1 (pc' := 8) (fun _ _ _ _ _ hl w => lv_iload_n hx hb zd_Draft_wrap_7 rfl (lv_at hl 0 rfl) w) ?_
  refine zg_1 (pc' := 10) (fun _ _ _ _ _ hl w => lv_bipush (v := (127 : Int32)) hx hb zd_Draft_wrap_8 (by decide) w) ?_
  refine zg_2 (pc1 := 17) (pc2 := 13) (Classical.em _) (fun _ _ _ _ _ w1 w2 => lv_icmp_le hx hb zd_Draft_wrap_10 (by decide) w1 w2) (fun hc => ?_) (fun hc => ?_)
  · rw [if_pos hc] at hf
    refine zg_1 (pc' := 18) (fun _ _ _ _ _ hl w => lv_iconst (v := (2 : Int32)) hx hb zd_Draft_wrap_17 (by decide) w) ?_
    refine zg_v [1, 2, 3, 0] rfl ?_
    exact zw_Draft_wrap_18 X hR hF hret n s0 a0 i1 i2 i_2 (2 : Int32) hf
  · rw [if_neg hc] at hf
    refine zg_1 (pc' := 14) (fun _ _ _ _ _ hl w => lv_iconst (v := (3 : Int32)) hx hb zd_Draft_wrap_13 (by decide) w) ?_
    refine zg_1 (pc' := 18) (fun _ _ _ _ _ hl w => lv_goto hx hb zd_Draft_wrap_14 (by decide) w) ?_
    refine zg_v [1, 2, 3, 0] rfl ?_
    exact zw_Draft_wrap_18 X hR hF hret n s0 a0 i1 i2 i_2 (3 : Int32) hf
set_option maxHeartbeats 4000000 in
theorem zc_Tool_finish (l : Launch) (h0 : Nat) (D : va_G) (dA : Nat → ClassId) (tb : Nat → Nat) (n : Nat) {s0 : zh_S} {a0 : Nat} {a1 : Nat} {r : Int32} {z : zh_S} (hf : zf_Tool_finish n s0 a0 a1 = some (r, z)) : zc_M l zn_Tool_finish zs_Tool_finish 4 116 h0 D dA tb [.ref (h0 + a0), .ref (h0 + a1)] s0 (some (.int r)) z := by
  rw [zf_Tool_finish] at hf
  refine zc_of (cc := ze_Tool_finish) (maxL := 3) (ret := (some .int)) (lv := [(0, .ref (h0 + a0)), (1, .ref (h0 + a1))]) (by decide) rfl (Nat.le_of_ble_eq_true rfl) rfl ?_
  intro p e s m args below meth c X hnm
  obtain ⟨hx, hb, hml, hown, htT, hrt, hlk, x00, hIn⟩ := id X
  have hK := hIn.2.1
  have hT := hIn.2.2.1
  have hNe := hIn.2.2.2
  have hR : zg_R { frames := 4, cells := zh_N z - zh_N s0, slots := zh_M z - zh_M s0, locals := 116 } (zh_N s0) (zh_M s0) z := ⟨by show zh_N z ≤ zh_N s0 + (zh_N z - zh_N s0); omega, by show zh_M z ≤ zh_M s0 + (zh_M z - zh_M s0); omega⟩
  have hF : 4 ≤ ({ frames := 4, cells := zh_N z - zh_N s0, slots := zh_M z - zh_M s0, locals := 116 } : Room).frames ∧ 116 ≤ ({ frames := 4, cells := zh_N z - zh_N s0, slots := zh_M z - zh_M s0, locals := 116 } : Room).locals := ⟨Nat.le_refl _, Nat.le_refl _⟩
  have hret := fun (pc : Nat) (lv : List (Nat × Value)) (hd : decode ze_Tool_finish pc = .ok (.ireturn, 1)) => zg_iret (R := { frames := 4, cells := zh_N z - zh_N s0, slots := zh_M z - zh_M s0, locals := 116 }) (l := l) (e := e) (below := below) (c0 := zh_N s0) (s0 := zh_M s0) (z := z) (lv := lv) (v := r) X rfl hd
  refine zg_1 (pc' := 1) (fun _ _ _ _ _ hl w => lv_aload_n hx hb zd_Tool_finish_0 rfl (lv_at hl 1 rfl) w) ?_
  refine zg_1 (pc' := 2) (fun _ _ _ _ _ hl w => lv_iconst (v := (0 : Int32)) hx hb zd_Tool_finish_1 (by decide) w) ?_
  refine zg_1 (pc' := 4) (fun _ _ _ _ _ hl w => lv_bipush (v := (48 : Int32)) hx hb zd_Tool_finish_2 (by decide) w) ?_
  obtain ⟨h_2, hf⟩ := zx_ck hf
  obtain ⟨s_1, hq, hf⟩ := zx_p hf
  refine zg_call (pc' := 7) (y := s_1) (rv := none) (rest := []) X hR (zm_Draft_wrap hq) (fun H locs ls k j hsz hI hU hk => va_runV (As := [.int (0 : Int32), .int (48 : Int32)]) (rest := []) ⟨hx, hb, hml, hown, htT⟩ (zc_Draft_wrap l h0 D dA tb n hq) (cwV 2 htT (zw_gV zt_428 zt_429 zt_430 zt_65 zt_431) rfl rfl rfl (by decide +kernel) ⟨Nat.le_trans (Nat.le_of_ble_eq_true rfl) hF.1, Nat.le_trans (Nat.le_of_ble_eq_true rfl) hF.2⟩) ⟨(zg_pre hU).1, zg_recv hK hI h_2 rfl, (zg_pre hU).2⟩ rfl rfl hsz rfl (lv_room (Nat.le_of_ble_eq_true rfl)) zd_Tool_finish_4 hk) rfl ?_
  refine zg_1 (pc' := 8) (fun _ _ _ _ _ hl w => lv_aload_n hx hb zd_Tool_finish_7 rfl (lv_at hl 1 rfl) w) ?_
  refine zg_1 (pc' := 9) (fun _ _ _ _ _ hl w => lv_iconst (v := (0 : Int32)) hx hb zd_Tool_finish_8 (by decide) w) ?_
  refine zg_1 (pc' := 10) (fun _ _ _ _ _ hl w => lv_aload_n hx hb zd_Tool_finish_9 rfl (lv_at hl 1 rfl) w) ?_
  obtain ⟨h_3, hf⟩ := zx_ck hf
  refine zg_get (pc' := 13) (ci := 1) hx hb htT zi_Draft hown hK h_3 rfl rfl 1 (by decide) (htT _ zt_97) (fun _ h9 => h9) rfl zd_Tool_finish_10 rfl ?_
  obtain ⟨i_4, hq, hf⟩ := zx_p hf
  refine zg_call (pc' := 16) (y := s_1) (rv := (some (.int i_4))) (rest := []) X hR ⟨Nat.le_refl _, Nat.le_refl _⟩ (fun H locs ls k j hsz hI hU hk => va_runV (As := [.int (0 : Int32), .int (zh_I s_1 a1 1)]) (rest := []) ⟨hx, hb, hml, hown, htT⟩ (zc_Draft_hash l h0 D dA tb n hq) (cwV 2 htT (zw_gV zt_452 zt_453 zt_454 zt_65 zt_455) rfl rfl rfl (by decide +kernel) ⟨Nat.le_trans (Nat.le_of_ble_eq_true rfl) hF.1, Nat.le_trans (Nat.le_of_ble_eq_true rfl) hF.2⟩) ⟨(zg_pre hU).1, zg_recv hK hI h_3 rfl, (zg_pre hU).2⟩ rfl rfl hsz rfl (lv_room (Nat.le_of_ble_eq_true rfl)) zd_Tool_finish_13 hk) rfl ?_
  refine zg_s (pc' := 17) (lv' := [(2, .int i_4), (0, .ref (h0 + a0)), (1, .ref (h0 + a1))]) (fun _ _ _ _ _ hl w => lv_istore_n hx hb zd_Tool_finish_16 rfl hl (by decide) rfl w) ?_
  refine zg_1 (pc' := 18) (fun _ _ _ _ _ hl w => lv_aload_n hx hb zd_Tool_finish_17 rfl (lv_at hl 2 rfl) w) ?_
  refine zg_1 (pc' := 19) (fun _ _ _ _ _ hl w => lv_aload_n hx hb zd_Tool_finish_18 rfl (lv_at hl 1 rfl) w) ?_
  obtain ⟨h_5, hf⟩ := zx_ck hf
  obtain ⟨a_6, h_7, hf⟩ := zx_p hf
  refine zg_get (pc' := 22) (ci := 6) hx hb htT zi_Tool hown hK h_5 rfl rfl 0 (by decide) (htT _ zt_112) (fun _ h9 => h9) (zx_hv h_7) zd_Tool_finish_19 rfl ?_
  refine zg_1 (pc' := 24) (fun _ _ _ _ _ hl w => lv_bipush (v := (12 : Int32)) hx hb zd_Tool_finish_22 (by decide) w) ?_
  obtain ⟨h_8, hf⟩ := zx_ck hf
  refine zg_lald (pc' := 25) hx hb hK h_8 zd_Tool_finish_24 rfl ?_
  refine zg_1 (pc' := 26) (fun _ _ _ _ _ hl w => lv_l2i (v := (zh_J s_1 a_6 ((12 : Int32).toNatClampNeg)).toInt32) hx hb zd_Tool_finish_25 rfl w) ?_
  refine zg_1 (pc' := 27) (fun _ _ _ _ _ hl w => lv_iload_n hx hb zd_Tool_finish_26 rfl (lv_at hl 0 rfl) w) ?_
  obtain ⟨j_9, hq, hf⟩ := zx_p hf
  refine zg_call (pc' := 30) (y := s_1) (rv := (some (.long j_9))) (rest := [.ref (h0 + a1)]) X hR ⟨Nat.le_refl _, Nat.le_refl _⟩ (fun H locs ls k j hsz hI hU hk => va_runS (As := [.int ((zh_J s_1 a_6 ((12 : Int32).toNatClampNeg)).toInt32), .int i_4]) (rest := [.ref (h0 + a1)]) ⟨hx, hb, hml, hown, htT⟩ (zc_Numbers_signature l h0 D dA tb n hq) (va_cwS 2 htT (zw_gS zt_458 zt_459 zt_73 zt_460) rfl rfl rfl (by decide +kernel) ⟨Nat.le_trans (Nat.le_of_ble_eq_true rfl) hF.1, Nat.le_trans (Nat.le_of_ble_eq_true rfl) hF.2⟩) (zg_pre hU) rfl rfl hsz rfl (lv_room (Nat.le_of_ble_eq_true rfl)) zd_Tool_finish_27 hk) rfl ?_
  obtain ⟨s_10, hq, hf⟩ := zx_p hf
  refine zg_call (pc' := 33) (y := s_10) (rv := none) (rest := []) X hR (zm_Draft_appendInteger hq) (fun H locs ls k j hsz hI hU hk => va_runV (As := [.long j_9]) (rest := []) ⟨hx, hb, hml, hown, htT⟩ (zc_Draft_appendInteger l h0 D dA tb n hq) (cwV 1 htT (zw_gV zt_398 zt_399 zt_400 zt_65 zt_401) rfl rfl rfl (by decide +kernel) ⟨Nat.le_trans (Nat.le_of_ble_eq_true rfl) hF.1, Nat.le_trans (Nat.le_of_ble_eq_true rfl) hF.2⟩) ⟨(zg_pre hU).1, zg_recv hK hI h_3 rfl, (zg_pre hU).2⟩ rfl rfl hsz rfl (lv_room (Nat.le_of_ble_eq_true rfl)) zd_Tool_finish_30 hk) rfl ?_
  refine zg_1 (pc' := 34) (fun _ _ _ _ _ hl w => lv_aload_n hx hb zd_Tool_finish_33 rfl (lv_at hl 2 rfl) w) ?_
  refine zg_1 (pc' := 35) (fun _ _ _ _ _ hl w => lv_iconst (v := (0 : Int32)) hx hb zd_Tool_finish_34 (by decide) w) ?_
  refine zg_1 (pc' := 37) (fun _ _ _ _ _ hl w => lv_bipush (v := (48 : Int32)) hx hb zd_Tool_finish_35 (by decide) w) ?_
  obtain ⟨h_12, hf⟩ := zx_ck hf
  obtain ⟨s_11, hq, hf⟩ := zx_p hf
  refine zg_call (pc' := 40) (y := s_11) (rv := none) (rest := []) X hR (zm_Draft_wrap hq) (fun H locs ls k j hsz hI hU hk => va_runV (As := [.int (0 : Int32), .int (48 : Int32)]) (rest := []) ⟨hx, hb, hml, hown, htT⟩ (zc_Draft_wrap l h0 D dA tb n hq) (cwV 2 htT (zw_gV zt_428 zt_429 zt_430 zt_65 zt_431) rfl rfl rfl (by decide +kernel) ⟨Nat.le_trans (Nat.le_of_ble_eq_true rfl) hF.1, Nat.le_trans (Nat.le_of_ble_eq_true rfl) hF.2⟩) ⟨(zg_pre hU).1, zg_recv hK hI h_12 rfl, (zg_pre hU).2⟩ rfl rfl hsz rfl (lv_room (Nat.le_of_ble_eq_true rfl)) zd_Tool_finish_37 hk) rfl ?_
  refine zg_1 (pc' := 41) (fun _ _ _ _ _ hl w => lv_aload_n hx hb zd_Tool_finish_40 rfl (lv_at hl 2 rfl) w) ?_
  obtain ⟨h_13, hf⟩ := zx_ck hf
  refine zg_get (pc' := 44) (ci := 1) hx hb htT zi_Draft hown hK h_13 rfl rfl 1 (by decide) (htT _ zt_97) (fun _ h9 => h9) rfl zd_Tool_finish_41 rfl ?_
  obtain ⟨rfl, rfl⟩ := zx_r2 hf
  exact hret _ _ zd_Tool_finish_44
set_option maxHeartbeats 4000000 in
theorem zw_Tool_writeList_43 {p : Program} {l : Launch} {e : Env} {R : Room} {s : State} {m : MethodId} {args : Array Value} {below : List Frame} {meth : Method} {c : Code} {Q : State → Prop} {h0 : Nat} {D : va_G} {dA : Nat → ClassId} {tb : Nat → Nat} {c0 k0 : Nat} {z : zh_S} {r : Int32} (X : zg_X p s m args meth c ze_Tool_writeList 5 zr_Tool (some .int) h0 D dA tb) (hR : zg_R R c0 k0 z) (hF : 5 ≤ R.frames ∧ 138 ≤ R.locals) (hret : ∀ (pc : Nat) (lv : List (Nat × Value)), decode ze_Tool_writeList pc = .ok (.ireturn, 1) → zg_G p l e R s m args below meth c Q h0 D dA 5 c0 k0 z z pc lv [.int r]) (n : Nat) (k : Nat) : ∀ (s0 : zh_S) (a0 : Nat) (a1 : Nat) (i2 : Int32) (i3 : Int32), zl_Tool_writeList_43 n k s0 a0 a1 i2 i3 = some (r, z) → zg_G p l e R s m args below meth c Q h0 D dA 5 c0 k0 z s0 43 [(0, .ref (h0 + a0)), (1, .ref (h0 + a1)), (2, .int i2), (3, .int i3)] [] := by
  obtain ⟨hx, hb, hml, hown, htT, hrt, hlk, x00, hIn⟩ := id X
  have hK := hIn.2.1
  have hT := hIn.2.2.1
  have hNe := hIn.2.2.2
  induction k with
  | zero => intro s0 a0 a1 i2 i3 hf; cases hf
  | succ k ih =>
    intro s0 a0 a1 i2 i3 hf
    rw [zl_Tool_writeList_43] at hf
    refine zg_1 (pc' := 44) (fun _ _ _ _ _ hl w => lv_iload_n hx hb zd_Tool_writeList_43 rfl (lv_at hl 3 rfl) w) ?_
    refine zg_1 (pc' := 45) (fun _ _ _ _ _ hl w => lv_aload_n hx hb zd_Tool_writeList_44 rfl (lv_at hl 0 rfl) w) ?_
    obtain ⟨h_1, hf⟩ := zx_ck hf
    refine zg_get (pc' := 48) (ci := 6) hx hb htT zi_Tool hown hK h_1 rfl rfl 3 (by decide) (htT _ zt_115) (fun _ h9 => h9) rfl zd_Tool_writeList_45 rfl ?_
    refine zg_2 (pc1 := 91) (pc2 := 51) (Classical.em _) (fun _ _ _ _ _ w1 w2 => lv_icmp_ge hx hb zd_Tool_writeList_48 (by decide) w1 w2) (fun hc => ?_) (fun hc => ?_)
    · rw [if_pos hc] at hf
      refine zg_1 (pc' := 92) (fun _ _ _ _ _ hl w => lv_aload_n hx hb zd_Tool_writeList_91 rfl (lv_at hl 1 rfl) w) ?_
      refine zg_1 (pc' := 93) (fun _ _ _ _ _ hl w => lv_iload_n hx hb zd_Tool_writeList_92 rfl (lv_at hl 2 rfl) w) ?_
      refine zg_1 (pc' := 95) (fun _ _ _ _ _ hl w => lv_bipush (v := (48 : Int32)) hx hb zd_Tool_writeList_93 (by decide) w) ?_
      obtain ⟨h_3, hf⟩ := zx_ck hf
      obtain ⟨s_2, hq, hf⟩ := zx_p hf
      refine zg_call (pc' := 98) (y := s_2) (rv := none) (rest := []) X hR (zm_Draft_wrap hq) (fun H locs ls k j hsz hI hU hk => va_runV (As := [.int i2, .int (48 : Int32)]) (rest := []) ⟨hx, hb, hml, hown, htT⟩ (zc_Draft_wrap l h0 D dA tb n hq) (cwV 2 htT (zw_gV zt_428 zt_429 zt_430 zt_65 zt_431) rfl rfl rfl (by decide +kernel) ⟨Nat.le_trans (Nat.le_of_ble_eq_true rfl) hF.1, Nat.le_trans (Nat.le_of_ble_eq_true rfl) hF.2⟩) ⟨(zg_pre hU).1, zg_recv hK hI h_3 rfl, (zg_pre hU).2⟩ rfl rfl hsz rfl (lv_room (Nat.le_of_ble_eq_true rfl)) zd_Tool_writeList_95 hk) rfl ?_
      refine zg_1 (pc' := 99) (fun _ _ _ _ _ hl w => lv_aload_n hx hb zd_Tool_writeList_98 rfl (lv_at hl 0 rfl) w) ?_
      refine zg_1 (pc' := 100) (fun _ _ _ _ _ hl w => lv_aload_n hx hb zd_Tool_writeList_99 rfl (lv_at hl 1 rfl) w) ?_
      obtain ⟨h_5, hf⟩ := zx_ck hf
      obtain ⟨i_6, s_4, hq, hf⟩ := zx_b hf
      refine zg_call (pc' := 103) (y := s_4) (rv := (some (.int i_6))) (rest := []) X hR (zm_Tool_finish hq) (fun H locs ls k j hsz hI hU hk => va_runV (As := [.ref (h0 + a1)]) (rest := []) ⟨hx, hb, hml, hown, htT⟩ (zc_Tool_finish l h0 D dA tb n hq) (cwV 1 htT (zw_gV zt_448 zt_450 zt_5 zt_66 zt_451) rfl rfl rfl (by decide +kernel) ⟨Nat.le_trans (Nat.le_of_ble_eq_true rfl) hF.1, Nat.le_trans (Nat.le_of_ble_eq_true rfl) hF.2⟩) ⟨(zg_pre hU).1, zg_recv hK hI h_5 rfl, (zg_pre hU).2⟩ rfl rfl hsz rfl (lv_room (Nat.le_of_ble_eq_true rfl)) zd_Tool_writeList_100 hk) rfl ?_
      obtain ⟨rfl, rfl⟩ := zx_r2 hf
      exact hret _ _ zd_Tool_writeList_103
    · rw [if_neg hc] at hf
      refine zg_1 (pc' := 52) (fun _ _ _ _ _ hl w => lv_aload_n hx hb zd_Tool_writeList_51 rfl (lv_at hl 1 rfl) w) ?_
      obtain ⟨h_7, hf⟩ := zx_ck hf
      refine zg_get (pc' := 55) (ci := 1) hx hb htT zi_Draft hown hK h_7 rfl rfl 1 (by decide) (htT _ zt_97) (fun _ h9 => h9) rfl zd_Tool_writeList_52 rfl ?_
      obtain ⟨i_8, e_i_8, hf⟩ := zx_l hf
      refine zg_ti e_i_8 ?_
      refine zg_s (pc' := 57) (lv' := [(4, .int i_8), (0, .ref (h0 + a0)), (1, .ref (h0 + a1)), (2, .int i2), (3, .int i3)]) (fun _ _ _ _ _ hl w => lv_istore hx hb zd_Tool_writeList_55 hl (by decide) rfl w) ?_
      refine zg_1 (pc' := 58) (fun _ _ _ _ _ hl w => lv_aload_n hx hb zd_Tool_writeList_57 rfl (lv_at hl 2 rfl) w) ?_
      refine zg_1 (pc' := 59) (fun _ _ _ _ _ hl w => lv_aload_n hx hb zd_Tool_writeList_58 rfl (lv_at hl 1 rfl) w) ?_
      obtain ⟨a_9, h_10, hf⟩ := zx_p hf
      refine zg_get (pc' := 62) (ci := 6) hx hb htT zi_Tool hown hK h_1 rfl rfl 1 (by decide) (htT _ zt_113) (fun _ h9 => h9) (zx_hv h_10) zd_Tool_writeList_59 rfl ?_
      refine zg_1 (pc' := 63) (fun _ _ _ _ _ hl w => lv_iload_n hx hb zd_Tool_writeList_62 rfl (lv_at hl 4 rfl) w) ?_
      obtain ⟨h_11, hf⟩ := zx_ck hf
      refine zg_lald (pc' := 64) hx hb hK h_11 zd_Tool_writeList_63 rfl ?_
      obtain ⟨s_12, hq, hf⟩ := zx_p hf
      refine zg_call (pc' := 67) (y := s_12) (rv := none) (rest := []) X hR (zm_Draft_appendInteger hq) (fun H locs ls k j hsz hI hU hk => va_runV (As := [.long (zh_J s0 a_9 (i3.toNatClampNeg))]) (rest := []) ⟨hx, hb, hml, hown, htT⟩ (zc_Draft_appendInteger l h0 D dA tb n hq) (cwV 1 htT (zw_gV zt_398 zt_399 zt_400 zt_65 zt_401) rfl rfl rfl (by decide +kernel) ⟨Nat.le_trans (Nat.le_of_ble_eq_true rfl) hF.1, Nat.le_trans (Nat.le_of_ble_eq_true rfl) hF.2⟩) ⟨(zg_pre hU).1, zg_recv hK hI h_7 rfl, (zg_pre hU).2⟩ rfl rfl hsz rfl (lv_room (Nat.le_of_ble_eq_true rfl)) zd_Tool_writeList_64 hk) rfl ?_
      refine zg_1 (pc' := 68) (fun _ _ _ _ _ hl w => lv_aload_n hx hb zd_Tool_writeList_67 rfl (lv_at hl 2 rfl) w) ?_
      refine zg_1 (pc' := 69) (fun _ _ _ _ _ hl w => lv_aload_n hx hb zd_Tool_writeList_68 rfl (lv_at hl 1 rfl) w) ?_
      obtain ⟨h_13, hf⟩ := zx_ck hf
      obtain ⟨a_14, h_15, hf⟩ := zx_p hf
      refine zg_get (pc' := 72) (ci := 6) hx hb htT zi_Tool hown hK h_13 rfl rfl 2 (by decide) (htT _ zt_114) (fun _ h9 => h9) (zx_hv h_15) zd_Tool_writeList_69 rfl ?_
      refine zg_1 (pc' := 73) (fun _ _ _ _ _ hl w => lv_iload_n hx hb zd_Tool_writeList_72 rfl (lv_at hl 4 rfl) w) ?_
      obtain ⟨h_16, hf⟩ := zx_ck hf
      refine zg_lald (pc' := 74) hx hb hK h_16 zd_Tool_writeList_73 rfl ?_
      obtain ⟨h_18, hf⟩ := zx_ck hf
      obtain ⟨s_17, hq, hf⟩ := zx_p hf
      refine zg_call (pc' := 77) (y := s_17) (rv := none) (rest := []) X hR (zm_Draft_appendInteger hq) (fun H locs ls k j hsz hI hU hk => va_runV (As := [.long (zh_J s_12 a_14 (i3.toNatClampNeg))]) (rest := []) ⟨hx, hb, hml, hown, htT⟩ (zc_Draft_appendInteger l h0 D dA tb n hq) (cwV 1 htT (zw_gV zt_398 zt_399 zt_400 zt_65 zt_401) rfl rfl rfl (by decide +kernel) ⟨Nat.le_trans (Nat.le_of_ble_eq_true rfl) hF.1, Nat.le_trans (Nat.le_of_ble_eq_true rfl) hF.2⟩) ⟨(zg_pre hU).1, zg_recv hK hI h_18 rfl, (zg_pre hU).2⟩ rfl rfl hsz rfl (lv_room (Nat.le_of_ble_eq_true rfl)) zd_Tool_writeList_74 hk) rfl ?_
      refine zg_1 (pc' := 78) (fun _ _ _ _ _ hl w => lv_aload_n hx hb zd_Tool_writeList_77 rfl (lv_at hl 2 rfl) w) ?_
      refine zg_1 (pc' := 80) (fun _ _ _ _ _ hl w => lv_iload hx hb zd_Tool_writeList_78 (lv_at hl 0 rfl) w) ?_
      refine zg_1 (pc' := 82) (fun _ _ _ _ _ hl w => lv_bipush (v := (48 : Int32)) hx hb zd_Tool_writeList_80 (by decide) w) ?_
      obtain ⟨h_20, hf⟩ := zx_ck hf
      obtain ⟨s_19, hq, hf⟩ := zx_p hf
      refine zg_call (pc' := 85) (y := s_19) (rv := none) (rest := []) X hR (zm_Draft_wrap hq) (fun H locs ls k j hsz hI hU hk => va_runV (As := [.int i_8, .int (48 : Int32)]) (rest := []) ⟨hx, hb, hml, hown, htT⟩ (zc_Draft_wrap l h0 D dA tb n hq) (cwV 2 htT (zw_gV zt_428 zt_429 zt_430 zt_65 zt_431) rfl rfl rfl (by decide +kernel) ⟨Nat.le_trans (Nat.le_of_ble_eq_true rfl) hF.1, Nat.le_trans (Nat.le_of_ble_eq_true rfl) hF.2⟩) ⟨(zg_pre hU).1, zg_recv hK hI h_20 rfl, (zg_pre hU).2⟩ rfl rfl hsz rfl (lv_room (Nat.le_of_ble_eq_true rfl)) zd_Tool_writeList_82 hk) rfl ?_
      obtain ⟨i_21, e_i_21, hf⟩ := zx_l hf
      refine zg_s (pc' := 88) (lv' := [(3, .int i_21), (4, .int i_8), (0, .ref (h0 + a0)), (1, .ref (h0 + a1)), (2, .int i2)]) (fun _ _ _ _ _ hl w => lv_iinc (k := 4) (v := i_21) hx hb zd_Tool_writeList_85 hl rfl (by rw [e_i_21]; rfl) (by decide) rfl w) ?_
      refine zg_1 (pc' := 43) (fun _ _ _ _ _ hl w => lv_goto hx hb zd_Tool_writeList_88 (by decide) w) ?_
      refine zg_v [2, 3, 4, 0] rfl ?_
      exact ih s_19 a0 a1 i2 i_21 hf
set_option maxHeartbeats 4000000 in
theorem zc_Tool_writeList (l : Launch) (h0 : Nat) (D : va_G) (dA : Nat → ClassId) (tb : Nat → Nat) (n : Nat) {s0 : zh_S} {a0 : Nat} {a1 : Nat} {r : Int32} {z : zh_S} (hf : zf_Tool_writeList n s0 a0 a1 = some (r, z)) : zc_M l zn_Tool_writeList zs_Tool_writeList 5 138 h0 D dA tb [.ref (h0 + a0), .ref (h0 + a1)] s0 (some (.int r)) z := by
  rw [zf_Tool_writeList] at hf
  refine zc_of (cc := ze_Tool_writeList) (maxL := 5) (ret := (some .int)) (lv := [(0, .ref (h0 + a0)), (1, .ref (h0 + a1))]) (by decide) rfl (Nat.le_of_ble_eq_true rfl) rfl ?_
  intro p e s m args below meth c X hnm
  obtain ⟨hx, hb, hml, hown, htT, hrt, hlk, x00, hIn⟩ := id X
  have hK := hIn.2.1
  have hT := hIn.2.2.1
  have hNe := hIn.2.2.2
  have hR : zg_R { frames := 5, cells := zh_N z - zh_N s0, slots := zh_M z - zh_M s0, locals := 138 } (zh_N s0) (zh_M s0) z := ⟨by show zh_N z ≤ zh_N s0 + (zh_N z - zh_N s0); omega, by show zh_M z ≤ zh_M s0 + (zh_M z - zh_M s0); omega⟩
  have hF : 5 ≤ ({ frames := 5, cells := zh_N z - zh_N s0, slots := zh_M z - zh_M s0, locals := 138 } : Room).frames ∧ 138 ≤ ({ frames := 5, cells := zh_N z - zh_N s0, slots := zh_M z - zh_M s0, locals := 138 } : Room).locals := ⟨Nat.le_refl _, Nat.le_refl _⟩
  have hret := fun (pc : Nat) (lv : List (Nat × Value)) (hd : decode ze_Tool_writeList pc = .ok (.ireturn, 1)) => zg_iret (R := { frames := 5, cells := zh_N z - zh_N s0, slots := zh_M z - zh_M s0, locals := 138 }) (l := l) (e := e) (below := below) (c0 := zh_N s0) (s0 := zh_M s0) (z := z) (lv := lv) (v := r) X rfl hd
  refine zg_1 (pc' := 1) (fun _ _ _ _ _ hl w => lv_aload_n hx hb zd_Tool_writeList_0 rfl (lv_at hl 1 rfl) w) ?_
  obtain ⟨h_2, hf⟩ := zx_ck hf
  obtain ⟨s_1, hq, hf⟩ := zx_p hf
  refine zg_call (pc' := 4) (y := s_1) (rv := none) (rest := []) X hR (zm_Draft_empty hq) (fun H locs ls k j hsz hI hU hk => va_runV (As := []) (rest := []) ⟨hx, hb, hml, hown, htT⟩ (zc_Draft_empty l h0 D dA tb n hq) (cwV 0 htT (zw_gV zt_397 zt_343 zt_344 zt_65 zt_345) rfl rfl rfl (by decide +kernel) ⟨Nat.le_trans (Nat.le_of_ble_eq_true rfl) hF.1, Nat.le_trans (Nat.le_of_ble_eq_true rfl) hF.2⟩) ⟨(zg_pre hU).1, zg_recv hK hI h_2 rfl, (zg_pre hU).2⟩ rfl rfl hsz rfl (lv_room (Nat.le_of_ble_eq_true rfl)) zd_Tool_writeList_1 hk) rfl ?_
  refine zg_1 (pc' := 5) (fun _ _ _ _ _ hl w => lv_aload_n hx hb zd_Tool_writeList_4 rfl (lv_at hl 1 rfl) w) ?_
  refine zg_1 (pc' := 7) (fun _ _ _ _ _ hl w => lv_bipush (v := (19 : Int32)) hx hb zd_Tool_writeList_5 (by decide) w) ?_
  refine zg_1 (pc' := 8) (fun _ _ _ _ _ hl w => lv_aload_n hx hb zd_Tool_writeList_7 rfl (lv_at hl 0 rfl) w) ?_
  obtain ⟨h_3, hf⟩ := zx_ck hf
  obtain ⟨a_4, h_5, hf⟩ := zx_p hf
  refine zg_get (pc' := 11) (ci := 6) hx hb htT zi_Tool hown hK h_3 rfl rfl 0 (by decide) (htT _ zt_112) (fun _ h9 => h9) (zx_hv h_5) zd_Tool_writeList_8 rfl ?_
  refine zg_1 (pc' := 12) (fun _ _ _ _ _ hl w => lv_iconst (v := (1 : Int32)) hx hb zd_Tool_writeList_11 (by decide) w) ?_
  obtain ⟨h_6, hf⟩ := zx_ck hf
  refine zg_lald (pc' := 13) hx hb hK h_6 zd_Tool_writeList_12 rfl ?_
  obtain ⟨h_8, hf⟩ := zx_ck hf
  obtain ⟨s_7, hq, hf⟩ := zx_p hf
  refine zg_call (pc' := 16) (y := s_7) (rv := none) (rest := []) X hR (zm_Draft_appendName hq) (fun H locs ls k j hsz hI hU hk => va_runV (As := [.int (19 : Int32), .long (zh_J s_1 a_4 ((1 : Int32).toNatClampNeg))]) (rest := []) ⟨hx, hb, hml, hown, htT⟩ (zc_Draft_appendName l h0 D dA tb n hq) (cwV 2 htT (zw_gV zt_403 zt_404 zt_405 zt_65 zt_406) rfl rfl rfl (by decide +kernel) ⟨Nat.le_trans (Nat.le_of_ble_eq_true rfl) hF.1, Nat.le_trans (Nat.le_of_ble_eq_true rfl) hF.2⟩) ⟨(zg_pre hU).1, zg_recv hK hI h_8 rfl, (zg_pre hU).2⟩ rfl rfl hsz rfl (lv_room (Nat.le_of_ble_eq_true rfl)) zd_Tool_writeList_13 hk) rfl ?_
  refine zg_1 (pc' := 17) (fun _ _ _ _ _ hl w => lv_aload_n hx hb zd_Tool_writeList_16 rfl (lv_at hl 1 rfl) w) ?_
  refine zg_1 (pc' := 18) (fun _ _ _ _ _ hl w => lv_aload_n hx hb zd_Tool_writeList_17 rfl (lv_at hl 0 rfl) w) ?_
  obtain ⟨h_9, hf⟩ := zx_ck hf
  obtain ⟨a_10, h_11, hf⟩ := zx_p hf
  refine zg_get (pc' := 21) (ci := 6) hx hb htT zi_Tool hown hK h_9 rfl rfl 0 (by decide) (htT _ zt_112) (fun _ h9 => h9) (zx_hv h_11) zd_Tool_writeList_18 rfl ?_
  refine zg_1 (pc' := 22) (fun _ _ _ _ _ hl w => lv_iconst (v := (2 : Int32)) hx hb zd_Tool_writeList_21 (by decide) w) ?_
  obtain ⟨h_12, hf⟩ := zx_ck hf
  refine zg_lald (pc' := 23) hx hb hK h_12 zd_Tool_writeList_22 rfl ?_
  obtain ⟨h_14, hf⟩ := zx_ck hf
  obtain ⟨s_13, hq, hf⟩ := zx_p hf
  refine zg_call (pc' := 26) (y := s_13) (rv := none) (rest := []) X hR (zm_Draft_appendInteger hq) (fun H locs ls k j hsz hI hU hk => va_runV (As := [.long (zh_J s_7 a_10 ((2 : Int32).toNatClampNeg))]) (rest := []) ⟨hx, hb, hml, hown, htT⟩ (zc_Draft_appendInteger l h0 D dA tb n hq) (cwV 1 htT (zw_gV zt_398 zt_399 zt_400 zt_65 zt_401) rfl rfl rfl (by decide +kernel) ⟨Nat.le_trans (Nat.le_of_ble_eq_true rfl) hF.1, Nat.le_trans (Nat.le_of_ble_eq_true rfl) hF.2⟩) ⟨(zg_pre hU).1, zg_recv hK hI h_14 rfl, (zg_pre hU).2⟩ rfl rfl hsz rfl (lv_room (Nat.le_of_ble_eq_true rfl)) zd_Tool_writeList_23 hk) rfl ?_
  refine zg_1 (pc' := 27) (fun _ _ _ _ _ hl w => lv_aload_n hx hb zd_Tool_writeList_26 rfl (lv_at hl 1 rfl) w) ?_
  refine zg_1 (pc' := 28) (fun _ _ _ _ _ hl w => lv_aload_n hx hb zd_Tool_writeList_27 rfl (lv_at hl 0 rfl) w) ?_
  obtain ⟨h_15, hf⟩ := zx_ck hf
  obtain ⟨a_16, h_17, hf⟩ := zx_p hf
  refine zg_get (pc' := 31) (ci := 6) hx hb htT zi_Tool hown hK h_15 rfl rfl 0 (by decide) (htT _ zt_112) (fun _ h9 => h9) (zx_hv h_17) zd_Tool_writeList_28 rfl ?_
  refine zg_1 (pc' := 32) (fun _ _ _ _ _ hl w => lv_iconst (v := (3 : Int32)) hx hb zd_Tool_writeList_31 (by decide) w) ?_
  obtain ⟨h_18, hf⟩ := zx_ck hf
  refine zg_lald (pc' := 33) hx hb hK h_18 zd_Tool_writeList_32 rfl ?_
  obtain ⟨h_20, hf⟩ := zx_ck hf
  obtain ⟨s_19, hq, hf⟩ := zx_p hf
  refine zg_call (pc' := 36) (y := s_19) (rv := none) (rest := []) X hR (zm_Draft_appendInteger hq) (fun H locs ls k j hsz hI hU hk => va_runV (As := [.long (zh_J s_13 a_16 ((3 : Int32).toNatClampNeg))]) (rest := []) ⟨hx, hb, hml, hown, htT⟩ (zc_Draft_appendInteger l h0 D dA tb n hq) (cwV 1 htT (zw_gV zt_398 zt_399 zt_400 zt_65 zt_401) rfl rfl rfl (by decide +kernel) ⟨Nat.le_trans (Nat.le_of_ble_eq_true rfl) hF.1, Nat.le_trans (Nat.le_of_ble_eq_true rfl) hF.2⟩) ⟨(zg_pre hU).1, zg_recv hK hI h_20 rfl, (zg_pre hU).2⟩ rfl rfl hsz rfl (lv_room (Nat.le_of_ble_eq_true rfl)) zd_Tool_writeList_33 hk) rfl ?_
  refine zg_1 (pc' := 37) (fun _ _ _ _ _ hl w => lv_aload_n hx hb zd_Tool_writeList_36 rfl (lv_at hl 1 rfl) w) ?_
  obtain ⟨h_21, hf⟩ := zx_ck hf
  refine zg_get (pc' := 40) (ci := 1) hx hb htT zi_Draft hown hK h_21 rfl rfl 1 (by decide) (htT _ zt_97) (fun _ h9 => h9) rfl zd_Tool_writeList_37 rfl ?_
  obtain ⟨i_22, e_i_22, hf⟩ := zx_l hf
  refine zg_ti e_i_22 ?_
  refine zg_s (pc' := 41) (lv' := [(2, .int i_22), (0, .ref (h0 + a0)), (1, .ref (h0 + a1))]) (fun _ _ _ _ _ hl w => lv_istore_n hx hb zd_Tool_writeList_40 rfl hl (by decide) rfl w) ?_
  refine zg_1 (pc' := 42) (fun _ _ _ _ _ hl w => lv_iconst (v := (0 : Int32)) hx hb zd_Tool_writeList_41 (by decide) w) ?_
  refine zg_s (pc' := 43) (lv' := [(3, .int (0 : Int32)), (2, .int i_22), (0, .ref (h0 + a0)), (1, .ref (h0 + a1))]) (fun _ _ _ _ _ hl w => lv_istore_n hx hb zd_Tool_writeList_42 rfl hl (by decide) rfl w) ?_
  refine zg_v [2, 3, 1, 0] rfl ?_
  exact zw_Tool_writeList_43 X hR hF hret n n s_19 a0 a1 i_22 (0 : Int32) hf
set_option maxHeartbeats 4000000 in
theorem zc_V_composeList (l : Launch) (h0 : Nat) (D : va_G) (dA : Nat → ClassId) (tb : Nat → Nat) (n : Nat) {s0 : zh_S} {a0 : Nat} {r : Int32} {z : zh_S} (hf : zf_V_composeList n s0 a0 = some (r, z)) : zc_M l zn_V_composeList zs_V_composeList 6 162 h0 D dA tb [.ref (h0 + a0)] s0 (some (.int r)) z := by
  rw [zf_V_composeList] at hf
  refine zc_of (cc := ze_V_composeList) (maxL := 1) (ret := (some .int)) (lv := [(0, .ref (h0 + a0))]) (by decide) rfl (Nat.le_of_ble_eq_true rfl) rfl ?_
  intro p e s m args below meth c X hnm
  obtain ⟨hx, hb, hml, hown, htT, hrt, hlk, x00, hIn⟩ := id X
  have hK := hIn.2.1
  have hT := hIn.2.2.1
  have hNe := hIn.2.2.2
  have hR : zg_R { frames := 6, cells := zh_N z - zh_N s0, slots := zh_M z - zh_M s0, locals := 162 } (zh_N s0) (zh_M s0) z := ⟨by show zh_N z ≤ zh_N s0 + (zh_N z - zh_N s0); omega, by show zh_M z ≤ zh_M s0 + (zh_M z - zh_M s0); omega⟩
  have hF : 6 ≤ ({ frames := 6, cells := zh_N z - zh_N s0, slots := zh_M z - zh_M s0, locals := 162 } : Room).frames ∧ 162 ≤ ({ frames := 6, cells := zh_N z - zh_N s0, slots := zh_M z - zh_M s0, locals := 162 } : Room).locals := ⟨Nat.le_refl _, Nat.le_refl _⟩
  have hret := fun (pc : Nat) (lv : List (Nat × Value)) (hd : decode ze_V_composeList pc = .ok (.ireturn, 1)) => zg_iret (R := { frames := 6, cells := zh_N z - zh_N s0, slots := zh_M z - zh_M s0, locals := 162 }) (l := l) (e := e) (below := below) (c0 := zh_N s0) (s0 := zh_M s0) (z := z) (lv := lv) (v := r) X rfl hd
  refine zg_1 (pc' := 1) (fun _ _ _ _ _ hl w => lv_aload_n hx hb zd_V_composeList_0 rfl (lv_at hl 0 rfl) w) ?_
  obtain ⟨h_1, hf⟩ := zx_ck hf
  obtain ⟨a_2, h_3, hf⟩ := zx_p hf
  refine zg_get (pc' := 4) (ci := 7) hx hb htT zi_V hown hK h_1 rfl rfl 1 (by decide) (htT _ zt_303) (fun _ h9 => h9) (zx_hv h_3) zd_V_composeList_1 rfl ?_
  refine zg_1 (pc' := 5) (fun _ _ _ _ _ hl w => lv_aload_n hx hb zd_V_composeList_4 rfl (lv_at hl 0 rfl) w) ?_
  obtain ⟨a_4, h_5, hf⟩ := zx_p hf
  refine zg_get (pc' := 8) (ci := 7) hx hb htT zi_V hown hK h_1 rfl rfl 0 (by decide) (htT _ zt_302) (fun _ h9 => h9) (zx_hv h_5) zd_V_composeList_5 rfl ?_
  obtain ⟨h_7, hf⟩ := zx_ck hf
  obtain ⟨i_8, s_6, hq, hf⟩ := zx_b hf
  refine zg_call (pc' := 11) (y := s_6) (rv := (some (.int i_8))) (rest := []) X hR (zm_Tool_writeList hq) (fun H locs ls k j hsz hI hU hk => va_runV (As := [.ref (h0 + a_4)]) (rest := []) ⟨hx, hb, hml, hown, htT⟩ (zc_Tool_writeList l h0 D dA tb n hq) (cwV 1 htT (zw_gV zt_482 zt_483 zt_484 zt_66 zt_485) rfl rfl rfl (by decide +kernel) ⟨Nat.le_trans (Nat.le_of_ble_eq_true rfl) hF.1, Nat.le_trans (Nat.le_of_ble_eq_true rfl) hF.2⟩) ⟨(zg_pre hU).1, zg_recv hK hI h_7 rfl, (zg_pre hU).2⟩ rfl rfl hsz rfl (lv_room (Nat.le_of_ble_eq_true rfl)) zd_V_composeList_8 hk) rfl ?_
  obtain ⟨rfl, rfl⟩ := zx_r2 hf
  exact hret _ _ zd_V_composeList_11
set_option maxHeartbeats 4000000 in
theorem zc_M_add (l : Launch) (h0 : Nat) (D : va_G) (dA : Nat → ClassId) (tb : Nat → Nat) (n : Nat) {s0 : zh_S} {a0 : Nat} {i1 : Int32} {z : zh_S} (hf : zf_M_add n s0 a0 i1 = some z) : zc_M l zn_M_add zs_M_add 0 0 h0 D dA tb [.ref (h0 + a0), .int i1] s0 none z := by
  rw [zf_M_add] at hf
  refine zc_of (cc := ze_M_add) (maxL := 2) (ret := none) (lv := [(0, .ref (h0 + a0)), (1, .int i1)]) (by decide) rfl (Nat.le_of_ble_eq_true rfl) rfl ?_
  intro p e s m args below meth c X hnm
  obtain ⟨hx, hb, hml, hown, htT, hrt, hlk, x00, hIn⟩ := id X
  have hK := hIn.2.1
  have hT := hIn.2.2.1
  have hNe := hIn.2.2.2
  have hR : zg_R { frames := 0, cells := zh_N z - zh_N s0, slots := zh_M z - zh_M s0, locals := 0 } (zh_N s0) (zh_M s0) z := ⟨by show zh_N z ≤ zh_N s0 + (zh_N z - zh_N s0); omega, by show zh_M z ≤ zh_M s0 + (zh_M z - zh_M s0); omega⟩
  have hF : 0 ≤ ({ frames := 0, cells := zh_N z - zh_N s0, slots := zh_M z - zh_M s0, locals := 0 } : Room).frames ∧ 0 ≤ ({ frames := 0, cells := zh_N z - zh_N s0, slots := zh_M z - zh_M s0, locals := 0 } : Room).locals := ⟨Nat.le_refl _, Nat.le_refl _⟩
  have hret := fun (pc : Nat) (lv : List (Nat × Value)) (hd : decode ze_M_add pc = .ok (.return_, 1)) => zg_vret (R := { frames := 0, cells := zh_N z - zh_N s0, slots := zh_M z - zh_M s0, locals := 0 }) (l := l) (e := e) (below := below) (c0 := zh_N s0) (s0 := zh_M s0) (z := z) (lv := lv) X hd
  refine zg_1 (pc' := 1) (fun _ _ _ _ _ hl w => lv_aload_n hx hb zd_M_add_0 rfl (lv_at hl 0 rfl) w) ?_
  obtain ⟨h_1, hf⟩ := zx_ck hf
  obtain ⟨a_2, h_3, hf⟩ := zx_p hf
  refine zg_get (pc' := 4) (ci := 8) hx hb htT zi_M hown hK h_1 rfl rfl 0 (by decide) (htT _ zt_805) (fun _ h9 => h9) (zx_hv h_3) zd_M_add_1 rfl ?_
  refine zg_1 (pc' := 5) (fun _ _ _ _ _ hl w => lv_aload_n hx hb zd_M_add_4 rfl (lv_at hl 0 rfl) w) ?_
  refine zg_get (pc' := 8) (ci := 8) hx hb htT zi_M hown hK h_1 rfl rfl 1 (by decide) (htT _ zt_806) (fun _ h9 => h9) rfl zd_M_add_5 rfl ?_
  refine zg_1 (pc' := 9) (fun _ _ _ _ _ hl w => lv_iload_n hx hb zd_M_add_8 rfl (lv_at hl 1 rfl) w) ?_
  obtain ⟨h_5, hf⟩ := zx_ck hf
  obtain ⟨s_4, e_s_4, hf⟩ := zx_l hf
  refine zg_iast (pc' := 10) hx hb hK h_5 e_s_4 zd_M_add_9 rfl ?_
  refine zg_1 (pc' := 11) (fun _ _ _ _ _ hl w => lv_aload_n hx hb zd_M_add_10 rfl (lv_at hl 0 rfl) w) ?_
  refine zg_1 (pc' := 12) (fun _ _ _ _ _ hl w => lv_dup hx hb zd_M_add_11 rfl w) ?_
  obtain ⟨h_6, hf⟩ := zx_ck hf
  refine zg_get (pc' := 15) (ci := 8) hx hb htT zi_M hown hK h_6 rfl rfl 1 (by decide) (htT _ zt_806) (fun _ h9 => h9) rfl zd_M_add_12 rfl ?_
  refine zg_1 (pc' := 16) (fun _ _ _ _ _ hl w => lv_iconst (v := (1 : Int32)) hx hb zd_M_add_15 (by decide) w) ?_
  refine zg_1 (pc' := 17) (fun _ _ _ _ _ hl w => lv_iadd hx hb zd_M_add_16 w) ?_
  obtain ⟨s_7, e_s_7, hf⟩ := zx_l hf
  refine zg_putI (pc' := 20) (ci := 8) (ty := .int) hx hb htT zi_M zy_M zo_M zj_M hown hK h_6 rfl rfl 1 (by decide) (htT _ zt_806) (fun _ h9 => h9) (Or.inl rfl) (by decide +kernel) rfl rfl rfl e_s_7 zd_M_add_17 rfl ?_
  obtain rfl := zx_r1 hf
  exact hret _ _ zd_M_add_20
set_option maxHeartbeats 4000000 in
theorem zw_M_name_58 {p : Program} {l : Launch} {e : Env} {R : Room} {s : State} {m : MethodId} {args : Array Value} {below : List Frame} {meth : Method} {c : Code} {Q : State → Prop} {h0 : Nat} {D : va_G} {dA : Nat → ClassId} {tb : Nat → Nat} {c0 k0 : Nat} {z : zh_S} (X : zg_X p s m args meth c ze_M_name 7 zr_M none h0 D dA tb) (hR : zg_R R c0 k0 z) (hF : 1 ≤ R.frames ∧ 22 ≤ R.locals) (hret : ∀ (pc : Nat) (lv : List (Nat × Value)), decode ze_M_name pc = .ok (.return_, 1) → zg_G p l e R s m args below meth c Q h0 D dA 7 c0 k0 z z pc lv []) (n : Nat) (r20 : zh_S → Nat → Int64 → Int32 → Int32 → Option zh_S) (hr20 : ∀ (s0 : zh_S) (a0 : Nat) (j2 : Int64) (i4 : Int32) (i5 : Int32), r20 s0 a0 j2 i4 i5 = some z → zg_G p l e R s m args below meth c Q h0 D dA 7 c0 k0 z s0 20 [(0, .ref (h0 + a0)), (2, .long j2), (4, .int i4), (5, .int i5)] []) : ∀ (s0 : zh_S) (a0 : Nat) (j2 : Int64) (i4 : Int32) (i5 : Int32) (at0 : Nat) (it1 : Int32), zb_M_name_58 n r20 s0 a0 j2 i4 i5 at0 it1 = some z → zg_G p l e R s m args below meth c Q h0 D dA 7 c0 k0 z s0 58 [(0, .ref (h0 + a0)), (2, .long j2), (4, .int i4), (5, .int i5)] [.int it1, .ref (h0 + at0)] := by
  obtain ⟨hx, hb, hml, hown, htT, hrt, hlk, x00, hIn⟩ := id X
  have hK := hIn.2.1
  have hT := hIn.2.2.1
  have hNe := hIn.2.2.2
  intro s0 a0 j2 i4 i5 at0 it1 hf
  rw [zb_M_name_58] at hf
  obtain ⟨h_2, hf⟩ := zx_ck hf
  obtain ⟨s_1, hq, hf⟩ := zx_p hf
  refine zg_call (pc' := 61) (y := s_1) (rv := none) (rest := []) X hR (zm_M_add hq) (fun H locs ls k j hsz hI hU hk => va_runV (As := [.int it1]) (rest := []) ⟨hx, hb, hml, hown, htT⟩ (zc_M_add l h0 D dA tb n hq) (cwV 1 htT (zw_gV zt_960 zt_962 zt_31 zt_71 zt_963) rfl rfl rfl (by decide +kernel) ⟨Nat.le_trans (Nat.le_of_ble_eq_true rfl) hF.1, Nat.le_trans (Nat.le_of_ble_eq_true rfl) hF.2⟩) ⟨(zg_pre hU).1, zg_recv hK hI h_2 rfl, (zg_pre hU).2⟩ rfl rfl hsz rfl (lv_room (Nat.le_of_ble_eq_true rfl)) zd_M_name_58 hk) rfl ?_
  obtain ⟨i_3, e_i_3, hf⟩ := zx_l hf
  refine zg_s (pc' := 64) (lv' := [(5, .int i_3), (0, .ref (h0 + a0)), (2, .long j2), (4, .int i4)]) (fun _ _ _ _ _ hl w => lv_iinc (k := 3) (v := i_3) hx hb zd_M_name_61 hl rfl (by rw [e_i_3]; rfl) (by decide) rfl w) ?_
  refine zg_1 (pc' := 20) (fun _ _ _ _ _ hl w => lv_goto hx hb zd_M_name_64 (by decide) w) ?_
  refine zg_v [1, 2, 3, 0] rfl ?_
  exact hr20 s_1 a0 j2 i4 i_3 hf
set_option maxHeartbeats 4000000 in
theorem zw_M_name_20 {p : Program} {l : Launch} {e : Env} {R : Room} {s : State} {m : MethodId} {args : Array Value} {below : List Frame} {meth : Method} {c : Code} {Q : State → Prop} {h0 : Nat} {D : va_G} {dA : Nat → ClassId} {tb : Nat → Nat} {c0 k0 : Nat} {z : zh_S} (X : zg_X p s m args meth c ze_M_name 7 zr_M none h0 D dA tb) (hR : zg_R R c0 k0 z) (hF : 1 ≤ R.frames ∧ 22 ≤ R.locals) (hret : ∀ (pc : Nat) (lv : List (Nat × Value)), decode ze_M_name pc = .ok (.return_, 1) → zg_G p l e R s m args below meth c Q h0 D dA 7 c0 k0 z z pc lv []) (n : Nat) (k : Nat) : ∀ (s0 : zh_S) (a0 : Nat) (j2 : Int64) (i4 : Int32) (i5 : Int32), zl_M_name_20 n k s0 a0 j2 i4 i5 = some z → zg_G p l e R s m args below meth c Q h0 D dA 7 c0 k0 z s0 20 [(0, .ref (h0 + a0)), (2, .long j2), (4, .int i4), (5, .int i5)] [] := by
  obtain ⟨hx, hb, hml, hown, htT, hrt, hlk, x00, hIn⟩ := id X
  have hK := hIn.2.1
  have hT := hIn.2.2.1
  have hNe := hIn.2.2.2
  induction k with
  | zero => intro s0 a0 j2 i4 i5 hf; cases hf
  | succ k ih =>
    intro s0 a0 j2 i4 i5 hf
    rw [zl_M_name_20] at hf
    refine zg_1 (pc' := 22) (fun _ _ _ _ _ hl w => lv_iload hx hb zd_M_name_20 (lv_at hl 3 rfl) w) ?_
    refine zg_1 (pc' := 24) (fun _ _ _ _ _ hl w => lv_iload hx hb zd_M_name_22 (lv_at hl 2 rfl) w) ?_
    refine zg_2 (pc1 := 67) (pc2 := 27) (Classical.em _) (fun _ _ _ _ _ w1 w2 => lv_icmp_ge hx hb zd_M_name_24 (by decide) w1 w2) (fun hc => ?_) (fun hc => ?_)
    · rw [if_pos hc] at hf
      obtain rfl := zx_r1 hf
      exact hret _ _ zd_M_name_67
    · rw [if_neg hc] at hf
      refine zg_1 (pc' := 28) (fun _ _ _ _ _ hl w => lv_lload_n hx hb zd_M_name_27 rfl (lv_at hl 1 rfl) w) ?_
      refine zg_1 (pc' := 29) (fun _ _ _ _ _ hl w => lv_iconst (v := (5 : Int32)) hx hb zd_M_name_28 (by decide) w) ?_
      refine zg_1 (pc' := 31) (fun _ _ _ _ _ hl w => lv_iload hx hb zd_M_name_29 (lv_at hl 3 rfl) w) ?_
      refine zg_1 (pc' := 32) (fun _ _ _ _ _ hl w => lv_imul hx hb zd_M_name_31 w) ?_
      refine zg_1 (pc' := 33) (fun _ _ _ _ _ hl w => lv_lshr (v := (j2 >>> (((5 : Int32) * i5).toInt64 &&& 63))) hx hb zd_M_name_32 rfl w) ?_
      refine zg_1 (pc' := 36) (fun _ _ _ _ _ hl w => lv_ldc2 (v := (31 : Int64)) hx hb hown (htT _ zt_940) zd_M_name_33 w) ?_
      refine zg_1 (pc' := 37) (fun _ _ _ _ _ hl w => lv_land hx hb zd_M_name_36 w) ?_
      refine zg_1 (pc' := 38) (fun _ _ _ _ _ hl w => lv_l2i (v := ((j2 >>> (((5 : Int32) * i5).toInt64 &&& 63)) &&& (31 : Int64)).toInt32) hx hb zd_M_name_37 rfl w) ?_
      obtain ⟨i_1, e_i_1, hf⟩ := zx_l hf
      refine zg_ti e_i_1 ?_
      refine zg_s (pc' := 40) (lv' := [(6, .int i_1), (0, .ref (h0 + a0)), (2, .long j2), (4, .int i4), (5, .int i5)]) (fun _ _ _ _ _ hl w => lv_istore hx hb zd_M_name_38 hl (by decide) rfl w) ?_
      refine zg_1 (pc' := 41) (fun _ _ _ _ _ hl w => lv_aload_n hx hb zd_M_name_40 rfl (lv_at hl 1 rfl) w) ?_
      refine zg_1 (pc' := 43) (fun _ _ _ _ _ hl w => lv_iload hx hb zd_M_name_41 (lv_at hl 0 rfl) w) ?_
      refine zg_1 (pc' := 45) (fun _ _ _ _ _ hl w => lv_bipush (v := (27 : Int32)) hx hb zd_M_name_43 (by decide) w) ?_
      refine zg_2 (pc1 := 53) (pc2 := 48) (Classical.em _).symm (fun _ _ _ _ _ w1 w2 => lv_icmp_ne hx hb zd_M_name_45 (by decide) w1 w2) (fun hc => ?_) (fun hc => ?_)
      · rw [if_neg hc] at hf
        refine zg_1 (pc' := 55) (fun _ _ _ _ _ hl w => lv_bipush (v := (96 : Int32)) hx hb zd_M_name_53 (by decide) w) ?_
        refine zg_1 (pc' := 57) (fun _ _ _ _ _ hl w => lv_iload hx hb zd_M_name_55 (lv_at hl 0 rfl) w) ?_
        refine zg_1 (pc' := 58) (fun _ _ _ _ _ hl w => lv_iadd hx hb zd_M_name_57 w) ?_
        refine zg_v [1, 2, 3, 4] rfl ?_
        exact zw_M_name_58 X hR hF hret n _ ih s0 a0 j2 i4 i5 a0 ((96 : Int32) + i_1) hf
      · rw [if_pos hc] at hf
        refine zg_1 (pc' := 50) (fun _ _ _ _ _ hl w => lv_bipush (v := (46 : Int32)) hx hb zd_M_name_48 (by decide) w) ?_
        refine zg_1 (pc' := 58) (fun _ _ _ _ _ hl w => lv_goto hx hb zd_M_name_50 (by decide) w) ?_
        refine zg_v [1, 2, 3, 4] rfl ?_
        exact zw_M_name_58 X hR hF hret n _ ih s0 a0 j2 i4 i5 a0 (46 : Int32) hf
set_option maxHeartbeats 4000000 in
theorem zc_M_name (l : Launch) (h0 : Nat) (D : va_G) (dA : Nat → ClassId) (tb : Nat → Nat) (n : Nat) {s0 : zh_S} {a0 : Nat} {i1 : Int32} {j2 : Int64} {z : zh_S} (hf : zf_M_name n s0 a0 i1 j2 = some z) : zc_M l zn_M_name zs_M_name 1 22 h0 D dA tb [.ref (h0 + a0), .int i1, .long j2] s0 none z := by
  rw [zf_M_name] at hf
  refine zc_of (cc := ze_M_name) (maxL := 7) (ret := none) (lv := [(0, .ref (h0 + a0)), (1, .int i1), (2, .long j2)]) (by decide) rfl (Nat.le_of_ble_eq_true rfl) rfl ?_
  intro p e s m args below meth c X hnm
  obtain ⟨hx, hb, hml, hown, htT, hrt, hlk, x00, hIn⟩ := id X
  have hK := hIn.2.1
  have hT := hIn.2.2.1
  have hNe := hIn.2.2.2
  have hR : zg_R { frames := 1, cells := zh_N z - zh_N s0, slots := zh_M z - zh_M s0, locals := 22 } (zh_N s0) (zh_M s0) z := ⟨by show zh_N z ≤ zh_N s0 + (zh_N z - zh_N s0); omega, by show zh_M z ≤ zh_M s0 + (zh_M z - zh_M s0); omega⟩
  have hF : 1 ≤ ({ frames := 1, cells := zh_N z - zh_N s0, slots := zh_M z - zh_M s0, locals := 22 } : Room).frames ∧ 22 ≤ ({ frames := 1, cells := zh_N z - zh_N s0, slots := zh_M z - zh_M s0, locals := 22 } : Room).locals := ⟨Nat.le_refl _, Nat.le_refl _⟩
  have hret := fun (pc : Nat) (lv : List (Nat × Value)) (hd : decode ze_M_name pc = .ok (.return_, 1)) => zg_vret (R := { frames := 1, cells := zh_N z - zh_N s0, slots := zh_M z - zh_M s0, locals := 22 }) (l := l) (e := e) (below := below) (c0 := zh_N s0) (s0 := zh_M s0) (z := z) (lv := lv) X hd
  refine zg_1 (pc' := 1) (fun _ _ _ _ _ hl w => lv_lload_n hx hb zd_M_name_0 rfl (lv_at hl 2 rfl) w) ?_
  obtain ⟨i_1, hq, hf⟩ := zx_p hf
  refine zg_call (pc' := 4) (y := s0) (rv := (some (.int i_1))) (rest := []) X hR ⟨Nat.le_refl _, Nat.le_refl _⟩ (fun H locs ls k j hsz hI hU hk => va_runS (As := [.long j2]) (rest := []) ⟨hx, hb, hml, hown, htT⟩ (zc_M_letters l h0 D dA tb n hq) (va_cwS 1 htT (zw_gS zt_937 zt_938 zt_71 zt_939) rfl rfl rfl (by decide +kernel) ⟨Nat.le_trans (Nat.le_of_ble_eq_true rfl) hF.1, Nat.le_trans (Nat.le_of_ble_eq_true rfl) hF.2⟩) (zg_pre hU) rfl rfl hsz rfl (lv_room (Nat.le_of_ble_eq_true rfl)) zd_M_name_1 hk) rfl ?_
  refine zg_s (pc' := 6) (lv' := [(4, .int i_1), (0, .ref (h0 + a0)), (1, .int i1), (2, .long j2)]) (fun _ _ _ _ _ hl w => lv_istore hx hb zd_M_name_4 hl (by decide) rfl w) ?_
  refine zg_1 (pc' := 7) (fun _ _ _ _ _ hl w => lv_aload_n hx hb zd_M_name_6 rfl (lv_at hl 1 rfl) w) ?_
  refine zg_1 (pc' := 8) (fun _ _ _ _ _ hl w => lv_iload_n hx hb zd_M_name_7 rfl (lv_at hl 2 rfl) w) ?_
  obtain ⟨h_3, hf⟩ := zx_ck hf
  obtain ⟨s_2, hq, hf⟩ := zx_p hf
  refine zg_call (pc' := 11) (y := s_2) (rv := none) (rest := []) X hR (zm_M_add hq) (fun H locs ls k j hsz hI hU hk => va_runV (As := [.int i1]) (rest := []) ⟨hx, hb, hml, hown, htT⟩ (zc_M_add l h0 D dA tb n hq) (cwV 1 htT (zw_gV zt_960 zt_962 zt_31 zt_71 zt_963) rfl rfl rfl (by decide +kernel) ⟨Nat.le_trans (Nat.le_of_ble_eq_true rfl) hF.1, Nat.le_trans (Nat.le_of_ble_eq_true rfl) hF.2⟩) ⟨(zg_pre hU).1, zg_recv hK hI h_3 rfl, (zg_pre hU).2⟩ rfl rfl hsz rfl (lv_room (Nat.le_of_ble_eq_true rfl)) zd_M_name_8 hk) rfl ?_
  refine zg_1 (pc' := 12) (fun _ _ _ _ _ hl w => lv_aload_n hx hb zd_M_name_11 rfl (lv_at hl 1 rfl) w) ?_
  refine zg_1 (pc' := 14) (fun _ _ _ _ _ hl w => lv_iload hx hb zd_M_name_12 (lv_at hl 0 rfl) w) ?_
  obtain ⟨h_5, hf⟩ := zx_ck hf
  obtain ⟨s_4, hq, hf⟩ := zx_p hf
  refine zg_call (pc' := 17) (y := s_4) (rv := none) (rest := []) X hR (zm_M_add hq) (fun H locs ls k j hsz hI hU hk => va_runV (As := [.int i_1]) (rest := []) ⟨hx, hb, hml, hown, htT⟩ (zc_M_add l h0 D dA tb n hq) (cwV 1 htT (zw_gV zt_960 zt_962 zt_31 zt_71 zt_963) rfl rfl rfl (by decide +kernel) ⟨Nat.le_trans (Nat.le_of_ble_eq_true rfl) hF.1, Nat.le_trans (Nat.le_of_ble_eq_true rfl) hF.2⟩) ⟨(zg_pre hU).1, zg_recv hK hI h_5 rfl, (zg_pre hU).2⟩ rfl rfl hsz rfl (lv_room (Nat.le_of_ble_eq_true rfl)) zd_M_name_14 hk) rfl ?_
  refine zg_1 (pc' := 18) (fun _ _ _ _ _ hl w => lv_iconst (v := (0 : Int32)) hx hb zd_M_name_17 (by decide) w) ?_
  refine zg_s (pc' := 20) (lv' := [(5, .int (0 : Int32)), (4, .int i_1), (0, .ref (h0 + a0)), (1, .int i1), (2, .long j2)]) (fun _ _ _ _ _ hl w => lv_istore hx hb zd_M_name_18 hl (by decide) rfl w) ?_
  refine zg_v [2, 4, 1, 0] rfl ?_
  exact zw_M_name_20 X hR hF hret n n s_4 a0 j2 i_1 (0 : Int32) hf
set_option maxHeartbeats 4000000 in
theorem zw_M_integer_42 {p : Program} {l : Launch} {e : Env} {R : Room} {s : State} {m : MethodId} {args : Array Value} {below : List Frame} {meth : Method} {c : Code} {Q : State → Prop} {h0 : Nat} {D : va_G} {dA : Nat → ClassId} {tb : Nat → Nat} {c0 k0 : Nat} {z : zh_S} (X : zg_X p s m args meth c ze_M_integer 5 zr_M none h0 D dA tb) (hR : zg_R R c0 k0 z) (hF : 1 ≤ R.frames ∧ 21 ≤ R.locals) (hret : ∀ (pc : Nat) (lv : List (Nat × Value)), decode ze_M_integer pc = .ok (.return_, 1) → zg_G p l e R s m args below meth c Q h0 D dA 5 c0 k0 z z pc lv []) (n : Nat) (k : Nat) : ∀ (s0 : zh_S) (a0 : Nat) (j1 : Int64) (i4 : Int32), zl_M_integer_42 n k s0 a0 j1 i4 = some z → zg_G p l e R s m args below meth c Q h0 D dA 5 c0 k0 z s0 42 [(0, .ref (h0 + a0)), (1, .long j1), (4, .int i4)] [] := by
  obtain ⟨hx, hb, hml, hown, htT, hrt, hlk, x00, hIn⟩ := id X
  have hK := hIn.2.1
  have hT := hIn.2.2.1
  have hNe := hIn.2.2.2
  induction k with
  | zero => intro s0 a0 j1 i4 hf; cases hf
  | succ k ih =>
    intro s0 a0 j1 i4 hf
    rw [zl_M_integer_42] at hf
    refine zg_1 (pc' := 44) (fun _ _ _ _ _ hl w => lv_iload hx hb zd_M_integer_42 (lv_at hl 2 rfl) w) ?_
    refine zg_2 (pc1 := 69) (pc2 := 47) (Classical.em _) (fun _ _ _ _ _ w1 w2 => lv_if_lt hx hb zd_M_integer_44 (by decide) w1 w2) (fun hc => ?_) (fun hc => ?_)
    · rw [if_pos hc] at hf
      obtain rfl := zx_r1 hf
      exact hret _ _ zd_M_integer_69
    · rw [if_neg hc] at hf
      refine zg_1 (pc' := 48) (fun _ _ _ _ _ hl w => lv_aload_n hx hb zd_M_integer_47 rfl (lv_at hl 0 rfl) w) ?_
      refine zg_1 (pc' := 49) (fun _ _ _ _ _ hl w => lv_lload_n hx hb zd_M_integer_48 rfl (lv_at hl 1 rfl) w) ?_
      refine zg_1 (pc' := 51) (fun _ _ _ _ _ hl w => lv_bipush (v := (8 : Int32)) hx hb zd_M_integer_49 (by decide) w) ?_
      refine zg_1 (pc' := 53) (fun _ _ _ _ _ hl w => lv_iload hx hb zd_M_integer_51 (lv_at hl 2 rfl) w) ?_
      refine zg_1 (pc' := 54) (fun _ _ _ _ _ hl w => lv_imul hx hb zd_M_integer_53 w) ?_
      refine zg_1 (pc' := 55) (fun _ _ _ _ _ hl w => lv_lshr (v := (j1 >>> (((8 : Int32) * i4).toInt64 &&& 63))) hx hb zd_M_integer_54 rfl w) ?_
      refine zg_1 (pc' := 58) (fun _ _ _ _ _ hl w => lv_ldc2 (v := (255 : Int64)) hx hb hown (htT _ zt_917) zd_M_integer_55 w) ?_
      refine zg_1 (pc' := 59) (fun _ _ _ _ _ hl w => lv_land hx hb zd_M_integer_58 w) ?_
      refine zg_1 (pc' := 60) (fun _ _ _ _ _ hl w => lv_l2i (v := ((j1 >>> (((8 : Int32) * i4).toInt64 &&& 63)) &&& (255 : Int64)).toInt32) hx hb zd_M_integer_59 rfl w) ?_
      obtain ⟨h_2, hf⟩ := zx_ck hf
      obtain ⟨s_1, hq, hf⟩ := zx_p hf
      refine zg_call (pc' := 63) (y := s_1) (rv := none) (rest := []) X hR (zm_M_add hq) (fun H locs ls k j hsz hI hU hk => va_runV (As := [.int (((j1 >>> (((8 : Int32) * i4).toInt64 &&& 63)) &&& (255 : Int64)).toInt32)]) (rest := []) ⟨hx, hb, hml, hown, htT⟩ (zc_M_add l h0 D dA tb n hq) (cwV 1 htT (zw_gV zt_960 zt_962 zt_31 zt_71 zt_963) rfl rfl rfl (by decide +kernel) ⟨Nat.le_trans (Nat.le_of_ble_eq_true rfl) hF.1, Nat.le_trans (Nat.le_of_ble_eq_true rfl) hF.2⟩) ⟨(zg_pre hU).1, zg_recv hK hI h_2 rfl, (zg_pre hU).2⟩ rfl rfl hsz rfl (lv_room (Nat.le_of_ble_eq_true rfl)) zd_M_integer_60 hk) rfl ?_
      obtain ⟨i_3, e_i_3, hf⟩ := zx_l hf
      refine zg_s (pc' := 66) (lv' := [(4, .int i_3), (0, .ref (h0 + a0)), (1, .long j1)]) (fun _ _ _ _ _ hl w => lv_iinc (k := 2) (v := i_3) hx hb zd_M_integer_63 hl rfl (by rw [e_i_3]; rfl) (by decide) rfl w) ?_
      refine zg_1 (pc' := 42) (fun _ _ _ _ _ hl w => lv_goto hx hb zd_M_integer_66 (by decide) w) ?_
      refine zg_v [1, 2, 0] rfl ?_
      exact ih s_1 a0 j1 i_3 hf
set_option maxHeartbeats 4000000 in
theorem zw_M_integer_27 {p : Program} {l : Launch} {e : Env} {R : Room} {s : State} {m : MethodId} {args : Array Value} {below : List Frame} {meth : Method} {c : Code} {Q : State → Prop} {h0 : Nat} {D : va_G} {dA : Nat → ClassId} {tb : Nat → Nat} {c0 k0 : Nat} {z : zh_S} (X : zg_X p s m args meth c ze_M_integer 5 zr_M none h0 D dA tb) (hR : zg_R R c0 k0 z) (hF : 1 ≤ R.frames ∧ 21 ≤ R.locals) (hret : ∀ (pc : Nat) (lv : List (Nat × Value)), decode ze_M_integer pc = .ok (.return_, 1) → zg_G p l e R s m args below meth c Q h0 D dA 5 c0 k0 z z pc lv []) (n : Nat) : ∀ (s0 : zh_S) (a0 : Nat) (j1 : Int64) (i3 : Int32), zb_M_integer_27 n s0 a0 j1 i3 = some z → zg_G p l e R s m args below meth c Q h0 D dA 5 c0 k0 z s0 27 [(0, .ref (h0 + a0)), (1, .long j1), (3, .int i3)] [] := by
  obtain ⟨hx, hb, hml, hown, htT, hrt, hlk, x00, hIn⟩ := id X
  have hK := hIn.2.1
  have hT := hIn.2.2.1
  have hNe := hIn.2.2.2
  intro s0 a0 j1 i3 hf
  rw [zb_M_integer_27] at hf
  refine zg_1 (pc' := 28) (fun _ _ _ _ _ hl w => lv_aload_n hx hb zd_M_integer_27 rfl (lv_at hl 0 rfl) w) ?_
  refine zg_1 (pc' := 29) (fun _ _ _ _ _ hl w => lv_iconst (v := (2 : Int32)) hx hb zd_M_integer_28 (by decide) w) ?_
  obtain ⟨h_2, hf⟩ := zx_ck hf
  obtain ⟨s_1, hq, hf⟩ := zx_p hf
  refine zg_call (pc' := 32) (y := s_1) (rv := none) (rest := []) X hR (zm_M_add hq) (fun H locs ls k j hsz hI hU hk => va_runV (As := [.int (2 : Int32)]) (rest := []) ⟨hx, hb, hml, hown, htT⟩ (zc_M_add l h0 D dA tb n hq) (cwV 1 htT (zw_gV zt_960 zt_962 zt_31 zt_71 zt_963) rfl rfl rfl (by decide +kernel) ⟨Nat.le_trans (Nat.le_of_ble_eq_true rfl) hF.1, Nat.le_trans (Nat.le_of_ble_eq_true rfl) hF.2⟩) ⟨(zg_pre hU).1, zg_recv hK hI h_2 rfl, (zg_pre hU).2⟩ rfl rfl hsz rfl (lv_room (Nat.le_of_ble_eq_true rfl)) zd_M_integer_29 hk) rfl ?_
  refine zg_1 (pc' := 33) (fun _ _ _ _ _ hl w => lv_aload_n hx hb zd_M_integer_32 rfl (lv_at hl 0 rfl) w) ?_
  refine zg_1 (pc' := 34) (fun _ _ _ _ _ hl w => lv_iload_n hx hb zd_M_integer_33 rfl (lv_at hl 2 rfl) w) ?_
  obtain ⟨h_4, hf⟩ := zx_ck hf
  obtain ⟨s_3, hq, hf⟩ := zx_p hf
  refine zg_call (pc' := 37) (y := s_3) (rv := none) (rest := []) X hR (zm_M_add hq) (fun H locs ls k j hsz hI hU hk => va_runV (As := [.int i3]) (rest := []) ⟨hx, hb, hml, hown, htT⟩ (zc_M_add l h0 D dA tb n hq) (cwV 1 htT (zw_gV zt_960 zt_962 zt_31 zt_71 zt_963) rfl rfl rfl (by decide +kernel) ⟨Nat.le_trans (Nat.le_of_ble_eq_true rfl) hF.1, Nat.le_trans (Nat.le_of_ble_eq_true rfl) hF.2⟩) ⟨(zg_pre hU).1, zg_recv hK hI h_4 rfl, (zg_pre hU).2⟩ rfl rfl hsz rfl (lv_room (Nat.le_of_ble_eq_true rfl)) zd_M_integer_34 hk) rfl ?_
  refine zg_1 (pc' := 38) (fun _ _ _ _ _ hl w => lv_iload_n hx hb zd_M_integer_37 rfl (lv_at hl 2 rfl) w) ?_
  refine zg_1 (pc' := 39) (fun _ _ _ _ _ hl w => lv_iconst (v := (1 : Int32)) hx hb zd_M_integer_38 (by decide) w) ?_
  refine zg_1 (pc' := 40) (fun _ _ _ _ _ hl w => lv_isub hx hb zd_M_integer_39 w) ?_
  obtain ⟨i_5, e_i_5, hf⟩ := zx_l hf
  refine zg_ti e_i_5 ?_
  refine zg_s (pc' := 42) (lv' := [(4, .int i_5), (0, .ref (h0 + a0)), (1, .long j1), (3, .int i3)]) (fun _ _ _ _ _ hl w => lv_istore hx hb zd_M_integer_40 hl (by decide) rfl w) ?_
  refine zg_v [1, 2, 0] rfl ?_
  exact zw_M_integer_42 X hR hF hret n n s_3 a0 j1 i_5 hf
set_option maxHeartbeats 4000000 in
theorem zw_M_integer_2 {p : Program} {l : Launch} {e : Env} {R : Room} {s : State} {m : MethodId} {args : Array Value} {below : List Frame} {meth : Method} {c : Code} {Q : State → Prop} {h0 : Nat} {D : va_G} {dA : Nat → ClassId} {tb : Nat → Nat} {c0 k0 : Nat} {z : zh_S} (X : zg_X p s m args meth c ze_M_integer 5 zr_M none h0 D dA tb) (hR : zg_R R c0 k0 z) (hF : 1 ≤ R.frames ∧ 21 ≤ R.locals) (hret : ∀ (pc : Nat) (lv : List (Nat × Value)), decode ze_M_integer pc = .ok (.return_, 1) → zg_G p l e R s m args below meth c Q h0 D dA 5 c0 k0 z z pc lv []) (n : Nat) (k : Nat) : ∀ (s0 : zh_S) (a0 : Nat) (j1 : Int64) (i3 : Int32), zl_M_integer_2 n k s0 a0 j1 i3 = some z → zg_G p l e R s m args below meth c Q h0 D dA 5 c0 k0 z s0 2 [(0, .ref (h0 + a0)), (1, .long j1), (3, .int i3)] [] := by
  obtain ⟨hx, hb, hml, hown, htT, hrt, hlk, x00, hIn⟩ := id X
  have hK := hIn.2.1
  have hT := hIn.2.2.1
  have hNe := hIn.2.2.2
  induction k with
  | zero => intro s0 a0 j1 i3 hf; cases hf
  | succ k ih =>
    intro s0 a0 j1 i3 hf
    rw [zl_M_integer_2] at hf
    refine zg_1 (pc' := 3) (fun _ _ _ _ _ hl w => lv_iload_n hx hb zd_M_integer_2 rfl (lv_at hl 2 rfl) w) ?_
    refine zg_1 (pc' := 5) (fun _ _ _ _ _ hl w => lv_bipush (v := (8 : Int32)) hx hb zd_M_integer_3 (by decide) w) ?_
    refine zg_2 (pc1 := 27) (pc2 := 8) (Classical.em _) (fun _ _ _ _ _ w1 w2 => lv_icmp_ge hx hb zd_M_integer_5 (by decide) w1 w2) (fun hc => ?_) (fun hc => ?_)
    · rw [if_pos hc] at hf
      exact zw_M_integer_27 X hR hF hret n s0 a0 j1 i3 hf
    · rw [if_neg hc] at hf
      refine zg_1 (pc' := 9) (fun _ _ _ _ _ hl w => lv_lload_n hx hb zd_M_integer_8 rfl (lv_at hl 1 rfl) w) ?_
      refine zg_1 (pc' := 11) (fun _ _ _ _ _ hl w => lv_bipush (v := (8 : Int32)) hx hb zd_M_integer_9 (by decide) w) ?_
      refine zg_1 (pc' := 12) (fun _ _ _ _ _ hl w => lv_iload_n hx hb zd_M_integer_11 rfl (lv_at hl 2 rfl) w) ?_
      refine zg_1 (pc' := 13) (fun _ _ _ _ _ hl w => lv_imul hx hb zd_M_integer_12 w) ?_
      refine zg_1 (pc' := 14) (fun _ _ _ _ _ hl w => lv_iconst (v := (1 : Int32)) hx hb zd_M_integer_13 (by decide) w) ?_
      refine zg_1 (pc' := 15) (fun _ _ _ _ _ hl w => lv_isub hx hb zd_M_integer_14 w) ?_
      refine zg_1 (pc' := 16) (fun _ _ _ _ _ hl w => lv_lshr (v := (j1 >>> ((((8 : Int32) * i3) - (1 : Int32)).toInt64 &&& 63))) hx hb zd_M_integer_15 rfl w) ?_
      refine zg_1 (pc' := 17) (fun _ _ _ _ _ hl w => lv_lconst (v := (0 : Int64)) hx hb zd_M_integer_16 (by decide) w) ?_
      refine zg_1 (pc' := 18) (fun _ _ _ _ _ hl w => W.lcmp hx hb zd_M_integer_17 w) ?_
      refine zg_2 (pc1 := 27) (pc2 := 21) (Classical.em _) (fun _ _ _ _ _ w1 w2 => lv_if_eq hx hb zd_M_integer_18 (by decide) w1 w2) (fun hc => ?_) (fun hc => ?_)
      · rw [if_pos hc] at hf
        exact zw_M_integer_27 X hR hF hret n s0 a0 j1 i3 hf
      · rw [if_neg hc] at hf
        obtain ⟨i_1, e_i_1, hf⟩ := zx_l hf
        refine zg_s (pc' := 24) (lv' := [(3, .int i_1), (0, .ref (h0 + a0)), (1, .long j1)]) (fun _ _ _ _ _ hl w => lv_iinc (k := 2) (v := i_1) hx hb zd_M_integer_21 hl rfl (by rw [e_i_1]; rfl) (by decide) rfl w) ?_
        refine zg_1 (pc' := 2) (fun _ _ _ _ _ hl w => lv_goto hx hb zd_M_integer_24 (by decide) w) ?_
        refine zg_v [1, 2, 0] rfl ?_
        exact ih s0 a0 j1 i_1 hf
set_option maxHeartbeats 4000000 in
theorem zc_M_integer (l : Launch) (h0 : Nat) (D : va_G) (dA : Nat → ClassId) (tb : Nat → Nat) (n : Nat) {s0 : zh_S} {a0 : Nat} {j1 : Int64} {z : zh_S} (hf : zf_M_integer n s0 a0 j1 = some z) : zc_M l zn_M_integer zs_M_integer 1 21 h0 D dA tb [.ref (h0 + a0), .long j1] s0 none z := by
  rw [zf_M_integer] at hf
  refine zc_of (cc := ze_M_integer) (maxL := 5) (ret := none) (lv := [(0, .ref (h0 + a0)), (1, .long j1)]) (by decide) rfl (Nat.le_of_ble_eq_true rfl) rfl ?_
  intro p e s m args below meth c X hnm
  obtain ⟨hx, hb, hml, hown, htT, hrt, hlk, x00, hIn⟩ := id X
  have hK := hIn.2.1
  have hT := hIn.2.2.1
  have hNe := hIn.2.2.2
  have hR : zg_R { frames := 1, cells := zh_N z - zh_N s0, slots := zh_M z - zh_M s0, locals := 21 } (zh_N s0) (zh_M s0) z := ⟨by show zh_N z ≤ zh_N s0 + (zh_N z - zh_N s0); omega, by show zh_M z ≤ zh_M s0 + (zh_M z - zh_M s0); omega⟩
  have hF : 1 ≤ ({ frames := 1, cells := zh_N z - zh_N s0, slots := zh_M z - zh_M s0, locals := 21 } : Room).frames ∧ 21 ≤ ({ frames := 1, cells := zh_N z - zh_N s0, slots := zh_M z - zh_M s0, locals := 21 } : Room).locals := ⟨Nat.le_refl _, Nat.le_refl _⟩
  have hret := fun (pc : Nat) (lv : List (Nat × Value)) (hd : decode ze_M_integer pc = .ok (.return_, 1)) => zg_vret (R := { frames := 1, cells := zh_N z - zh_N s0, slots := zh_M z - zh_M s0, locals := 21 }) (l := l) (e := e) (below := below) (c0 := zh_N s0) (s0 := zh_M s0) (z := z) (lv := lv) X hd
  refine zg_1 (pc' := 1) (fun _ _ _ _ _ hl w => lv_iconst (v := (1 : Int32)) hx hb zd_M_integer_0 (by decide) w) ?_
  refine zg_s (pc' := 2) (lv' := [(3, .int (1 : Int32)), (0, .ref (h0 + a0)), (1, .long j1)]) (fun _ _ _ _ _ hl w => lv_istore_n hx hb zd_M_integer_1 rfl hl (by decide) rfl w) ?_
  refine zg_v [1, 2, 0] rfl ?_
  exact zw_M_integer_2 X hR hF hret n n s0 a0 j1 (1 : Int32) hf
set_option maxHeartbeats 4000000 in
theorem zw_M_wrap_103 {p : Program} {l : Launch} {e : Env} {R : Room} {s : State} {m : MethodId} {args : Array Value} {below : List Frame} {meth : Method} {c : Code} {Q : State → Prop} {h0 : Nat} {D : va_G} {dA : Nat → ClassId} {tb : Nat → Nat} {c0 k0 : Nat} {z : zh_S} (X : zg_X p s m args meth c ze_M_wrap 6 zr_M none h0 D dA tb) (hR : zg_R R c0 k0 z) (hF : 0 ≤ R.frames ∧ 0 ≤ R.locals) (hret : ∀ (pc : Nat) (lv : List (Nat × Value)), decode ze_M_wrap pc = .ok (.return_, 1) → zg_G p l e R s m args below meth c Q h0 D dA 6 c0 k0 z z pc lv []) (n : Nat) : ∀ (s0 : zh_S) (a0 : Nat) (i4 : Int32), zb_M_wrap_103 n s0 a0 i4 = some z → zg_G p l e R s m args below meth c Q h0 D dA 6 c0 k0 z s0 103 [(0, .ref (h0 + a0)), (4, .int i4)] [] := by
  obtain ⟨hx, hb, hml, hown, htT, hrt, hlk, x00, hIn⟩ := id X
  have hK := hIn.2.1
  have hT := hIn.2.2.1
  have hNe := hIn.2.2.2
  intro s0 a0 i4 hf
  rw [zb_M_wrap_103] at hf
  refine zg_1 (pc' := 104) (fun _ _ _ _ _ hl w => lv_aload_n hx hb zd_M_wrap_103 rfl (lv_at hl 0 rfl) w) ?_
  refine zg_1 (pc' := 105) (fun _ _ _ _ _ hl w => lv_dup hx hb zd_M_wrap_104 rfl w) ?_
  obtain ⟨h_1, hf⟩ := zx_ck hf
  refine zg_get (pc' := 108) (ci := 8) hx hb htT zi_M hown hK h_1 rfl rfl 1 (by decide) (htT _ zt_806) (fun _ h9 => h9) rfl zd_M_wrap_105 rfl ?_
  refine zg_1 (pc' := 110) (fun _ _ _ _ _ hl w => lv_iload hx hb zd_M_wrap_108 (lv_at hl 1 rfl) w) ?_
  refine zg_1 (pc' := 111) (fun _ _ _ _ _ hl w => lv_iadd hx hb zd_M_wrap_110 w) ?_
  obtain ⟨s_2, e_s_2, hf⟩ := zx_l hf
  refine zg_putI (pc' := 114) (ci := 8) (ty := .int) hx hb htT zi_M zy_M zo_M zj_M hown hK h_1 rfl rfl 1 (by decide) (htT _ zt_806) (fun _ h9 => h9) (Or.inl rfl) (by decide +kernel) rfl rfl rfl e_s_2 zd_M_wrap_111 rfl ?_
  obtain rfl := zx_r1 hf
  exact hret _ _ zd_M_wrap_114
set_option maxHeartbeats 4000000 in
theorem zw_M_wrap_86 {p : Program} {l : Launch} {e : Env} {R : Room} {s : State} {m : MethodId} {args : Array Value} {below : List Frame} {meth : Method} {c : Code} {Q : State → Prop} {h0 : Nat} {D : va_G} {dA : Nat → ClassId} {tb : Nat → Nat} {c0 k0 : Nat} {z : zh_S} (X : zg_X p s m args meth c ze_M_wrap 6 zr_M none h0 D dA tb) (hR : zg_R R c0 k0 z) (hF : 0 ≤ R.frames ∧ 0 ≤ R.locals) (hret : ∀ (pc : Nat) (lv : List (Nat × Value)), decode ze_M_wrap pc = .ok (.return_, 1) → zg_G p l e R s m args below meth c Q h0 D dA 6 c0 k0 z z pc lv []) (n : Nat) : ∀ (s0 : zh_S) (a0 : Nat) (i1 : Int32) (i3 : Int32) (i4 : Int32) (at0 : Nat) (it1 : Int32) (it2 : Int32), zb_M_wrap_86 n s0 a0 i1 i3 i4 at0 it1 it2 = some z → zg_G p l e R s m args below meth c Q h0 D dA 6 c0 k0 z s0 86 [(0, .ref (h0 + a0)), (1, .int i1), (3, .int i3), (4, .int i4)] [.int it2, .int it1, .ref (h0 + at0)] := by
  obtain ⟨hx, hb, hml, hown, htT, hrt, hlk, x00, hIn⟩ := id X
  have hK := hIn.2.1
  have hT := hIn.2.2.1
  have hNe := hIn.2.2.2
  intro s0 a0 i1 i3 i4 at0 it1 it2 hf
  rw [zb_M_wrap_86] at hf
  obtain ⟨h_2, hf⟩ := zx_ck hf
  obtain ⟨s_1, e_s_1, hf⟩ := zx_l hf
  refine zg_iast (pc' := 87) hx hb hK h_2 e_s_1 zd_M_wrap_86 rfl ?_
  refine zg_1 (pc' := 88) (fun _ _ _ _ _ hl w => lv_iload_n hx hb zd_M_wrap_87 rfl (lv_at hl 2 rfl) w) ?_
  refine zg_1 (pc' := 91) (fun _ _ _ _ _ hl w => lv_sipush (v := (128 : Int32)) hx hb zd_M_wrap_88 (by decide) w) ?_
  refine zg_2 (pc1 := 103) (pc2 := 94) (Classical.em _) (fun _ _ _ _ _ w1 w2 => lv_icmp_lt hx hb zd_M_wrap_91 (by decide) w1 w2) (fun hc => ?_) (fun hc => ?_)
  · rw [if_pos hc] at hf
    refine zg_v [0, 3] rfl ?_
    exact zw_M_wrap_103 X hR hF hret n s_1 a0 i4 hf
  · rw [if_neg hc] at hf
    refine zg_1 (pc' := 95) (fun _ _ _ _ _ hl w => lv_aload_n hx hb zd_M_wrap_94 rfl (lv_at hl 0 rfl) w) ?_
    obtain ⟨h_3, hf⟩ := zx_ck hf
    obtain ⟨a_4, h_5, hf⟩ := zx_p hf
    refine zg_get (pc' := 98) (ci := 8) hx hb htT zi_M hown hK h_3 rfl rfl 0 (by decide) (htT _ zt_805) (fun _ h9 => h9) (zx_hv h_5) zd_M_wrap_95 rfl ?_
    refine zg_1 (pc' := 99) (fun _ _ _ _ _ hl w => lv_iload_n hx hb zd_M_wrap_98 rfl (lv_at hl 1 rfl) w) ?_
    refine zg_1 (pc' := 100) (fun _ _ _ _ _ hl w => lv_iconst (v := (2 : Int32)) hx hb zd_M_wrap_99 (by decide) w) ?_
    refine zg_1 (pc' := 101) (fun _ _ _ _ _ hl w => lv_iadd hx hb zd_M_wrap_100 w) ?_
    refine zg_1 (pc' := 102) (fun _ _ _ _ _ hl w => lv_iload_n hx hb zd_M_wrap_101 rfl (lv_at hl 2 rfl) w) ?_
    obtain ⟨h_7, hf⟩ := zx_ck hf
    obtain ⟨s_6, e_s_6, hf⟩ := zx_l hf
    refine zg_iast (pc' := 103) hx hb hK h_7 e_s_6 zd_M_wrap_102 rfl ?_
    refine zg_v [0, 3] rfl ?_
    exact zw_M_wrap_103 X hR hF hret n s_6 a0 i4 hf
set_option maxHeartbeats 4000000 in
theorem zw_M_wrap_29 {p : Program} {l : Launch} {e : Env} {R : Room} {s : State} {m : MethodId} {args : Array Value} {below : List Frame} {meth : Method} {c : Code} {Q : State → Prop} {h0 : Nat} {D : va_G} {dA : Nat → ClassId} {tb : Nat → Nat} {c0 k0 : Nat} {z : zh_S} (X : zg_X p s m args meth c ze_M_wrap 6 zr_M none h0 D dA tb) (hR : zg_R R c0 k0 z) (hF : 0 ≤ R.frames ∧ 0 ≤ R.locals) (hret : ∀ (pc : Nat) (lv : List (Nat × Value)), decode ze_M_wrap pc = .ok (.return_, 1) → zg_G p l e R s m args below meth c Q h0 D dA 6 c0 k0 z z pc lv []) (n : Nat) (k : Nat) : ∀ (s0 : zh_S) (a0 : Nat) (i1 : Int32) (i2 : Int32) (i3 : Int32) (i4 : Int32) (i5 : Int32), zl_M_wrap_29 n k s0 a0 i1 i2 i3 i4 i5 = some z → zg_G p l e R s m args below meth c Q h0 D dA 6 c0 k0 z s0 29 [(0, .ref (h0 + a0)), (1, .int i1), (2, .int i2), (3, .int i3), (4, .int i4), (5, .int i5)] [] := by
  obtain ⟨hx, hb, hml, hown, htT, hrt, hlk, x00, hIn⟩ := id X
  have hK := hIn.2.1
  have hT := hIn.2.2.1
  have hNe := hIn.2.2.2
  induction k with
  | zero => intro s0 a0 i1 i2 i3 i4 i5 hf; cases hf
  | succ k ih =>
    intro s0 a0 i1 i2 i3 i4 i5 hf
    rw [zl_M_wrap_29] at hf
    refine zg_1 (pc' := 31) (fun _ _ _ _ _ hl w => lv_iload hx hb zd_M_wrap_29 (lv_at hl 5 rfl) w) ?_
    refine zg_1 (pc' := 32) (fun _ _ _ _ _ hl w => lv_iload_n hx hb zd_M_wrap_31 rfl (lv_at hl 1 rfl) w) ?_
    refine zg_2 (pc1 := 58) (pc2 := 35) (Classical.em _) (fun _ _ _ _ _ w1 w2 => lv_icmp_lt hx hb zd_M_wrap_32 (by decide) w1 w2) (fun hc => ?_) (fun hc => ?_)
    · rw [if_pos hc] at hf
      refine zg_1 (pc' := 59) (fun _ _ _ _ _ hl w => lv_aload_n hx hb zd_M_wrap_58 rfl (lv_at hl 0 rfl) w) ?_
      obtain ⟨h_1, hf⟩ := zx_ck hf
      obtain ⟨a_2, h_3, hf⟩ := zx_p hf
      refine zg_get (pc' := 62) (ci := 8) hx hb htT zi_M hown hK h_1 rfl rfl 0 (by decide) (htT _ zt_805) (fun _ h9 => h9) (zx_hv h_3) zd_M_wrap_59 rfl ?_
      refine zg_1 (pc' := 63) (fun _ _ _ _ _ hl w => lv_iload_n hx hb zd_M_wrap_62 rfl (lv_at hl 1 rfl) w) ?_
      refine zg_1 (pc' := 64) (fun _ _ _ _ _ hl w => lv_iload_n hx hb zd_M_wrap_63 rfl (lv_at hl 2 rfl) w) ?_
      obtain ⟨h_5, hf⟩ := zx_ck hf
      obtain ⟨s_4, e_s_4, hf⟩ := zx_l hf
      refine zg_iast (pc' := 65) hx hb hK h_5 e_s_4 zd_M_wrap_64 rfl ?_
      refine zg_1 (pc' := 66) (fun _ _ _ _ _ hl w => lv_aload_n hx hb zd_M_wrap_65 rfl (lv_at hl 0 rfl) w) ?_
      obtain ⟨h_6, hf⟩ := zx_ck hf
      obtain ⟨a_7, h_8, hf⟩ := zx_p hf
      refine zg_get (pc' := 69) (ci := 8) hx hb htT zi_M hown hK h_6 rfl rfl 0 (by decide) (htT _ zt_805) (fun _ h9 => h9) (zx_hv h_8) zd_M_wrap_66 rfl ?_
      refine zg_1 (pc' := 70) (fun _ _ _ _ _ hl w => lv_iload_n hx hb zd_M_wrap_69 rfl (lv_at hl 1 rfl) w) ?_
      refine zg_1 (pc' := 71) (fun _ _ _ _ _ hl w => lv_iconst (v := (1 : Int32)) hx hb zd_M_wrap_70 (by decide) w) ?_
      refine zg_1 (pc' := 72) (fun _ _ _ _ _ hl w => lv_iadd hx hb zd_M_wrap_71 w) ?_
      refine zg_1 (pc' := 73) (fun _ _ _ _ _ hl w => lv_iload_n hx hb zd_M_wrap_72 rfl (lv_at hl 3 rfl) w) ?_
      refine zg_1 (pc' := 76) (fun _ _ _ _ _ hl w => lv_sipush (v := (128 : Int32)) hx hb zd_M_wrap_73 (by decide) w) ?_
      refine zg_2 (pc1 := 83) (pc2 := 79) (Classical.em _) (fun _ _ _ _ _ w1 w2 => lv_icmp_ge hx hb zd_M_wrap_76 (by decide) w1 w2) (fun hc => ?_) (fun hc => ?_)
      · rw [if_pos hc] at hf
        refine zg_1 (pc' := 86) (fun _ _ _ _ _ hl w => lv_sipush (v := (129 : Int32)) hx hb zd_M_wrap_83 (by decide) w) ?_
        refine zg_v [0, 1, 3, 4] rfl ?_
        exact zw_M_wrap_86 X hR hF hret n s_4 a0 i1 i3 i4 a_7 (i1 + (1 : Int32)) (129 : Int32) hf
      · rw [if_neg hc] at hf
        refine zg_1 (pc' := 80) (fun _ _ _ _ _ hl w => lv_iload_n hx hb zd_M_wrap_79 rfl (lv_at hl 3 rfl) w) ?_
        refine zg_1 (pc' := 86) (fun _ _ _ _ _ hl w => lv_goto hx hb zd_M_wrap_80 (by decide) w) ?_
        refine zg_v [0, 1, 3, 4] rfl ?_
        exact zw_M_wrap_86 X hR hF hret n s_4 a0 i1 i3 i4 a_7 (i1 + (1 : Int32)) i3 hf
    · rw [if_neg hc] at hf
      refine zg_1 (pc' := 36) (fun _ _ _ _ _ hl w => lv_aload_n hx hb zd_M_wrap_35 rfl (lv_at hl 0 rfl) w) ?_
      obtain ⟨h_9, hf⟩ := zx_ck hf
      obtain ⟨a_10, h_11, hf⟩ := zx_p hf
      refine zg_get (pc' := 39) (ci := 8) hx hb htT zi_M hown hK h_9 rfl rfl 0 (by decide) (htT _ zt_805) (fun _ h9 => h9) (zx_hv h_11) zd_M_wrap_36 rfl ?_
      refine zg_1 (pc' := 41) (fun _ _ _ _ _ hl w => lv_iload hx hb zd_M_wrap_39 (lv_at hl 5 rfl) w) ?_
      refine zg_1 (pc' := 43) (fun _ _ _ _ _ hl w => lv_iload hx hb zd_M_wrap_41 (lv_at hl 4 rfl) w) ?_
      refine zg_1 (pc' := 44) (fun _ _ _ _ _ hl w => lv_iadd hx hb zd_M_wrap_43 w) ?_
      refine zg_1 (pc' := 45) (fun _ _ _ _ _ hl w => lv_aload_n hx hb zd_M_wrap_44 rfl (lv_at hl 0 rfl) w) ?_
      obtain ⟨a_12, h_13, hf⟩ := zx_p hf
      refine zg_get (pc' := 48) (ci := 8) hx hb htT zi_M hown hK h_9 rfl rfl 0 (by decide) (htT _ zt_805) (fun _ h9 => h9) (zx_hv h_13) zd_M_wrap_45 rfl ?_
      refine zg_1 (pc' := 50) (fun _ _ _ _ _ hl w => lv_iload hx hb zd_M_wrap_48 (lv_at hl 5 rfl) w) ?_
      obtain ⟨h_14, hf⟩ := zx_ck hf
      refine zg_iald (pc' := 51) hx hb hK h_14 zd_M_wrap_50 rfl ?_
      obtain ⟨h_16, hf⟩ := zx_ck hf
      obtain ⟨s_15, e_s_15, hf⟩ := zx_l hf
      refine zg_iast (pc' := 52) hx hb hK h_16 e_s_15 zd_M_wrap_51 rfl ?_
      obtain ⟨i_17, e_i_17, hf⟩ := zx_l hf
      refine zg_s (pc' := 55) (lv' := [(5, .int i_17), (0, .ref (h0 + a0)), (1, .int i1), (2, .int i2), (3, .int i3), (4, .int i4)]) (fun _ _ _ _ _ hl w => lv_iinc (k := 5) (v := i_17) hx hb zd_M_wrap_52 hl rfl (by rw [e_i_17]; rfl) (by decide) rfl w) ?_
      refine zg_1 (pc' := 29) (fun _ _ _ _ _ hl w => lv_goto hx hb zd_M_wrap_55 (by decide) w) ?_
      refine zg_v [1, 2, 3, 4, 5, 0] rfl ?_
      exact ih s_15 a0 i1 i2 i3 i4 i_17 hf
set_option maxHeartbeats 4000000 in
theorem zw_M_wrap_19 {p : Program} {l : Launch} {e : Env} {R : Room} {s : State} {m : MethodId} {args : Array Value} {below : List Frame} {meth : Method} {c : Code} {Q : State → Prop} {h0 : Nat} {D : va_G} {dA : Nat → ClassId} {tb : Nat → Nat} {c0 k0 : Nat} {z : zh_S} (X : zg_X p s m args meth c ze_M_wrap 6 zr_M none h0 D dA tb) (hR : zg_R R c0 k0 z) (hF : 0 ≤ R.frames ∧ 0 ≤ R.locals) (hret : ∀ (pc : Nat) (lv : List (Nat × Value)), decode ze_M_wrap pc = .ok (.return_, 1) → zg_G p l e R s m args below meth c Q h0 D dA 6 c0 k0 z z pc lv []) (n : Nat) : ∀ (s0 : zh_S) (a0 : Nat) (i1 : Int32) (i2 : Int32) (i3 : Int32) (it0 : Int32), zb_M_wrap_19 n s0 a0 i1 i2 i3 it0 = some z → zg_G p l e R s m args below meth c Q h0 D dA 6 c0 k0 z s0 19 [(0, .ref (h0 + a0)), (1, .int i1), (2, .int i2), (3, .int i3)] [.int it0] := by
  obtain ⟨hx, hb, hml, hown, htT, hrt, hlk, x00, hIn⟩ := id X
  have hK := hIn.2.1
  have hT := hIn.2.2.1
  have hNe := hIn.2.2.2
  intro s0 a0 i1 i2 i3 it0 hf
  rw [zb_M_wrap_19] at hf
  refine zg_s (pc' := 21) (lv' := [(4, .int it0), (0, .ref (h0 + a0)), (1, .int i1), (2, .int i2), (3, .int i3)]) (fun _ _ _ _ _ hl w => lv_istore hx hb zd_M_wrap_19 hl (by decide) rfl w) ?_
  refine zg_1 (pc' := 22) (fun _ _ _ _ _ hl w => lv_aload_n hx hb zd_M_wrap_21 rfl (lv_at hl 1 rfl) w) ?_
  obtain ⟨h_1, hf⟩ := zx_ck hf
  refine zg_get (pc' := 25) (ci := 8) hx hb htT zi_M hown hK h_1 rfl rfl 1 (by decide) (htT _ zt_806) (fun _ h9 => h9) rfl zd_M_wrap_22 rfl ?_
  refine zg_1 (pc' := 26) (fun _ _ _ _ _ hl w => lv_iconst (v := (1 : Int32)) hx hb zd_M_wrap_25 (by decide) w) ?_
  refine zg_1 (pc' := 27) (fun _ _ _ _ _ hl w => lv_isub hx hb zd_M_wrap_26 w) ?_
  obtain ⟨i_2, e_i_2, hf⟩ := zx_l hf
  refine zg_ti e_i_2 ?_
  refine zg_s (pc' := 29) (lv' := [(5, .int i_2), (4, .int it0), (0, .ref (h0 + a0)), (1, .int i1), (2, .int i2), (3, .int i3)]) (fun _ _ _ _ _ hl w => lv_istore hx hb zd_M_wrap_27 hl (by decide) rfl w) ?_
  refine zg_v [2, 3, 4, 5, 1, 0] rfl ?_
  exact zw_M_wrap_29 X hR hF hret n n s0 a0 i1 i2 i3 it0 i_2 hf
set_option maxHeartbeats 4000000 in
theorem zc_M_wrap (l : Launch) (h0 : Nat) (D : va_G) (dA : Nat → ClassId) (tb : Nat → Nat) (n : Nat) {s0 : zh_S} {a0 : Nat} {i1 : Int32} {i2 : Int32} {z : zh_S} (hf : zf_M_wrap n s0 a0 i1 i2 = some z) : zc_M l zn_M_wrap zs_M_wrap 0 0 h0 D dA tb [.ref (h0 + a0), .int i1, .int i2] s0 none z := by
  rw [zf_M_wrap] at hf
  refine zc_of (cc := ze_M_wrap) (maxL := 6) (ret := none) (lv := [(0, .ref (h0 + a0)), (1, .int i1), (2, .int i2)]) (by decide) rfl (Nat.le_of_ble_eq_true rfl) rfl ?_
  intro p e s m args below meth c X hnm
  obtain ⟨hx, hb, hml, hown, htT, hrt, hlk, x00, hIn⟩ := id X
  have hK := hIn.2.1
  have hT := hIn.2.2.1
  have hNe := hIn.2.2.2
  have hR : zg_R { frames := 0, cells := zh_N z - zh_N s0, slots := zh_M z - zh_M s0, locals := 0 } (zh_N s0) (zh_M s0) z := ⟨by show zh_N z ≤ zh_N s0 + (zh_N z - zh_N s0); omega, by show zh_M z ≤ zh_M s0 + (zh_M z - zh_M s0); omega⟩
  have hF : 0 ≤ ({ frames := 0, cells := zh_N z - zh_N s0, slots := zh_M z - zh_M s0, locals := 0 } : Room).frames ∧ 0 ≤ ({ frames := 0, cells := zh_N z - zh_N s0, slots := zh_M z - zh_M s0, locals := 0 } : Room).locals := ⟨Nat.le_refl _, Nat.le_refl _⟩
  have hret := fun (pc : Nat) (lv : List (Nat × Value)) (hd : decode ze_M_wrap pc = .ok (.return_, 1)) => zg_vret (R := { frames := 0, cells := zh_N z - zh_N s0, slots := zh_M z - zh_M s0, locals := 0 }) (l := l) (e := e) (below := below) (c0 := zh_N s0) (s0 := zh_M s0) (z := z) (lv := lv) X hd
  refine zg_1 (pc' := 1) (fun _ _ _ _ _ hl w => lv_aload_n hx hb zd_M_wrap_0 rfl (lv_at hl 0 rfl) w) ?_
  obtain ⟨h_1, hf⟩ := zx_ck hf
  refine zg_get (pc' := 4) (ci := 8) hx hb htT zi_M hown hK h_1 rfl rfl 1 (by decide) (htT _ zt_806) (fun _ h9 => h9) rfl zd_M_wrap_1 rfl ?_
  refine zg_1 (pc' := 5) (fun _ _ _ _ _ hl w => lv_iload_n hx hb zd_M_wrap_4 rfl (lv_at hl 1 rfl) w) ?_
  refine zg_1 (pc' := 6) (fun _ _ _ _ _ hl w => lv_isub hx hb zd_M_wrap_5 w) ?_
  obtain ⟨i_2, e_i_2, hf⟩ := zx_l hf
  refine zg_ti e_i_2 ?_
  refine zg_s (pc' := 7) (lv' := [(3, .int i_2), (0, .ref (h0 + a0)), (1, .int i1), (2, .int i2)]) (fun _ _ _ _ _ hl w => lv_istore_n hx hb zd_M_wrap_6 rfl hl (by decide) rfl w) ?_
  refine zg_1 (pc' := 8) (fun _ _ _ _ _ hl w => lv_iload_n hx hb zd_M_wrap_7 rfl (lv_at hl 0 rfl) w) ?_
  refine zg_1 (pc' := 11) (fun _ _ _ _ _ hl w => lv_sipush (v := (128 : Int32)) hx hb zd_M_wrap_8 (by decide) w) ?_
  refine zg_2 (pc1 := 18) (pc2 := 14) (Classical.em _) (fun _ _ _ _ _ w1 w2 => lv_icmp_ge hx hb zd_M_wrap_11 (by decide) w1 w2) (fun hc => ?_) (fun hc => ?_)
  · rw [if_pos hc] at hf
    refine zg_1 (pc' := 19) (fun _ _ _ _ _ hl w => lv_iconst (v := (3 : Int32)) hx hb zd_M_wrap_18 (by decide) w) ?_
    refine zg_v [1, 2, 3, 0] rfl ?_
    exact zw_M_wrap_19 X hR hF hret n s0 a0 i1 i2 i_2 (3 : Int32) hf
  · rw [if_neg hc] at hf
    refine zg_1 (pc' := 15) (fun _ _ _ _ _ hl w => lv_iconst (v := (2 : Int32)) hx hb zd_M_wrap_14 (by decide) w) ?_
    refine zg_1 (pc' := 19) (fun _ _ _ _ _ hl w => lv_goto hx hb zd_M_wrap_15 (by decide) w) ?_
    refine zg_v [1, 2, 3, 0] rfl ?_
    exact zw_M_wrap_19 X hR hF hret n s0 a0 i1 i2 i_2 (2 : Int32) hf
set_option maxHeartbeats 4000000 in
theorem zc_M_signed (l : Launch) (h0 : Nat) (D : va_G) (dA : Nat → ClassId) (tb : Nat → Nat) (n : Nat) {s0 : zh_S} {a0 : Nat} {r : Int32} {z : zh_S} (hf : zf_M_signed n s0 a0 = some (r, z)) : zc_M l zn_M_signed zs_M_signed 3 86 h0 D dA tb [.ref (h0 + a0)] s0 (some (.int r)) z := by
  rw [zf_M_signed] at hf
  refine zc_of (cc := ze_M_signed) (maxL := 5) (ret := (some .int)) (lv := [(0, .ref (h0 + a0))]) (by decide) rfl (Nat.le_of_ble_eq_true rfl) rfl ?_
  intro p e s m args below meth c X hnm
  obtain ⟨hx, hb, hml, hown, htT, hrt, hlk, x00, hIn⟩ := id X
  have hK := hIn.2.1
  have hT := hIn.2.2.1
  have hNe := hIn.2.2.2
  have hR : zg_R { frames := 3, cells := zh_N z - zh_N s0, slots := zh_M z - zh_M s0, locals := 86 } (zh_N s0) (zh_M s0) z := ⟨by show zh_N z ≤ zh_N s0 + (zh_N z - zh_N s0); omega, by show zh_M z ≤ zh_M s0 + (zh_M z - zh_M s0); omega⟩
  have hF : 3 ≤ ({ frames := 3, cells := zh_N z - zh_N s0, slots := zh_M z - zh_M s0, locals := 86 } : Room).frames ∧ 86 ≤ ({ frames := 3, cells := zh_N z - zh_N s0, slots := zh_M z - zh_M s0, locals := 86 } : Room).locals := ⟨Nat.le_refl _, Nat.le_refl _⟩
  have hret := fun (pc : Nat) (lv : List (Nat × Value)) (hd : decode ze_M_signed pc = .ok (.ireturn, 1)) => zg_iret (R := { frames := 3, cells := zh_N z - zh_N s0, slots := zh_M z - zh_M s0, locals := 86 }) (l := l) (e := e) (below := below) (c0 := zh_N s0) (s0 := zh_M s0) (z := z) (lv := lv) (v := r) X rfl hd
  refine zg_1 (pc' := 1) (fun _ _ _ _ _ hl w => lv_aload_n hx hb zd_M_signed_0 rfl (lv_at hl 0 rfl) w) ?_
  refine zg_1 (pc' := 2) (fun _ _ _ _ _ hl w => lv_iconst (v := (0 : Int32)) hx hb zd_M_signed_1 (by decide) w) ?_
  refine zg_1 (pc' := 4) (fun _ _ _ _ _ hl w => lv_bipush (v := (48 : Int32)) hx hb zd_M_signed_2 (by decide) w) ?_
  obtain ⟨h_2, hf⟩ := zx_ck hf
  obtain ⟨s_1, hq, hf⟩ := zx_p hf
  refine zg_call (pc' := 7) (y := s_1) (rv := none) (rest := []) X hR (zm_M_wrap hq) (fun H locs ls k j hsz hI hU hk => va_runV (As := [.int (0 : Int32), .int (48 : Int32)]) (rest := []) ⟨hx, hb, hml, hown, htT⟩ (zc_M_wrap l h0 D dA tb n hq) (cwV 2 htT (zw_gV zt_980 zt_982 zt_36 zt_71 zt_983) rfl rfl rfl (by decide +kernel) ⟨Nat.le_trans (Nat.le_of_ble_eq_true rfl) hF.1, Nat.le_trans (Nat.le_of_ble_eq_true rfl) hF.2⟩) ⟨(zg_pre hU).1, zg_recv hK hI h_2 rfl, (zg_pre hU).2⟩ rfl rfl hsz rfl (lv_room (Nat.le_of_ble_eq_true rfl)) zd_M_signed_4 hk) rfl ?_
  refine zg_1 (pc' := 8) (fun _ _ _ _ _ hl w => lv_aload_n hx hb zd_M_signed_7 rfl (lv_at hl 0 rfl) w) ?_
  refine zg_1 (pc' := 9) (fun _ _ _ _ _ hl w => lv_iconst (v := (0 : Int32)) hx hb zd_M_signed_8 (by decide) w) ?_
  refine zg_1 (pc' := 10) (fun _ _ _ _ _ hl w => lv_aload_n hx hb zd_M_signed_9 rfl (lv_at hl 0 rfl) w) ?_
  obtain ⟨h_3, hf⟩ := zx_ck hf
  refine zg_get (pc' := 13) (ci := 8) hx hb htT zi_M hown hK h_3 rfl rfl 1 (by decide) (htT _ zt_806) (fun _ h9 => h9) rfl zd_M_signed_10 rfl ?_
  obtain ⟨i_4, hq, hf⟩ := zx_p hf
  refine zg_call (pc' := 16) (y := s_1) (rv := (some (.int i_4))) (rest := []) X hR ⟨Nat.le_refl _, Nat.le_refl _⟩ (fun H locs ls k j hsz hI hU hk => va_runV (As := [.int (0 : Int32), .int (zh_I s_1 a0 1)]) (rest := []) ⟨hx, hb, hml, hown, htT⟩ (zc_M_hash l h0 D dA tb n hq) (cwV 2 htT (zw_gV zt_988 zt_990 zt_38 zt_71 zt_991) rfl rfl rfl (by decide +kernel) ⟨Nat.le_trans (Nat.le_of_ble_eq_true rfl) hF.1, Nat.le_trans (Nat.le_of_ble_eq_true rfl) hF.2⟩) ⟨(zg_pre hU).1, zg_recv hK hI h_3 rfl, (zg_pre hU).2⟩ rfl rfl hsz rfl (lv_room (Nat.le_of_ble_eq_true rfl)) zd_M_signed_13 hk) rfl ?_
  refine zg_s (pc' := 17) (lv' := [(1, .int i_4), (0, .ref (h0 + a0))]) (fun _ _ _ _ _ hl w => lv_istore_n hx hb zd_M_signed_16 rfl hl (by decide) rfl w) ?_
  refine zg_1 (pc' := 18) (fun _ _ _ _ _ hl w => lv_aload_n hx hb zd_M_signed_17 rfl (lv_at hl 1 rfl) w) ?_
  obtain ⟨a_5, h_6, hf⟩ := zx_p hf
  refine zg_get (pc' := 21) (ci := 8) hx hb htT zi_M hown hK h_3 rfl rfl 2 (by decide) (htT _ zt_807) (fun _ h9 => h9) (zx_hv h_6) zd_M_signed_18 rfl ?_
  refine zg_1 (pc' := 23) (fun _ _ _ _ _ hl w => lv_bipush (v := (12 : Int32)) hx hb zd_M_signed_21 (by decide) w) ?_
  obtain ⟨h_7, hf⟩ := zx_ck hf
  refine zg_lald (pc' := 24) hx hb hK h_7 zd_M_signed_23 rfl ?_
  refine zg_1 (pc' := 25) (fun _ _ _ _ _ hl w => lv_l2i (v := (zh_J s_1 a_5 ((12 : Int32).toNatClampNeg)).toInt32) hx hb zd_M_signed_24 rfl w) ?_
  obtain ⟨i_8, e_i_8, hf⟩ := zx_l hf
  refine zg_ti e_i_8 ?_
  refine zg_s (pc' := 26) (lv' := [(2, .int i_8), (1, .int i_4), (0, .ref (h0 + a0))]) (fun _ _ _ _ _ hl w => lv_istore_n hx hb zd_M_signed_25 rfl hl (by decide) rfl w) ?_
  refine zg_1 (pc' := 27) (fun _ _ _ _ _ hl w => lv_aload_n hx hb zd_M_signed_26 rfl (lv_at hl 2 rfl) w) ?_
  refine zg_1 (pc' := 28) (fun _ _ _ _ _ hl w => lv_iload_n hx hb zd_M_signed_27 rfl (lv_at hl 0 rfl) w) ?_
  refine zg_1 (pc' := 29) (fun _ _ _ _ _ hl w => lv_iload_n hx hb zd_M_signed_28 rfl (lv_at hl 1 rfl) w) ?_
  obtain ⟨j_9, hq, hf⟩ := zx_p hf
  refine zg_call (pc' := 32) (y := s_1) (rv := (some (.long j_9))) (rest := []) X hR ⟨Nat.le_refl _, Nat.le_refl _⟩ (fun H locs ls k j hsz hI hU hk => va_runV (As := [.int i_8, .int i_4]) (rest := []) ⟨hx, hb, hml, hown, htT⟩ (zc_M_sign l h0 D dA tb n hq) (cwV 2 htT (zw_gV zt_994 zt_888 zt_889 zt_71 zt_890) rfl rfl rfl (by decide +kernel) ⟨Nat.le_trans (Nat.le_of_ble_eq_true rfl) hF.1, Nat.le_trans (Nat.le_of_ble_eq_true rfl) hF.2⟩) ⟨(zg_pre hU).1, zg_recv hK hI h_3 rfl, (zg_pre hU).2⟩ rfl rfl hsz rfl (lv_room (Nat.le_of_ble_eq_true rfl)) zd_M_signed_29 hk) rfl ?_
  refine zg_s (pc' := 33) (lv' := [(3, .long j_9), (2, .int i_8), (1, .int i_4), (0, .ref (h0 + a0))]) (fun _ _ _ _ _ hl w => lv_lstore_n hx hb zd_M_signed_32 rfl hl (by decide) rfl w) ?_
  refine zg_1 (pc' := 34) (fun _ _ _ _ _ hl w => lv_aload_n hx hb zd_M_signed_33 rfl (lv_at hl 3 rfl) w) ?_
  refine zg_1 (pc' := 35) (fun _ _ _ _ _ hl w => lv_lload_n hx hb zd_M_signed_34 rfl (lv_at hl 0 rfl) w) ?_
  obtain ⟨s_10, hq, hf⟩ := zx_p hf
  refine zg_call (pc' := 38) (y := s_10) (rv := none) (rest := []) X hR (zm_M_integer hq) (fun H locs ls k j hsz hI hU hk => va_runV (As := [.long j_9]) (rest := []) ⟨hx, hb, hml, hown, htT⟩ (zc_M_integer l h0 D dA tb n hq) (cwV 1 htT (zw_gV zt_956 zt_958 zt_30 zt_71 zt_959) rfl rfl rfl (by decide +kernel) ⟨Nat.le_trans (Nat.le_of_ble_eq_true rfl) hF.1, Nat.le_trans (Nat.le_of_ble_eq_true rfl) hF.2⟩) ⟨(zg_pre hU).1, zg_recv hK hI h_3 rfl, (zg_pre hU).2⟩ rfl rfl hsz rfl (lv_room (Nat.le_of_ble_eq_true rfl)) zd_M_signed_35 hk) rfl ?_
  refine zg_1 (pc' := 39) (fun _ _ _ _ _ hl w => lv_aload_n hx hb zd_M_signed_38 rfl (lv_at hl 3 rfl) w) ?_
  refine zg_1 (pc' := 40) (fun _ _ _ _ _ hl w => lv_iconst (v := (0 : Int32)) hx hb zd_M_signed_39 (by decide) w) ?_
  refine zg_1 (pc' := 42) (fun _ _ _ _ _ hl w => lv_bipush (v := (48 : Int32)) hx hb zd_M_signed_40 (by decide) w) ?_
  obtain ⟨h_12, hf⟩ := zx_ck hf
  obtain ⟨s_11, hq, hf⟩ := zx_p hf
  refine zg_call (pc' := 45) (y := s_11) (rv := none) (rest := []) X hR (zm_M_wrap hq) (fun H locs ls k j hsz hI hU hk => va_runV (As := [.int (0 : Int32), .int (48 : Int32)]) (rest := []) ⟨hx, hb, hml, hown, htT⟩ (zc_M_wrap l h0 D dA tb n hq) (cwV 2 htT (zw_gV zt_980 zt_982 zt_36 zt_71 zt_983) rfl rfl rfl (by decide +kernel) ⟨Nat.le_trans (Nat.le_of_ble_eq_true rfl) hF.1, Nat.le_trans (Nat.le_of_ble_eq_true rfl) hF.2⟩) ⟨(zg_pre hU).1, zg_recv hK hI h_12 rfl, (zg_pre hU).2⟩ rfl rfl hsz rfl (lv_room (Nat.le_of_ble_eq_true rfl)) zd_M_signed_42 hk) rfl ?_
  refine zg_1 (pc' := 46) (fun _ _ _ _ _ hl w => lv_aload_n hx hb zd_M_signed_45 rfl (lv_at hl 3 rfl) w) ?_
  obtain ⟨h_13, hf⟩ := zx_ck hf
  refine zg_get (pc' := 49) (ci := 8) hx hb htT zi_M hown hK h_13 rfl rfl 1 (by decide) (htT _ zt_806) (fun _ h9 => h9) rfl zd_M_signed_46 rfl ?_
  obtain ⟨rfl, rfl⟩ := zx_r2 hf
  exact hret _ _ zd_M_signed_49
set_option maxHeartbeats 4000000 in
theorem zw_M_composeList_44 {p : Program} {l : Launch} {e : Env} {R : Room} {s : State} {m : MethodId} {args : Array Value} {below : List Frame} {meth : Method} {c : Code} {Q : State → Prop} {h0 : Nat} {D : va_G} {dA : Nat → ClassId} {tb : Nat → Nat} {c0 k0 : Nat} {z : zh_S} {r : Int32} (X : zg_X p s m args meth c ze_M_composeList 4 zr_M (some .int) h0 D dA tb) (hR : zg_R R c0 k0 z) (hF : 4 ≤ R.frames ∧ 110 ≤ R.locals) (hret : ∀ (pc : Nat) (lv : List (Nat × Value)), decode ze_M_composeList pc = .ok (.ireturn, 1) → zg_G p l e R s m args below meth c Q h0 D dA 4 c0 k0 z z pc lv [.int r]) (n : Nat) (k : Nat) : ∀ (s0 : zh_S) (a0 : Nat) (i1 : Int32) (i2 : Int32), zl_M_composeList_44 n k s0 a0 i1 i2 = some (r, z) → zg_G p l e R s m args below meth c Q h0 D dA 4 c0 k0 z s0 44 [(0, .ref (h0 + a0)), (1, .int i1), (2, .int i2)] [] := by
  obtain ⟨hx, hb, hml, hown, htT, hrt, hlk, x00, hIn⟩ := id X
  have hK := hIn.2.1
  have hT := hIn.2.2.1
  have hNe := hIn.2.2.2
  induction k with
  | zero => intro s0 a0 i1 i2 hf; cases hf
  | succ k ih =>
    intro s0 a0 i1 i2 hf
    rw [zl_M_composeList_44] at hf
    refine zg_1 (pc' := 45) (fun _ _ _ _ _ hl w => lv_iload_n hx hb zd_M_composeList_44 rfl (lv_at hl 2 rfl) w) ?_
    refine zg_1 (pc' := 46) (fun _ _ _ _ _ hl w => lv_aload_n hx hb zd_M_composeList_45 rfl (lv_at hl 0 rfl) w) ?_
    obtain ⟨h_1, hf⟩ := zx_ck hf
    refine zg_get (pc' := 49) (ci := 8) hx hb htT zi_M hown hK h_1 rfl rfl 3 (by decide) (htT _ zt_808) (fun _ h9 => h9) rfl zd_M_composeList_46 rfl ?_
    refine zg_2 (pc1 := 90) (pc2 := 52) (Classical.em _) (fun _ _ _ _ _ w1 w2 => lv_icmp_ge hx hb zd_M_composeList_49 (by decide) w1 w2) (fun hc => ?_) (fun hc => ?_)
    · rw [if_pos hc] at hf
      refine zg_1 (pc' := 91) (fun _ _ _ _ _ hl w => lv_aload_n hx hb zd_M_composeList_90 rfl (lv_at hl 0 rfl) w) ?_
      refine zg_1 (pc' := 92) (fun _ _ _ _ _ hl w => lv_iload_n hx hb zd_M_composeList_91 rfl (lv_at hl 1 rfl) w) ?_
      refine zg_1 (pc' := 94) (fun _ _ _ _ _ hl w => lv_bipush (v := (48 : Int32)) hx hb zd_M_composeList_92 (by decide) w) ?_
      obtain ⟨s_2, hq, hf⟩ := zx_p hf
      refine zg_call (pc' := 97) (y := s_2) (rv := none) (rest := []) X hR (zm_M_wrap hq) (fun H locs ls k j hsz hI hU hk => va_runV (As := [.int i1, .int (48 : Int32)]) (rest := []) ⟨hx, hb, hml, hown, htT⟩ (zc_M_wrap l h0 D dA tb n hq) (cwV 2 htT (zw_gV zt_980 zt_982 zt_36 zt_71 zt_983) rfl rfl rfl (by decide +kernel) ⟨Nat.le_trans (Nat.le_of_ble_eq_true rfl) hF.1, Nat.le_trans (Nat.le_of_ble_eq_true rfl) hF.2⟩) ⟨(zg_pre hU).1, zg_recv hK hI h_1 rfl, (zg_pre hU).2⟩ rfl rfl hsz rfl (lv_room (Nat.le_of_ble_eq_true rfl)) zd_M_composeList_94 hk) rfl ?_
      refine zg_1 (pc' := 98) (fun _ _ _ _ _ hl w => lv_aload_n hx hb zd_M_composeList_97 rfl (lv_at hl 0 rfl) w) ?_
      obtain ⟨h_4, hf⟩ := zx_ck hf
      obtain ⟨i_5, s_3, hq, hf⟩ := zx_b hf
      refine zg_call (pc' := 101) (y := s_3) (rv := (some (.int i_5))) (rest := []) X hR (zm_M_signed hq) (fun H locs ls k j hsz hI hU hk => va_runV (As := []) (rest := []) ⟨hx, hb, hml, hown, htT⟩ (zc_M_signed l h0 D dA tb n hq) (cwV 0 htT (zw_gV zt_984 zt_986 zt_37 zt_71 zt_987) rfl rfl rfl (by decide +kernel) ⟨Nat.le_trans (Nat.le_of_ble_eq_true rfl) hF.1, Nat.le_trans (Nat.le_of_ble_eq_true rfl) hF.2⟩) ⟨(zg_pre hU).1, zg_recv hK hI h_4 rfl, (zg_pre hU).2⟩ rfl rfl hsz rfl (lv_room (Nat.le_of_ble_eq_true rfl)) zd_M_composeList_98 hk) rfl ?_
      obtain ⟨rfl, rfl⟩ := zx_r2 hf
      exact hret _ _ zd_M_composeList_101
    · rw [if_neg hc] at hf
      refine zg_1 (pc' := 53) (fun _ _ _ _ _ hl w => lv_aload_n hx hb zd_M_composeList_52 rfl (lv_at hl 0 rfl) w) ?_
      refine zg_get (pc' := 56) (ci := 8) hx hb htT zi_M hown hK h_1 rfl rfl 1 (by decide) (htT _ zt_806) (fun _ h9 => h9) rfl zd_M_composeList_53 rfl ?_
      obtain ⟨i_6, e_i_6, hf⟩ := zx_l hf
      refine zg_ti e_i_6 ?_
      refine zg_s (pc' := 57) (lv' := [(3, .int i_6), (0, .ref (h0 + a0)), (1, .int i1), (2, .int i2)]) (fun _ _ _ _ _ hl w => lv_istore_n hx hb zd_M_composeList_56 rfl hl (by decide) rfl w) ?_
      refine zg_1 (pc' := 58) (fun _ _ _ _ _ hl w => lv_aload_n hx hb zd_M_composeList_57 rfl (lv_at hl 1 rfl) w) ?_
      refine zg_1 (pc' := 59) (fun _ _ _ _ _ hl w => lv_aload_n hx hb zd_M_composeList_58 rfl (lv_at hl 1 rfl) w) ?_
      obtain ⟨a_7, h_8, hf⟩ := zx_p hf
      refine zg_get (pc' := 62) (ci := 8) hx hb htT zi_M hown hK h_1 rfl rfl 4 (by decide) (htT _ zt_809) (fun _ h9 => h9) (zx_hv h_8) zd_M_composeList_59 rfl ?_
      refine zg_1 (pc' := 63) (fun _ _ _ _ _ hl w => lv_iload_n hx hb zd_M_composeList_62 rfl (lv_at hl 3 rfl) w) ?_
      obtain ⟨h_9, hf⟩ := zx_ck hf
      refine zg_lald (pc' := 64) hx hb hK h_9 zd_M_composeList_63 rfl ?_
      obtain ⟨s_10, hq, hf⟩ := zx_p hf
      refine zg_call (pc' := 67) (y := s_10) (rv := none) (rest := []) X hR (zm_M_integer hq) (fun H locs ls k j hsz hI hU hk => va_runV (As := [.long (zh_J s0 a_7 (i2.toNatClampNeg))]) (rest := []) ⟨hx, hb, hml, hown, htT⟩ (zc_M_integer l h0 D dA tb n hq) (cwV 1 htT (zw_gV zt_956 zt_958 zt_30 zt_71 zt_959) rfl rfl rfl (by decide +kernel) ⟨Nat.le_trans (Nat.le_of_ble_eq_true rfl) hF.1, Nat.le_trans (Nat.le_of_ble_eq_true rfl) hF.2⟩) ⟨(zg_pre hU).1, zg_recv hK hI h_1 rfl, (zg_pre hU).2⟩ rfl rfl hsz rfl (lv_room (Nat.le_of_ble_eq_true rfl)) zd_M_composeList_64 hk) rfl ?_
      refine zg_1 (pc' := 68) (fun _ _ _ _ _ hl w => lv_aload_n hx hb zd_M_composeList_67 rfl (lv_at hl 1 rfl) w) ?_
      refine zg_1 (pc' := 69) (fun _ _ _ _ _ hl w => lv_aload_n hx hb zd_M_composeList_68 rfl (lv_at hl 1 rfl) w) ?_
      obtain ⟨h_11, hf⟩ := zx_ck hf
      obtain ⟨a_12, h_13, hf⟩ := zx_p hf
      refine zg_get (pc' := 72) (ci := 8) hx hb htT zi_M hown hK h_11 rfl rfl 5 (by decide) (htT _ zt_810) (fun _ h9 => h9) (zx_hv h_13) zd_M_composeList_69 rfl ?_
      refine zg_1 (pc' := 73) (fun _ _ _ _ _ hl w => lv_iload_n hx hb zd_M_composeList_72 rfl (lv_at hl 3 rfl) w) ?_
      obtain ⟨h_14, hf⟩ := zx_ck hf
      refine zg_lald (pc' := 74) hx hb hK h_14 zd_M_composeList_73 rfl ?_
      obtain ⟨s_15, hq, hf⟩ := zx_p hf
      refine zg_call (pc' := 77) (y := s_15) (rv := none) (rest := []) X hR (zm_M_integer hq) (fun H locs ls k j hsz hI hU hk => va_runV (As := [.long (zh_J s_10 a_12 (i2.toNatClampNeg))]) (rest := []) ⟨hx, hb, hml, hown, htT⟩ (zc_M_integer l h0 D dA tb n hq) (cwV 1 htT (zw_gV zt_956 zt_958 zt_30 zt_71 zt_959) rfl rfl rfl (by decide +kernel) ⟨Nat.le_trans (Nat.le_of_ble_eq_true rfl) hF.1, Nat.le_trans (Nat.le_of_ble_eq_true rfl) hF.2⟩) ⟨(zg_pre hU).1, zg_recv hK hI h_11 rfl, (zg_pre hU).2⟩ rfl rfl hsz rfl (lv_room (Nat.le_of_ble_eq_true rfl)) zd_M_composeList_74 hk) rfl ?_
      refine zg_1 (pc' := 78) (fun _ _ _ _ _ hl w => lv_aload_n hx hb zd_M_composeList_77 rfl (lv_at hl 1 rfl) w) ?_
      refine zg_1 (pc' := 79) (fun _ _ _ _ _ hl w => lv_iload_n hx hb zd_M_composeList_78 rfl (lv_at hl 0 rfl) w) ?_
      refine zg_1 (pc' := 81) (fun _ _ _ _ _ hl w => lv_bipush (v := (48 : Int32)) hx hb zd_M_composeList_79 (by decide) w) ?_
      obtain ⟨h_17, hf⟩ := zx_ck hf
      obtain ⟨s_16, hq, hf⟩ := zx_p hf
      refine zg_call (pc' := 84) (y := s_16) (rv := none) (rest := []) X hR (zm_M_wrap hq) (fun H locs ls k j hsz hI hU hk => va_runV (As := [.int i_6, .int (48 : Int32)]) (rest := []) ⟨hx, hb, hml, hown, htT⟩ (zc_M_wrap l h0 D dA tb n hq) (cwV 2 htT (zw_gV zt_980 zt_982 zt_36 zt_71 zt_983) rfl rfl rfl (by decide +kernel) ⟨Nat.le_trans (Nat.le_of_ble_eq_true rfl) hF.1, Nat.le_trans (Nat.le_of_ble_eq_true rfl) hF.2⟩) ⟨(zg_pre hU).1, zg_recv hK hI h_17 rfl, (zg_pre hU).2⟩ rfl rfl hsz rfl (lv_room (Nat.le_of_ble_eq_true rfl)) zd_M_composeList_81 hk) rfl ?_
      obtain ⟨i_18, e_i_18, hf⟩ := zx_l hf
      refine zg_s (pc' := 87) (lv' := [(2, .int i_18), (3, .int i_6), (0, .ref (h0 + a0)), (1, .int i1)]) (fun _ _ _ _ _ hl w => lv_iinc (k := 3) (v := i_18) hx hb zd_M_composeList_84 hl rfl (by rw [e_i_18]; rfl) (by decide) rfl w) ?_
      refine zg_1 (pc' := 44) (fun _ _ _ _ _ hl w => lv_goto hx hb zd_M_composeList_87 (by decide) w) ?_
      refine zg_v [2, 3, 0] rfl ?_
      exact ih s_16 a0 i1 i_18 hf
set_option maxHeartbeats 4000000 in
theorem zc_M_composeList (l : Launch) (h0 : Nat) (D : va_G) (dA : Nat → ClassId) (tb : Nat → Nat) (n : Nat) {s0 : zh_S} {a0 : Nat} {r : Int32} {z : zh_S} (hf : zf_M_composeList n s0 a0 = some (r, z)) : zc_M l zn_M_composeList zs_M_composeList 4 110 h0 D dA tb [.ref (h0 + a0)] s0 (some (.int r)) z := by
  rw [zf_M_composeList] at hf
  refine zc_of (cc := ze_M_composeList) (maxL := 4) (ret := (some .int)) (lv := [(0, .ref (h0 + a0))]) (by decide) rfl (Nat.le_of_ble_eq_true rfl) rfl ?_
  intro p e s m args below meth c X hnm
  obtain ⟨hx, hb, hml, hown, htT, hrt, hlk, x00, hIn⟩ := id X
  have hK := hIn.2.1
  have hT := hIn.2.2.1
  have hNe := hIn.2.2.2
  have hR : zg_R { frames := 4, cells := zh_N z - zh_N s0, slots := zh_M z - zh_M s0, locals := 110 } (zh_N s0) (zh_M s0) z := ⟨by show zh_N z ≤ zh_N s0 + (zh_N z - zh_N s0); omega, by show zh_M z ≤ zh_M s0 + (zh_M z - zh_M s0); omega⟩
  have hF : 4 ≤ ({ frames := 4, cells := zh_N z - zh_N s0, slots := zh_M z - zh_M s0, locals := 110 } : Room).frames ∧ 110 ≤ ({ frames := 4, cells := zh_N z - zh_N s0, slots := zh_M z - zh_M s0, locals := 110 } : Room).locals := ⟨Nat.le_refl _, Nat.le_refl _⟩
  have hret := fun (pc : Nat) (lv : List (Nat × Value)) (hd : decode ze_M_composeList pc = .ok (.ireturn, 1)) => zg_iret (R := { frames := 4, cells := zh_N z - zh_N s0, slots := zh_M z - zh_M s0, locals := 110 }) (l := l) (e := e) (below := below) (c0 := zh_N s0) (s0 := zh_M s0) (z := z) (lv := lv) (v := r) X rfl hd
  refine zg_1 (pc' := 1) (fun _ _ _ _ _ hl w => lv_aload_n hx hb zd_M_composeList_0 rfl (lv_at hl 0 rfl) w) ?_
  refine zg_1 (pc' := 2) (fun _ _ _ _ _ hl w => lv_iconst (v := (0 : Int32)) hx hb zd_M_composeList_1 (by decide) w) ?_
  obtain ⟨h_2, hf⟩ := zx_ck hf
  obtain ⟨s_1, e_s_1, hf⟩ := zx_l hf
  refine zg_putI (pc' := 5) (ci := 8) (ty := .int) hx hb htT zi_M zy_M zo_M zj_M hown hK h_2 rfl rfl 1 (by decide) (htT _ zt_806) (fun _ h9 => h9) (Or.inl rfl) (by decide +kernel) rfl rfl rfl e_s_1 zd_M_composeList_2 rfl ?_
  refine zg_1 (pc' := 6) (fun _ _ _ _ _ hl w => lv_aload_n hx hb zd_M_composeList_5 rfl (lv_at hl 0 rfl) w) ?_
  refine zg_1 (pc' := 8) (fun _ _ _ _ _ hl w => lv_bipush (v := (19 : Int32)) hx hb zd_M_composeList_6 (by decide) w) ?_
  refine zg_1 (pc' := 9) (fun _ _ _ _ _ hl w => lv_aload_n hx hb zd_M_composeList_8 rfl (lv_at hl 0 rfl) w) ?_
  obtain ⟨a_3, h_4, hf⟩ := zx_p hf
  refine zg_get (pc' := 12) (ci := 8) hx hb htT zi_M hown hK (zx_oI e_s_1 h_2) rfl rfl 2 (by decide) (htT _ zt_807) (fun _ h9 => h9) (zx_hv h_4) zd_M_composeList_9 rfl ?_
  refine zg_1 (pc' := 13) (fun _ _ _ _ _ hl w => lv_iconst (v := (1 : Int32)) hx hb zd_M_composeList_12 (by decide) w) ?_
  obtain ⟨h_5, hf⟩ := zx_ck hf
  refine zg_lald (pc' := 14) hx hb hK h_5 zd_M_composeList_13 rfl ?_
  obtain ⟨s_6, hq, hf⟩ := zx_p hf
  refine zg_call (pc' := 17) (y := s_6) (rv := none) (rest := []) X hR (zm_M_name hq) (fun H locs ls k j hsz hI hU hk => va_runV (As := [.int (19 : Int32), .long (zh_J s_1 a_3 ((1 : Int32).toNatClampNeg))]) (rest := []) ⟨hx, hb, hml, hown, htT⟩ (zc_M_name l h0 D dA tb n hq) (cwV 2 htT (zw_gV zt_964 zt_966 zt_32 zt_71 zt_967) rfl rfl rfl (by decide +kernel) ⟨Nat.le_trans (Nat.le_of_ble_eq_true rfl) hF.1, Nat.le_trans (Nat.le_of_ble_eq_true rfl) hF.2⟩) ⟨(zg_pre hU).1, zg_recv hK hI (zx_oI e_s_1 h_2) rfl, (zg_pre hU).2⟩ rfl rfl hsz rfl (lv_room (Nat.le_of_ble_eq_true rfl)) zd_M_composeList_14 hk) rfl ?_
  refine zg_1 (pc' := 18) (fun _ _ _ _ _ hl w => lv_aload_n hx hb zd_M_composeList_17 rfl (lv_at hl 0 rfl) w) ?_
  refine zg_1 (pc' := 19) (fun _ _ _ _ _ hl w => lv_aload_n hx hb zd_M_composeList_18 rfl (lv_at hl 0 rfl) w) ?_
  obtain ⟨h_7, hf⟩ := zx_ck hf
  obtain ⟨a_8, h_9, hf⟩ := zx_p hf
  refine zg_get (pc' := 22) (ci := 8) hx hb htT zi_M hown hK h_7 rfl rfl 2 (by decide) (htT _ zt_807) (fun _ h9 => h9) (zx_hv h_9) zd_M_composeList_19 rfl ?_
  refine zg_1 (pc' := 23) (fun _ _ _ _ _ hl w => lv_iconst (v := (2 : Int32)) hx hb zd_M_composeList_22 (by decide) w) ?_
  obtain ⟨h_10, hf⟩ := zx_ck hf
  refine zg_lald (pc' := 24) hx hb hK h_10 zd_M_composeList_23 rfl ?_
  obtain ⟨s_11, hq, hf⟩ := zx_p hf
  refine zg_call (pc' := 27) (y := s_11) (rv := none) (rest := []) X hR (zm_M_integer hq) (fun H locs ls k j hsz hI hU hk => va_runV (As := [.long (zh_J s_6 a_8 ((2 : Int32).toNatClampNeg))]) (rest := []) ⟨hx, hb, hml, hown, htT⟩ (zc_M_integer l h0 D dA tb n hq) (cwV 1 htT (zw_gV zt_956 zt_958 zt_30 zt_71 zt_959) rfl rfl rfl (by decide +kernel) ⟨Nat.le_trans (Nat.le_of_ble_eq_true rfl) hF.1, Nat.le_trans (Nat.le_of_ble_eq_true rfl) hF.2⟩) ⟨(zg_pre hU).1, zg_recv hK hI h_7 rfl, (zg_pre hU).2⟩ rfl rfl hsz rfl (lv_room (Nat.le_of_ble_eq_true rfl)) zd_M_composeList_24 hk) rfl ?_
  refine zg_1 (pc' := 28) (fun _ _ _ _ _ hl w => lv_aload_n hx hb zd_M_composeList_27 rfl (lv_at hl 0 rfl) w) ?_
  refine zg_1 (pc' := 29) (fun _ _ _ _ _ hl w => lv_aload_n hx hb zd_M_composeList_28 rfl (lv_at hl 0 rfl) w) ?_
  obtain ⟨h_12, hf⟩ := zx_ck hf
  obtain ⟨a_13, h_14, hf⟩ := zx_p hf
  refine zg_get (pc' := 32) (ci := 8) hx hb htT zi_M hown hK h_12 rfl rfl 2 (by decide) (htT _ zt_807) (fun _ h9 => h9) (zx_hv h_14) zd_M_composeList_29 rfl ?_
  refine zg_1 (pc' := 33) (fun _ _ _ _ _ hl w => lv_iconst (v := (3 : Int32)) hx hb zd_M_composeList_32 (by decide) w) ?_
  obtain ⟨h_15, hf⟩ := zx_ck hf
  refine zg_lald (pc' := 34) hx hb hK h_15 zd_M_composeList_33 rfl ?_
  obtain ⟨s_16, hq, hf⟩ := zx_p hf
  refine zg_call (pc' := 37) (y := s_16) (rv := none) (rest := []) X hR (zm_M_integer hq) (fun H locs ls k j hsz hI hU hk => va_runV (As := [.long (zh_J s_11 a_13 ((3 : Int32).toNatClampNeg))]) (rest := []) ⟨hx, hb, hml, hown, htT⟩ (zc_M_integer l h0 D dA tb n hq) (cwV 1 htT (zw_gV zt_956 zt_958 zt_30 zt_71 zt_959) rfl rfl rfl (by decide +kernel) ⟨Nat.le_trans (Nat.le_of_ble_eq_true rfl) hF.1, Nat.le_trans (Nat.le_of_ble_eq_true rfl) hF.2⟩) ⟨(zg_pre hU).1, zg_recv hK hI h_12 rfl, (zg_pre hU).2⟩ rfl rfl hsz rfl (lv_room (Nat.le_of_ble_eq_true rfl)) zd_M_composeList_34 hk) rfl ?_
  refine zg_1 (pc' := 38) (fun _ _ _ _ _ hl w => lv_aload_n hx hb zd_M_composeList_37 rfl (lv_at hl 0 rfl) w) ?_
  obtain ⟨h_17, hf⟩ := zx_ck hf
  refine zg_get (pc' := 41) (ci := 8) hx hb htT zi_M hown hK h_17 rfl rfl 1 (by decide) (htT _ zt_806) (fun _ h9 => h9) rfl zd_M_composeList_38 rfl ?_
  obtain ⟨i_18, e_i_18, hf⟩ := zx_l hf
  refine zg_ti e_i_18 ?_
  refine zg_s (pc' := 42) (lv' := [(1, .int i_18), (0, .ref (h0 + a0))]) (fun _ _ _ _ _ hl w => lv_istore_n hx hb zd_M_composeList_41 rfl hl (by decide) rfl w) ?_
  refine zg_1 (pc' := 43) (fun _ _ _ _ _ hl w => lv_iconst (v := (0 : Int32)) hx hb zd_M_composeList_42 (by decide) w) ?_
  refine zg_s (pc' := 44) (lv' := [(2, .int (0 : Int32)), (1, .int i_18), (0, .ref (h0 + a0))]) (fun _ _ _ _ _ hl w => lv_istore_n hx hb zd_M_composeList_43 rfl hl (by decide) rfl w) ?_
  refine zg_v [2, 1, 0] rfl ?_
  exact zw_M_composeList_44 X hR hF hret n n s_16 a0 i_18 (0 : Int32) hf
set_option maxHeartbeats 4000000 in
theorem zc_Draft_appendTrue (l : Launch) (h0 : Nat) (D : va_G) (dA : Nat → ClassId) (tb : Nat → Nat) (n : Nat) {s0 : zh_S} {a0 : Nat} {z : zh_S} (hf : zf_Draft_appendTrue n s0 a0 = some z) : zc_M l zn_Draft_appendTrue zs_Draft_appendTrue 2 41 h0 D dA tb [.ref (h0 + a0)] s0 none z := by
  rw [zf_Draft_appendTrue] at hf
  refine zc_of (cc := ze_Draft_appendTrue) (maxL := 1) (ret := none) (lv := [(0, .ref (h0 + a0))]) (by decide) rfl (Nat.le_of_ble_eq_true rfl) rfl ?_
  intro p e s m args below meth c X hnm
  obtain ⟨hx, hb, hml, hown, htT, hrt, hlk, x00, hIn⟩ := id X
  have hK := hIn.2.1
  have hT := hIn.2.2.1
  have hNe := hIn.2.2.2
  have hR : zg_R { frames := 2, cells := zh_N z - zh_N s0, slots := zh_M z - zh_M s0, locals := 41 } (zh_N s0) (zh_M s0) z := ⟨by show zh_N z ≤ zh_N s0 + (zh_N z - zh_N s0); omega, by show zh_M z ≤ zh_M s0 + (zh_M z - zh_M s0); omega⟩
  have hF : 2 ≤ ({ frames := 2, cells := zh_N z - zh_N s0, slots := zh_M z - zh_M s0, locals := 41 } : Room).frames ∧ 41 ≤ ({ frames := 2, cells := zh_N z - zh_N s0, slots := zh_M z - zh_M s0, locals := 41 } : Room).locals := ⟨Nat.le_refl _, Nat.le_refl _⟩
  have hret := fun (pc : Nat) (lv : List (Nat × Value)) (hd : decode ze_Draft_appendTrue pc = .ok (.return_, 1)) => zg_vret (R := { frames := 2, cells := zh_N z - zh_N s0, slots := zh_M z - zh_M s0, locals := 41 }) (l := l) (e := e) (below := below) (c0 := zh_N s0) (s0 := zh_M s0) (z := z) (lv := lv) X hd
  refine zg_1 (pc' := 1) (fun _ _ _ _ _ hl w => lv_aload_n hx hb zd_Draft_appendTrue_0 rfl (lv_at hl 0 rfl) w) ?_
  refine zg_1 (pc' := 2) (fun _ _ _ _ _ hl w => lv_iconst (v := (1 : Int32)) hx hb zd_Draft_appendTrue_1 (by decide) w) ?_
  obtain ⟨h_2, hf⟩ := zx_ck hf
  obtain ⟨i_3, s_1, hq, hf⟩ := zx_b hf
  refine zg_call (pc' := 5) (y := s_1) (rv := (some (.int i_3))) (rest := []) X hR (zm_Draft_append hq) (fun H locs ls k j hsz hI hU hk => va_runV (As := [.int (1 : Int32)]) (rest := []) ⟨hx, hb, hml, hown, htT⟩ (zc_Draft_append l h0 D dA tb n hq) (cwV 1 htT (zw_gV zt_402 zt_320 zt_321 zt_65 zt_322) rfl rfl rfl (by decide +kernel) ⟨Nat.le_trans (Nat.le_of_ble_eq_true rfl) hF.1, Nat.le_trans (Nat.le_of_ble_eq_true rfl) hF.2⟩) ⟨(zg_pre hU).1, zg_recv hK hI h_2 rfl, (zg_pre hU).2⟩ rfl rfl hsz rfl (lv_room (Nat.le_of_ble_eq_true rfl)) zd_Draft_appendTrue_2 hk) rfl ?_
  refine zg_1 (pc' := 6) (fun _ _ _ _ _ hl w => lv_pop hx hb zd_Draft_appendTrue_5 rfl w) ?_
  refine zg_1 (pc' := 7) (fun _ _ _ _ _ hl w => lv_aload_n hx hb zd_Draft_appendTrue_6 rfl (lv_at hl 0 rfl) w) ?_
  refine zg_1 (pc' := 8) (fun _ _ _ _ _ hl w => lv_iconst (v := (1 : Int32)) hx hb zd_Draft_appendTrue_7 (by decide) w) ?_
  obtain ⟨h_5, hf⟩ := zx_ck hf
  obtain ⟨i_6, s_4, hq, hf⟩ := zx_b hf
  refine zg_call (pc' := 11) (y := s_4) (rv := (some (.int i_6))) (rest := []) X hR (zm_Draft_append hq) (fun H locs ls k j hsz hI hU hk => va_runV (As := [.int (1 : Int32)]) (rest := []) ⟨hx, hb, hml, hown, htT⟩ (zc_Draft_append l h0 D dA tb n hq) (cwV 1 htT (zw_gV zt_402 zt_320 zt_321 zt_65 zt_322) rfl rfl rfl (by decide +kernel) ⟨Nat.le_trans (Nat.le_of_ble_eq_true rfl) hF.1, Nat.le_trans (Nat.le_of_ble_eq_true rfl) hF.2⟩) ⟨(zg_pre hU).1, zg_recv hK hI h_5 rfl, (zg_pre hU).2⟩ rfl rfl hsz rfl (lv_room (Nat.le_of_ble_eq_true rfl)) zd_Draft_appendTrue_8 hk) rfl ?_
  refine zg_1 (pc' := 12) (fun _ _ _ _ _ hl w => lv_pop hx hb zd_Draft_appendTrue_11 rfl w) ?_
  refine zg_1 (pc' := 13) (fun _ _ _ _ _ hl w => lv_aload_n hx hb zd_Draft_appendTrue_12 rfl (lv_at hl 0 rfl) w) ?_
  refine zg_1 (pc' := 16) (fun _ _ _ _ _ hl w => lv_sipush (v := (255 : Int32)) hx hb zd_Draft_appendTrue_13 (by decide) w) ?_
  obtain ⟨h_8, hf⟩ := zx_ck hf
  obtain ⟨i_9, s_7, hq, hf⟩ := zx_b hf
  refine zg_call (pc' := 19) (y := s_7) (rv := (some (.int i_9))) (rest := []) X hR (zm_Draft_append hq) (fun H locs ls k j hsz hI hU hk => va_runV (As := [.int (255 : Int32)]) (rest := []) ⟨hx, hb, hml, hown, htT⟩ (zc_Draft_append l h0 D dA tb n hq) (cwV 1 htT (zw_gV zt_402 zt_320 zt_321 zt_65 zt_322) rfl rfl rfl (by decide +kernel) ⟨Nat.le_trans (Nat.le_of_ble_eq_true rfl) hF.1, Nat.le_trans (Nat.le_of_ble_eq_true rfl) hF.2⟩) ⟨(zg_pre hU).1, zg_recv hK hI h_8 rfl, (zg_pre hU).2⟩ rfl rfl hsz rfl (lv_room (Nat.le_of_ble_eq_true rfl)) zd_Draft_appendTrue_16 hk) rfl ?_
  refine zg_1 (pc' := 20) (fun _ _ _ _ _ hl w => lv_pop hx hb zd_Draft_appendTrue_19 rfl w) ?_
  obtain rfl := zx_r1 hf
  exact hret _ _ zd_Draft_appendTrue_20
set_option maxHeartbeats 4000000 in
theorem zw_Tool_writeRealm_73 {p : Program} {l : Launch} {e : Env} {R : Room} {s : State} {m : MethodId} {args : Array Value} {below : List Frame} {meth : Method} {c : Code} {Q : State → Prop} {h0 : Nat} {D : va_G} {dA : Nat → ClassId} {tb : Nat → Nat} {c0 k0 : Nat} {z : zh_S} (X : zg_X p s m args meth c ze_Tool_writeRealm 4 zr_Tool none h0 D dA tb) (hR : zg_R R c0 k0 z) (hF : 3 ≤ R.frames ∧ 66 ≤ R.locals) (hret : ∀ (pc : Nat) (lv : List (Nat × Value)), decode ze_Tool_writeRealm pc = .ok (.return_, 1) → zg_G p l e R s m args below meth c Q h0 D dA 4 c0 k0 z z pc lv []) (n : Nat) : ∀ (s0 : zh_S) (a1 : Nat) (i2 : Int32) (i3 : Int32), zb_Tool_writeRealm_73 n s0 a1 i2 i3 = some z → zg_G p l e R s m args below meth c Q h0 D dA 4 c0 k0 z s0 73 [(1, .ref (h0 + a1)), (2, .int i2), (3, .int i3)] [] := by
  obtain ⟨hx, hb, hml, hown, htT, hrt, hlk, x00, hIn⟩ := id X
  have hK := hIn.2.1
  have hT := hIn.2.2.1
  have hNe := hIn.2.2.2
  intro s0 a1 i2 i3 hf
  rw [zb_Tool_writeRealm_73] at hf
  refine zg_1 (pc' := 74) (fun _ _ _ _ _ hl w => lv_aload_n hx hb zd_Tool_writeRealm_73 rfl (lv_at hl 0 rfl) w) ?_
  refine zg_1 (pc' := 75) (fun _ _ _ _ _ hl w => lv_iload_n hx hb zd_Tool_writeRealm_74 rfl (lv_at hl 2 rfl) w) ?_
  refine zg_1 (pc' := 77) (fun _ _ _ _ _ hl w => lv_bipush (v := (48 : Int32)) hx hb zd_Tool_writeRealm_75 (by decide) w) ?_
  obtain ⟨h_2, hf⟩ := zx_ck hf
  obtain ⟨s_1, hq, hf⟩ := zx_p hf
  refine zg_call (pc' := 80) (y := s_1) (rv := none) (rest := []) X hR (zm_Draft_wrap hq) (fun H locs ls k j hsz hI hU hk => va_runV (As := [.int i3, .int (48 : Int32)]) (rest := []) ⟨hx, hb, hml, hown, htT⟩ (zc_Draft_wrap l h0 D dA tb n hq) (cwV 2 htT (zw_gV zt_428 zt_429 zt_430 zt_65 zt_431) rfl rfl rfl (by decide +kernel) ⟨Nat.le_trans (Nat.le_of_ble_eq_true rfl) hF.1, Nat.le_trans (Nat.le_of_ble_eq_true rfl) hF.2⟩) ⟨(zg_pre hU).1, zg_recv hK hI h_2 rfl, (zg_pre hU).2⟩ rfl rfl hsz rfl (lv_room (Nat.le_of_ble_eq_true rfl)) zd_Tool_writeRealm_77 hk) rfl ?_
  refine zg_1 (pc' := 81) (fun _ _ _ _ _ hl w => lv_aload_n hx hb zd_Tool_writeRealm_80 rfl (lv_at hl 0 rfl) w) ?_
  refine zg_1 (pc' := 82) (fun _ _ _ _ _ hl w => lv_iload_n hx hb zd_Tool_writeRealm_81 rfl (lv_at hl 1 rfl) w) ?_
  refine zg_1 (pc' := 84) (fun _ _ _ _ _ hl w => lv_bipush (v := (48 : Int32)) hx hb zd_Tool_writeRealm_82 (by decide) w) ?_
  obtain ⟨h_4, hf⟩ := zx_ck hf
  obtain ⟨s_3, hq, hf⟩ := zx_p hf
  refine zg_call (pc' := 87) (y := s_3) (rv := none) (rest := []) X hR (zm_Draft_wrap hq) (fun H locs ls k j hsz hI hU hk => va_runV (As := [.int i2, .int (48 : Int32)]) (rest := []) ⟨hx, hb, hml, hown, htT⟩ (zc_Draft_wrap l h0 D dA tb n hq) (cwV 2 htT (zw_gV zt_428 zt_429 zt_430 zt_65 zt_431) rfl rfl rfl (by decide +kernel) ⟨Nat.le_trans (Nat.le_of_ble_eq_true rfl) hF.1, Nat.le_trans (Nat.le_of_ble_eq_true rfl) hF.2⟩) ⟨(zg_pre hU).1, zg_recv hK hI h_4 rfl, (zg_pre hU).2⟩ rfl rfl hsz rfl (lv_room (Nat.le_of_ble_eq_true rfl)) zd_Tool_writeRealm_84 hk) rfl ?_
  obtain rfl := zx_r1 hf
  exact hret _ _ zd_Tool_writeRealm_87
set_option maxHeartbeats 4000000 in
theorem zw_Tool_writeRealm_47 {p : Program} {l : Launch} {e : Env} {R : Room} {s : State} {m : MethodId} {args : Array Value} {below : List Frame} {meth : Method} {c : Code} {Q : State → Prop} {h0 : Nat} {D : va_G} {dA : Nat → ClassId} {tb : Nat → Nat} {c0 k0 : Nat} {z : zh_S} (X : zg_X p s m args meth c ze_Tool_writeRealm 4 zr_Tool none h0 D dA tb) (hR : zg_R R c0 k0 z) (hF : 3 ≤ R.frames ∧ 66 ≤ R.locals) (hret : ∀ (pc : Nat) (lv : List (Nat × Value)), decode ze_Tool_writeRealm pc = .ok (.return_, 1) → zg_G p l e R s m args below meth c Q h0 D dA 4 c0 k0 z z pc lv []) (n : Nat) : ∀ (s0 : zh_S) (a0 : Nat) (a1 : Nat) (i2 : Int32) (i3 : Int32), zb_Tool_writeRealm_47 n s0 a0 a1 i2 i3 = some z → zg_G p l e R s m args below meth c Q h0 D dA 4 c0 k0 z s0 47 [(0, .ref (h0 + a0)), (1, .ref (h0 + a1)), (2, .int i2), (3, .int i3)] [] := by
  obtain ⟨hx, hb, hml, hown, htT, hrt, hlk, x00, hIn⟩ := id X
  have hK := hIn.2.1
  have hT := hIn.2.2.1
  have hNe := hIn.2.2.2
  intro s0 a0 a1 i2 i3 hf
  rw [zb_Tool_writeRealm_47] at hf
  refine zg_1 (pc' := 48) (fun _ _ _ _ _ hl w => lv_aload_n hx hb zd_Tool_writeRealm_47 rfl (lv_at hl 0 rfl) w) ?_
  obtain ⟨h_1, hf⟩ := zx_ck hf
  obtain ⟨a_2, h_3, hf⟩ := zx_p hf
  refine zg_get (pc' := 51) (ci := 6) hx hb htT zi_Tool hown hK h_1 rfl rfl 0 (by decide) (htT _ zt_112) (fun _ h9 => h9) (zx_hv h_3) zd_Tool_writeRealm_48 rfl ?_
  refine zg_1 (pc' := 53) (fun _ _ _ _ _ hl w => lv_bipush (v := (10 : Int32)) hx hb zd_Tool_writeRealm_51 (by decide) w) ?_
  obtain ⟨h_4, hf⟩ := zx_ck hf
  refine zg_lald (pc' := 54) hx hb hK h_4 zd_Tool_writeRealm_53 rfl ?_
  refine zg_1 (pc' := 55) (fun _ _ _ _ _ hl w => lv_lconst (v := (0 : Int64)) hx hb zd_Tool_writeRealm_54 (by decide) w) ?_
  refine zg_1 (pc' := 56) (fun _ _ _ _ _ hl w => W.lcmp hx hb zd_Tool_writeRealm_55 w) ?_
  refine zg_2 (pc1 := 73) (pc2 := 59) (Classical.em _) (fun _ _ _ _ _ w1 w2 => lv_if_eq hx hb zd_Tool_writeRealm_56 (by decide) w1 w2) (fun hc => ?_) (fun hc => ?_)
  · rw [if_pos hc] at hf
    refine zg_v [1, 2, 3] rfl ?_
    exact zw_Tool_writeRealm_73 X hR hF hret n s0 a1 i2 i3 hf
  · rw [if_neg hc] at hf
    refine zg_1 (pc' := 60) (fun _ _ _ _ _ hl w => lv_aload_n hx hb zd_Tool_writeRealm_59 rfl (lv_at hl 1 rfl) w) ?_
    refine zg_1 (pc' := 63) (fun _ _ _ _ _ hl w => lv_sipush (v := (129 : Int32)) hx hb zd_Tool_writeRealm_60 (by decide) w) ?_
    refine zg_1 (pc' := 64) (fun _ _ _ _ _ hl w => lv_aload_n hx hb zd_Tool_writeRealm_63 rfl (lv_at hl 0 rfl) w) ?_
    obtain ⟨a_5, h_6, hf⟩ := zx_p hf
    refine zg_get (pc' := 67) (ci := 6) hx hb htT zi_Tool hown hK h_1 rfl rfl 0 (by decide) (htT _ zt_112) (fun _ h9 => h9) (zx_hv h_6) zd_Tool_writeRealm_64 rfl ?_
    refine zg_1 (pc' := 69) (fun _ _ _ _ _ hl w => lv_bipush (v := (10 : Int32)) hx hb zd_Tool_writeRealm_67 (by decide) w) ?_
    obtain ⟨h_7, hf⟩ := zx_ck hf
    refine zg_lald (pc' := 70) hx hb hK h_7 zd_Tool_writeRealm_69 rfl ?_
    obtain ⟨h_9, hf⟩ := zx_ck hf
    obtain ⟨s_8, hq, hf⟩ := zx_p hf
    refine zg_call (pc' := 73) (y := s_8) (rv := none) (rest := []) X hR (zm_Draft_appendName hq) (fun H locs ls k j hsz hI hU hk => va_runV (As := [.int (129 : Int32), .long (zh_J s0 a_5 ((10 : Int32).toNatClampNeg))]) (rest := []) ⟨hx, hb, hml, hown, htT⟩ (zc_Draft_appendName l h0 D dA tb n hq) (cwV 2 htT (zw_gV zt_403 zt_404 zt_405 zt_65 zt_406) rfl rfl rfl (by decide +kernel) ⟨Nat.le_trans (Nat.le_of_ble_eq_true rfl) hF.1, Nat.le_trans (Nat.le_of_ble_eq_true rfl) hF.2⟩) ⟨(zg_pre hU).1, zg_recv hK hI h_9 rfl, (zg_pre hU).2⟩ rfl rfl hsz rfl (lv_room (Nat.le_of_ble_eq_true rfl)) zd_Tool_writeRealm_70 hk) rfl ?_
    refine zg_v [1, 2, 3] rfl ?_
    exact zw_Tool_writeRealm_73 X hR hF hret n s_8 a1 i2 i3 hf
set_option maxHeartbeats 4000000 in
theorem zc_Tool_writeRealm (l : Launch) (h0 : Nat) (D : va_G) (dA : Nat → ClassId) (tb : Nat → Nat) (n : Nat) {s0 : zh_S} {a0 : Nat} {a1 : Nat} {z : zh_S} (hf : zf_Tool_writeRealm n s0 a0 a1 = some z) : zc_M l zn_Tool_writeRealm zs_Tool_writeRealm 3 66 h0 D dA tb [.ref (h0 + a0), .ref (h0 + a1)] s0 none z := by
  rw [zf_Tool_writeRealm] at hf
  refine zc_of (cc := ze_Tool_writeRealm) (maxL := 4) (ret := none) (lv := [(0, .ref (h0 + a0)), (1, .ref (h0 + a1))]) (by decide) rfl (Nat.le_of_ble_eq_true rfl) rfl ?_
  intro p e s m args below meth c X hnm
  obtain ⟨hx, hb, hml, hown, htT, hrt, hlk, x00, hIn⟩ := id X
  have hK := hIn.2.1
  have hT := hIn.2.2.1
  have hNe := hIn.2.2.2
  have hR : zg_R { frames := 3, cells := zh_N z - zh_N s0, slots := zh_M z - zh_M s0, locals := 66 } (zh_N s0) (zh_M s0) z := ⟨by show zh_N z ≤ zh_N s0 + (zh_N z - zh_N s0); omega, by show zh_M z ≤ zh_M s0 + (zh_M z - zh_M s0); omega⟩
  have hF : 3 ≤ ({ frames := 3, cells := zh_N z - zh_N s0, slots := zh_M z - zh_M s0, locals := 66 } : Room).frames ∧ 66 ≤ ({ frames := 3, cells := zh_N z - zh_N s0, slots := zh_M z - zh_M s0, locals := 66 } : Room).locals := ⟨Nat.le_refl _, Nat.le_refl _⟩
  have hret := fun (pc : Nat) (lv : List (Nat × Value)) (hd : decode ze_Tool_writeRealm pc = .ok (.return_, 1)) => zg_vret (R := { frames := 3, cells := zh_N z - zh_N s0, slots := zh_M z - zh_M s0, locals := 66 }) (l := l) (e := e) (below := below) (c0 := zh_N s0) (s0 := zh_M s0) (z := z) (lv := lv) X hd
  refine zg_1 (pc' := 1) (fun _ _ _ _ _ hl w => lv_aload_n hx hb zd_Tool_writeRealm_0 rfl (lv_at hl 1 rfl) w) ?_
  obtain ⟨h_1, hf⟩ := zx_ck hf
  refine zg_get (pc' := 4) (ci := 1) hx hb htT zi_Draft hown hK h_1 rfl rfl 1 (by decide) (htT _ zt_97) (fun _ h9 => h9) rfl zd_Tool_writeRealm_1 rfl ?_
  obtain ⟨i_2, e_i_2, hf⟩ := zx_l hf
  refine zg_ti e_i_2 ?_
  refine zg_s (pc' := 5) (lv' := [(2, .int i_2), (0, .ref (h0 + a0)), (1, .ref (h0 + a1))]) (fun _ _ _ _ _ hl w => lv_istore_n hx hb zd_Tool_writeRealm_4 rfl hl (by decide) rfl w) ?_
  refine zg_1 (pc' := 6) (fun _ _ _ _ _ hl w => lv_aload_n hx hb zd_Tool_writeRealm_5 rfl (lv_at hl 2 rfl) w) ?_
  refine zg_1 (pc' := 9) (fun _ _ _ _ _ hl w => lv_ldc2 (v := (3 : Int64)) hx hb hown (htT _ zt_443) zd_Tool_writeRealm_6 w) ?_
  obtain ⟨s_3, hq, hf⟩ := zx_p hf
  refine zg_call (pc' := 12) (y := s_3) (rv := none) (rest := []) X hR (zm_Draft_appendInteger hq) (fun H locs ls k j hsz hI hU hk => va_runV (As := [.long (3 : Int64)]) (rest := []) ⟨hx, hb, hml, hown, htT⟩ (zc_Draft_appendInteger l h0 D dA tb n hq) (cwV 1 htT (zw_gV zt_398 zt_399 zt_400 zt_65 zt_401) rfl rfl rfl (by decide +kernel) ⟨Nat.le_trans (Nat.le_of_ble_eq_true rfl) hF.1, Nat.le_trans (Nat.le_of_ble_eq_true rfl) hF.2⟩) ⟨(zg_pre hU).1, zg_recv hK hI h_1 rfl, (zg_pre hU).2⟩ rfl rfl hsz rfl (lv_room (Nat.le_of_ble_eq_true rfl)) zd_Tool_writeRealm_9 hk) rfl ?_
  refine zg_1 (pc' := 13) (fun _ _ _ _ _ hl w => lv_aload_n hx hb zd_Tool_writeRealm_12 rfl (lv_at hl 2 rfl) w) ?_
  obtain ⟨h_5, hf⟩ := zx_ck hf
  obtain ⟨s_4, hq, hf⟩ := zx_p hf
  refine zg_call (pc' := 16) (y := s_4) (rv := none) (rest := []) X hR (zm_Draft_appendTrue hq) (fun H locs ls k j hsz hI hU hk => va_runV (As := []) (rest := []) ⟨hx, hb, hml, hown, htT⟩ (zc_Draft_appendTrue l h0 D dA tb n hq) (cwV 0 htT (zw_gV zt_424 zt_425 zt_426 zt_65 zt_427) rfl rfl rfl (by decide +kernel) ⟨Nat.le_trans (Nat.le_of_ble_eq_true rfl) hF.1, Nat.le_trans (Nat.le_of_ble_eq_true rfl) hF.2⟩) ⟨(zg_pre hU).1, zg_recv hK hI h_5 rfl, (zg_pre hU).2⟩ rfl rfl hsz rfl (lv_room (Nat.le_of_ble_eq_true rfl)) zd_Tool_writeRealm_13 hk) rfl ?_
  refine zg_1 (pc' := 17) (fun _ _ _ _ _ hl w => lv_aload_n hx hb zd_Tool_writeRealm_16 rfl (lv_at hl 2 rfl) w) ?_
  obtain ⟨h_6, hf⟩ := zx_ck hf
  refine zg_get (pc' := 20) (ci := 1) hx hb htT zi_Draft hown hK h_6 rfl rfl 1 (by decide) (htT _ zt_97) (fun _ h9 => h9) rfl zd_Tool_writeRealm_17 rfl ?_
  obtain ⟨i_7, e_i_7, hf⟩ := zx_l hf
  refine zg_ti e_i_7 ?_
  refine zg_s (pc' := 21) (lv' := [(3, .int i_7), (2, .int i_2), (0, .ref (h0 + a0)), (1, .ref (h0 + a1))]) (fun _ _ _ _ _ hl w => lv_istore_n hx hb zd_Tool_writeRealm_20 rfl hl (by decide) rfl w) ?_
  refine zg_1 (pc' := 22) (fun _ _ _ _ _ hl w => lv_aload_n hx hb zd_Tool_writeRealm_21 rfl (lv_at hl 2 rfl) w) ?_
  obtain ⟨h_8, hf⟩ := zx_ck hf
  obtain ⟨a_9, h_10, hf⟩ := zx_p hf
  refine zg_get (pc' := 25) (ci := 6) hx hb htT zi_Tool hown hK h_8 rfl rfl 0 (by decide) (htT _ zt_112) (fun _ h9 => h9) (zx_hv h_10) zd_Tool_writeRealm_22 rfl ?_
  refine zg_1 (pc' := 27) (fun _ _ _ _ _ hl w => lv_bipush (v := (9 : Int32)) hx hb zd_Tool_writeRealm_25 (by decide) w) ?_
  obtain ⟨h_11, hf⟩ := zx_ck hf
  refine zg_lald (pc' := 28) hx hb hK h_11 zd_Tool_writeRealm_27 rfl ?_
  refine zg_1 (pc' := 29) (fun _ _ _ _ _ hl w => lv_lconst (v := (0 : Int64)) hx hb zd_Tool_writeRealm_28 (by decide) w) ?_
  refine zg_1 (pc' := 30) (fun _ _ _ _ _ hl w => W.lcmp hx hb zd_Tool_writeRealm_29 w) ?_
  refine zg_2 (pc1 := 47) (pc2 := 33) (Classical.em _) (fun _ _ _ _ _ w1 w2 => lv_if_eq hx hb zd_Tool_writeRealm_30 (by decide) w1 w2) (fun hc => ?_) (fun hc => ?_)
  · rw [if_pos hc] at hf
    refine zg_v [2, 3, 1, 0] rfl ?_
    exact zw_Tool_writeRealm_47 X hR hF hret n s_4 a0 a1 i_2 i_7 hf
  · rw [if_neg hc] at hf
    refine zg_1 (pc' := 34) (fun _ _ _ _ _ hl w => lv_aload_n hx hb zd_Tool_writeRealm_33 rfl (lv_at hl 3 rfl) w) ?_
    refine zg_1 (pc' := 37) (fun _ _ _ _ _ hl w => lv_sipush (v := (128 : Int32)) hx hb zd_Tool_writeRealm_34 (by decide) w) ?_
    refine zg_1 (pc' := 38) (fun _ _ _ _ _ hl w => lv_aload_n hx hb zd_Tool_writeRealm_37 rfl (lv_at hl 2 rfl) w) ?_
    obtain ⟨a_12, h_13, hf⟩ := zx_p hf
    refine zg_get (pc' := 41) (ci := 6) hx hb htT zi_Tool hown hK h_8 rfl rfl 0 (by decide) (htT _ zt_112) (fun _ h9 => h9) (zx_hv h_13) zd_Tool_writeRealm_38 rfl ?_
    refine zg_1 (pc' := 43) (fun _ _ _ _ _ hl w => lv_bipush (v := (9 : Int32)) hx hb zd_Tool_writeRealm_41 (by decide) w) ?_
    obtain ⟨h_14, hf⟩ := zx_ck hf
    refine zg_lald (pc' := 44) hx hb hK h_14 zd_Tool_writeRealm_43 rfl ?_
    obtain ⟨s_15, hq, hf⟩ := zx_p hf
    refine zg_call (pc' := 47) (y := s_15) (rv := none) (rest := []) X hR (zm_Draft_appendName hq) (fun H locs ls k j hsz hI hU hk => va_runV (As := [.int (128 : Int32), .long (zh_J s_4 a_12 ((9 : Int32).toNatClampNeg))]) (rest := []) ⟨hx, hb, hml, hown, htT⟩ (zc_Draft_appendName l h0 D dA tb n hq) (cwV 2 htT (zw_gV zt_403 zt_404 zt_405 zt_65 zt_406) rfl rfl rfl (by decide +kernel) ⟨Nat.le_trans (Nat.le_of_ble_eq_true rfl) hF.1, Nat.le_trans (Nat.le_of_ble_eq_true rfl) hF.2⟩) ⟨(zg_pre hU).1, zg_recv hK hI h_6 rfl, (zg_pre hU).2⟩ rfl rfl hsz rfl (lv_room (Nat.le_of_ble_eq_true rfl)) zd_Tool_writeRealm_44 hk) rfl ?_
    refine zg_v [2, 3, 1, 0] rfl ?_
    exact zw_Tool_writeRealm_47 X hR hF hret n s_15 a0 a1 i_2 i_7 hf
set_option maxHeartbeats 4000000 in
theorem zw_Tool_writeOwnExtension_30 {p : Program} {l : Launch} {e : Env} {R : Room} {s : State} {m : MethodId} {args : Array Value} {below : List Frame} {meth : Method} {c : Code} {Q : State → Prop} {h0 : Nat} {D : va_G} {dA : Nat → ClassId} {tb : Nat → Nat} {c0 k0 : Nat} {z : zh_S} (X : zg_X p s m args meth c ze_Tool_writeOwnExtension 3 zr_Tool none h0 D dA tb) (hR : zg_R R c0 k0 z) (hF : 3 ≤ R.frames ∧ 65 ≤ R.locals) (hret : ∀ (pc : Nat) (lv : List (Nat × Value)), decode ze_Tool_writeOwnExtension pc = .ok (.return_, 1) → zg_G p l e R s m args below meth c Q h0 D dA 3 c0 k0 z z pc lv []) (n : Nat) : ∀ (s0 : zh_S) (a1 : Nat) (i2 : Int32), zb_Tool_writeOwnExtension_30 n s0 a1 i2 = some z → zg_G p l e R s m args below meth c Q h0 D dA 3 c0 k0 z s0 30 [(1, .ref (h0 + a1)), (2, .int i2)] [] := by
  obtain ⟨hx, hb, hml, hown, htT, hrt, hlk, x00, hIn⟩ := id X
  have hK := hIn.2.1
  have hT := hIn.2.2.1
  have hNe := hIn.2.2.2
  intro s0 a1 i2 hf
  rw [zb_Tool_writeOwnExtension_30] at hf
  refine zg_1 (pc' := 31) (fun _ _ _ _ _ hl w => lv_aload_n hx hb zd_Tool_writeOwnExtension_30 rfl (lv_at hl 0 rfl) w) ?_
  refine zg_1 (pc' := 32) (fun _ _ _ _ _ hl w => lv_aload_n hx hb zd_Tool_writeOwnExtension_31 rfl (lv_at hl 0 rfl) w) ?_
  obtain ⟨h_1, hf⟩ := zx_ck hf
  refine zg_get (pc' := 35) (ci := 1) hx hb htT zi_Draft hown hK h_1 rfl rfl 1 (by decide) (htT _ zt_97) (fun _ h9 => h9) rfl zd_Tool_writeOwnExtension_32 rfl ?_
  refine zg_1 (pc' := 36) (fun _ _ _ _ _ hl w => lv_iconst (v := (4 : Int32)) hx hb zd_Tool_writeOwnExtension_35 (by decide) w) ?_
  obtain ⟨s_2, hq, hf⟩ := zx_p hf
  refine zg_call (pc' := 39) (y := s_2) (rv := none) (rest := []) X hR (zm_Draft_wrap hq) (fun H locs ls k j hsz hI hU hk => va_runV (As := [.int (zh_I s0 a1 1), .int (4 : Int32)]) (rest := []) ⟨hx, hb, hml, hown, htT⟩ (zc_Draft_wrap l h0 D dA tb n hq) (cwV 2 htT (zw_gV zt_428 zt_429 zt_430 zt_65 zt_431) rfl rfl rfl (by decide +kernel) ⟨Nat.le_trans (Nat.le_of_ble_eq_true rfl) hF.1, Nat.le_trans (Nat.le_of_ble_eq_true rfl) hF.2⟩) ⟨(zg_pre hU).1, zg_recv hK hI h_1 rfl, (zg_pre hU).2⟩ rfl rfl hsz rfl (lv_room (Nat.le_of_ble_eq_true rfl)) zd_Tool_writeOwnExtension_36 hk) rfl ?_
  refine zg_1 (pc' := 40) (fun _ _ _ _ _ hl w => lv_aload_n hx hb zd_Tool_writeOwnExtension_39 rfl (lv_at hl 0 rfl) w) ?_
  refine zg_1 (pc' := 41) (fun _ _ _ _ _ hl w => lv_iload_n hx hb zd_Tool_writeOwnExtension_40 rfl (lv_at hl 1 rfl) w) ?_
  refine zg_1 (pc' := 43) (fun _ _ _ _ _ hl w => lv_bipush (v := (48 : Int32)) hx hb zd_Tool_writeOwnExtension_41 (by decide) w) ?_
  obtain ⟨h_4, hf⟩ := zx_ck hf
  obtain ⟨s_3, hq, hf⟩ := zx_p hf
  refine zg_call (pc' := 46) (y := s_3) (rv := none) (rest := []) X hR (zm_Draft_wrap hq) (fun H locs ls k j hsz hI hU hk => va_runV (As := [.int i2, .int (48 : Int32)]) (rest := []) ⟨hx, hb, hml, hown, htT⟩ (zc_Draft_wrap l h0 D dA tb n hq) (cwV 2 htT (zw_gV zt_428 zt_429 zt_430 zt_65 zt_431) rfl rfl rfl (by decide +kernel) ⟨Nat.le_trans (Nat.le_of_ble_eq_true rfl) hF.1, Nat.le_trans (Nat.le_of_ble_eq_true rfl) hF.2⟩) ⟨(zg_pre hU).1, zg_recv hK hI h_4 rfl, (zg_pre hU).2⟩ rfl rfl hsz rfl (lv_room (Nat.le_of_ble_eq_true rfl)) zd_Tool_writeOwnExtension_43 hk) rfl ?_
  obtain rfl := zx_r1 hf
  exact hret _ _ zd_Tool_writeOwnExtension_46
set_option maxHeartbeats 4000000 in
theorem zc_Tool_writeOwnExtension (l : Launch) (h0 : Nat) (D : va_G) (dA : Nat → ClassId) (tb : Nat → Nat) (n : Nat) {s0 : zh_S} {a0 : Nat} {a1 : Nat} {z : zh_S} (hf : zf_Tool_writeOwnExtension n s0 a0 a1 = some z) : zc_M l zn_Tool_writeOwnExtension zs_Tool_writeOwnExtension 3 65 h0 D dA tb [.ref (h0 + a0), .ref (h0 + a1)] s0 none z := by
  rw [zf_Tool_writeOwnExtension] at hf
  refine zc_of (cc := ze_Tool_writeOwnExtension) (maxL := 3) (ret := none) (lv := [(0, .ref (h0 + a0)), (1, .ref (h0 + a1))]) (by decide) rfl (Nat.le_of_ble_eq_true rfl) rfl ?_
  intro p e s m args below meth c X hnm
  obtain ⟨hx, hb, hml, hown, htT, hrt, hlk, x00, hIn⟩ := id X
  have hK := hIn.2.1
  have hT := hIn.2.2.1
  have hNe := hIn.2.2.2
  have hR : zg_R { frames := 3, cells := zh_N z - zh_N s0, slots := zh_M z - zh_M s0, locals := 65 } (zh_N s0) (zh_M s0) z := ⟨by show zh_N z ≤ zh_N s0 + (zh_N z - zh_N s0); omega, by show zh_M z ≤ zh_M s0 + (zh_M z - zh_M s0); omega⟩
  have hF : 3 ≤ ({ frames := 3, cells := zh_N z - zh_N s0, slots := zh_M z - zh_M s0, locals := 65 } : Room).frames ∧ 65 ≤ ({ frames := 3, cells := zh_N z - zh_N s0, slots := zh_M z - zh_M s0, locals := 65 } : Room).locals := ⟨Nat.le_refl _, Nat.le_refl _⟩
  have hret := fun (pc : Nat) (lv : List (Nat × Value)) (hd : decode ze_Tool_writeOwnExtension pc = .ok (.return_, 1)) => zg_vret (R := { frames := 3, cells := zh_N z - zh_N s0, slots := zh_M z - zh_M s0, locals := 65 }) (l := l) (e := e) (below := below) (c0 := zh_N s0) (s0 := zh_M s0) (z := z) (lv := lv) X hd
  refine zg_1 (pc' := 1) (fun _ _ _ _ _ hl w => lv_aload_n hx hb zd_Tool_writeOwnExtension_0 rfl (lv_at hl 1 rfl) w) ?_
  obtain ⟨h_1, hf⟩ := zx_ck hf
  refine zg_get (pc' := 4) (ci := 1) hx hb htT zi_Draft hown hK h_1 rfl rfl 1 (by decide) (htT _ zt_97) (fun _ h9 => h9) rfl zd_Tool_writeOwnExtension_1 rfl ?_
  obtain ⟨i_2, e_i_2, hf⟩ := zx_l hf
  refine zg_ti e_i_2 ?_
  refine zg_s (pc' := 5) (lv' := [(2, .int i_2), (0, .ref (h0 + a0)), (1, .ref (h0 + a1))]) (fun _ _ _ _ _ hl w => lv_istore_n hx hb zd_Tool_writeOwnExtension_4 rfl hl (by decide) rfl w) ?_
  refine zg_1 (pc' := 6) (fun _ _ _ _ _ hl w => lv_aload_n hx hb zd_Tool_writeOwnExtension_5 rfl (lv_at hl 2 rfl) w) ?_
  refine zg_1 (pc' := 9) (fun _ _ _ _ _ hl w => lv_ldc2 (v := (9 : Int64)) hx hb hown (htT _ zt_370) zd_Tool_writeOwnExtension_6 w) ?_
  obtain ⟨s_3, hq, hf⟩ := zx_p hf
  refine zg_call (pc' := 12) (y := s_3) (rv := none) (rest := []) X hR (zm_Draft_appendInteger hq) (fun H locs ls k j hsz hI hU hk => va_runV (As := [.long (9 : Int64)]) (rest := []) ⟨hx, hb, hml, hown, htT⟩ (zc_Draft_appendInteger l h0 D dA tb n hq) (cwV 1 htT (zw_gV zt_398 zt_399 zt_400 zt_65 zt_401) rfl rfl rfl (by decide +kernel) ⟨Nat.le_trans (Nat.le_of_ble_eq_true rfl) hF.1, Nat.le_trans (Nat.le_of_ble_eq_true rfl) hF.2⟩) ⟨(zg_pre hU).1, zg_recv hK hI h_1 rfl, (zg_pre hU).2⟩ rfl rfl hsz rfl (lv_room (Nat.le_of_ble_eq_true rfl)) zd_Tool_writeOwnExtension_9 hk) rfl ?_
  refine zg_1 (pc' := 13) (fun _ _ _ _ _ hl w => lv_aload_n hx hb zd_Tool_writeOwnExtension_12 rfl (lv_at hl 1 rfl) w) ?_
  obtain ⟨h_4, hf⟩ := zx_ck hf
  obtain ⟨a_5, h_6, hf⟩ := zx_p hf
  refine zg_get (pc' := 16) (ci := 6) hx hb htT zi_Tool hown hK h_4 rfl rfl 0 (by decide) (htT _ zt_112) (fun _ h9 => h9) (zx_hv h_6) zd_Tool_writeOwnExtension_13 rfl ?_
  refine zg_1 (pc' := 18) (fun _ _ _ _ _ hl w => lv_bipush (v := (11 : Int32)) hx hb zd_Tool_writeOwnExtension_16 (by decide) w) ?_
  obtain ⟨h_7, hf⟩ := zx_ck hf
  refine zg_lald (pc' := 19) hx hb hK h_7 zd_Tool_writeOwnExtension_18 rfl ?_
  refine zg_1 (pc' := 22) (fun _ _ _ _ _ hl w => lv_ldc2 (v := (2 : Int64)) hx hb hown (htT _ zt_372) zd_Tool_writeOwnExtension_19 w) ?_
  refine zg_1 (pc' := 23) (fun _ _ _ _ _ hl w => W.lcmp hx hb zd_Tool_writeOwnExtension_22 w) ?_
  refine zg_2 (pc1 := 30) (pc2 := 26) (Classical.em _).symm (fun _ _ _ _ _ w1 w2 => lv_if_ne hx hb zd_Tool_writeOwnExtension_23 (by decide) w1 w2) (fun hc => ?_) (fun hc => ?_)
  · rw [if_neg hc] at hf
    refine zg_v [2, 0] rfl ?_
    exact zw_Tool_writeOwnExtension_30 X hR hF hret n s_3 a1 i_2 hf
  · rw [if_pos hc] at hf
    refine zg_1 (pc' := 27) (fun _ _ _ _ _ hl w => lv_aload_n hx hb zd_Tool_writeOwnExtension_26 rfl (lv_at hl 2 rfl) w) ?_
    obtain ⟨h_9, hf⟩ := zx_ck hf
    obtain ⟨s_8, hq, hf⟩ := zx_p hf
    refine zg_call (pc' := 30) (y := s_8) (rv := none) (rest := []) X hR (zm_Draft_appendTrue hq) (fun H locs ls k j hsz hI hU hk => va_runV (As := []) (rest := []) ⟨hx, hb, hml, hown, htT⟩ (zc_Draft_appendTrue l h0 D dA tb n hq) (cwV 0 htT (zw_gV zt_424 zt_425 zt_426 zt_65 zt_427) rfl rfl rfl (by decide +kernel) ⟨Nat.le_trans (Nat.le_of_ble_eq_true rfl) hF.1, Nat.le_trans (Nat.le_of_ble_eq_true rfl) hF.2⟩) ⟨(zg_pre hU).1, zg_recv hK hI h_9 rfl, (zg_pre hU).2⟩ rfl rfl hsz rfl (lv_room (Nat.le_of_ble_eq_true rfl)) zd_Tool_writeOwnExtension_27 hk) rfl ?_
    refine zg_v [2, 0] rfl ?_
    exact zw_Tool_writeOwnExtension_30 X hR hF hret n s_8 a1 i_2 hf
set_option maxHeartbeats 4000000 in
theorem zc_Tool_writeUsage (l : Launch) (h0 : Nat) (D : va_G) (dA : Nat → ClassId) (tb : Nat → Nat) (n : Nat) {s0 : zh_S} {a0 : Nat} {a1 : Nat} {z : zh_S} (hf : zf_Tool_writeUsage n s0 a0 a1 = some z) : zc_M l zn_Tool_writeUsage zs_Tool_writeUsage 3 65 h0 D dA tb [.ref (h0 + a0), .ref (h0 + a1)] s0 none z := by
  rw [zf_Tool_writeUsage] at hf
  refine zc_of (cc := ze_Tool_writeUsage) (maxL := 3) (ret := none) (lv := [(0, .ref (h0 + a0)), (1, .ref (h0 + a1))]) (by decide) rfl (Nat.le_of_ble_eq_true rfl) rfl ?_
  intro p e s m args below meth c X hnm
  obtain ⟨hx, hb, hml, hown, htT, hrt, hlk, x00, hIn⟩ := id X
  have hK := hIn.2.1
  have hT := hIn.2.2.1
  have hNe := hIn.2.2.2
  have hR : zg_R { frames := 3, cells := zh_N z - zh_N s0, slots := zh_M z - zh_M s0, locals := 65 } (zh_N s0) (zh_M s0) z := ⟨by show zh_N z ≤ zh_N s0 + (zh_N z - zh_N s0); omega, by show zh_M z ≤ zh_M s0 + (zh_M z - zh_M s0); omega⟩
  have hF : 3 ≤ ({ frames := 3, cells := zh_N z - zh_N s0, slots := zh_M z - zh_M s0, locals := 65 } : Room).frames ∧ 65 ≤ ({ frames := 3, cells := zh_N z - zh_N s0, slots := zh_M z - zh_M s0, locals := 65 } : Room).locals := ⟨Nat.le_refl _, Nat.le_refl _⟩
  have hret := fun (pc : Nat) (lv : List (Nat × Value)) (hd : decode ze_Tool_writeUsage pc = .ok (.return_, 1)) => zg_vret (R := { frames := 3, cells := zh_N z - zh_N s0, slots := zh_M z - zh_M s0, locals := 65 }) (l := l) (e := e) (below := below) (c0 := zh_N s0) (s0 := zh_M s0) (z := z) (lv := lv) X hd
  refine zg_1 (pc' := 1) (fun _ _ _ _ _ hl w => lv_aload_n hx hb zd_Tool_writeUsage_0 rfl (lv_at hl 1 rfl) w) ?_
  obtain ⟨h_1, hf⟩ := zx_ck hf
  refine zg_get (pc' := 4) (ci := 1) hx hb htT zi_Draft hown hK h_1 rfl rfl 1 (by decide) (htT _ zt_97) (fun _ h9 => h9) rfl zd_Tool_writeUsage_1 rfl ?_
  obtain ⟨i_2, e_i_2, hf⟩ := zx_l hf
  refine zg_ti e_i_2 ?_
  refine zg_s (pc' := 5) (lv' := [(2, .int i_2), (0, .ref (h0 + a0)), (1, .ref (h0 + a1))]) (fun _ _ _ _ _ hl w => lv_istore_n hx hb zd_Tool_writeUsage_4 rfl hl (by decide) rfl w) ?_
  refine zg_1 (pc' := 6) (fun _ _ _ _ _ hl w => lv_aload_n hx hb zd_Tool_writeUsage_5 rfl (lv_at hl 2 rfl) w) ?_
  refine zg_1 (pc' := 9) (fun _ _ _ _ _ hl w => lv_ldc2 (v := (2 : Int64)) hx hb hown (htT _ zt_372) zd_Tool_writeUsage_6 w) ?_
  obtain ⟨s_3, hq, hf⟩ := zx_p hf
  refine zg_call (pc' := 12) (y := s_3) (rv := none) (rest := []) X hR (zm_Draft_appendInteger hq) (fun H locs ls k j hsz hI hU hk => va_runV (As := [.long (2 : Int64)]) (rest := []) ⟨hx, hb, hml, hown, htT⟩ (zc_Draft_appendInteger l h0 D dA tb n hq) (cwV 1 htT (zw_gV zt_398 zt_399 zt_400 zt_65 zt_401) rfl rfl rfl (by decide +kernel) ⟨Nat.le_trans (Nat.le_of_ble_eq_true rfl) hF.1, Nat.le_trans (Nat.le_of_ble_eq_true rfl) hF.2⟩) ⟨(zg_pre hU).1, zg_recv hK hI h_1 rfl, (zg_pre hU).2⟩ rfl rfl hsz rfl (lv_room (Nat.le_of_ble_eq_true rfl)) zd_Tool_writeUsage_9 hk) rfl ?_
  refine zg_1 (pc' := 13) (fun _ _ _ _ _ hl w => lv_aload_n hx hb zd_Tool_writeUsage_12 rfl (lv_at hl 2 rfl) w) ?_
  obtain ⟨h_5, hf⟩ := zx_ck hf
  obtain ⟨s_4, hq, hf⟩ := zx_p hf
  refine zg_call (pc' := 16) (y := s_4) (rv := none) (rest := []) X hR (zm_Draft_appendTrue hq) (fun H locs ls k j hsz hI hU hk => va_runV (As := []) (rest := []) ⟨hx, hb, hml, hown, htT⟩ (zc_Draft_appendTrue l h0 D dA tb n hq) (cwV 0 htT (zw_gV zt_424 zt_425 zt_426 zt_65 zt_427) rfl rfl rfl (by decide +kernel) ⟨Nat.le_trans (Nat.le_of_ble_eq_true rfl) hF.1, Nat.le_trans (Nat.le_of_ble_eq_true rfl) hF.2⟩) ⟨(zg_pre hU).1, zg_recv hK hI h_5 rfl, (zg_pre hU).2⟩ rfl rfl hsz rfl (lv_room (Nat.le_of_ble_eq_true rfl)) zd_Tool_writeUsage_13 hk) rfl ?_
  refine zg_1 (pc' := 17) (fun _ _ _ _ _ hl w => lv_aload_n hx hb zd_Tool_writeUsage_16 rfl (lv_at hl 2 rfl) w) ?_
  refine zg_1 (pc' := 18) (fun _ _ _ _ _ hl w => lv_aload_n hx hb zd_Tool_writeUsage_17 rfl (lv_at hl 1 rfl) w) ?_
  obtain ⟨h_6, hf⟩ := zx_ck hf
  obtain ⟨a_7, h_8, hf⟩ := zx_p hf
  refine zg_get (pc' := 21) (ci := 6) hx hb htT zi_Tool hown hK h_6 rfl rfl 0 (by decide) (htT _ zt_112) (fun _ h9 => h9) (zx_hv h_8) zd_Tool_writeUsage_18 rfl ?_
  refine zg_1 (pc' := 23) (fun _ _ _ _ _ hl w => lv_bipush (v := (8 : Int32)) hx hb zd_Tool_writeUsage_21 (by decide) w) ?_
  obtain ⟨h_9, hf⟩ := zx_ck hf
  refine zg_lald (pc' := 24) hx hb hK h_9 zd_Tool_writeUsage_23 rfl ?_
  obtain ⟨h_11, hf⟩ := zx_ck hf
  obtain ⟨s_10, hq, hf⟩ := zx_p hf
  refine zg_call (pc' := 27) (y := s_10) (rv := none) (rest := []) X hR (zm_Draft_appendInteger hq) (fun H locs ls k j hsz hI hU hk => va_runV (As := [.long (zh_J s_4 a_7 ((8 : Int32).toNatClampNeg))]) (rest := []) ⟨hx, hb, hml, hown, htT⟩ (zc_Draft_appendInteger l h0 D dA tb n hq) (cwV 1 htT (zw_gV zt_398 zt_399 zt_400 zt_65 zt_401) rfl rfl rfl (by decide +kernel) ⟨Nat.le_trans (Nat.le_of_ble_eq_true rfl) hF.1, Nat.le_trans (Nat.le_of_ble_eq_true rfl) hF.2⟩) ⟨(zg_pre hU).1, zg_recv hK hI h_11 rfl, (zg_pre hU).2⟩ rfl rfl hsz rfl (lv_room (Nat.le_of_ble_eq_true rfl)) zd_Tool_writeUsage_24 hk) rfl ?_
  refine zg_1 (pc' := 28) (fun _ _ _ _ _ hl w => lv_aload_n hx hb zd_Tool_writeUsage_27 rfl (lv_at hl 2 rfl) w) ?_
  refine zg_1 (pc' := 29) (fun _ _ _ _ _ hl w => lv_iload_n hx hb zd_Tool_writeUsage_28 rfl (lv_at hl 0 rfl) w) ?_
  refine zg_1 (pc' := 31) (fun _ _ _ _ _ hl w => lv_bipush (v := (48 : Int32)) hx hb zd_Tool_writeUsage_29 (by decide) w) ?_
  obtain ⟨h_13, hf⟩ := zx_ck hf
  obtain ⟨s_12, hq, hf⟩ := zx_p hf
  refine zg_call (pc' := 34) (y := s_12) (rv := none) (rest := []) X hR (zm_Draft_wrap hq) (fun H locs ls k j hsz hI hU hk => va_runV (As := [.int i_2, .int (48 : Int32)]) (rest := []) ⟨hx, hb, hml, hown, htT⟩ (zc_Draft_wrap l h0 D dA tb n hq) (cwV 2 htT (zw_gV zt_428 zt_429 zt_430 zt_65 zt_431) rfl rfl rfl (by decide +kernel) ⟨Nat.le_trans (Nat.le_of_ble_eq_true rfl) hF.1, Nat.le_trans (Nat.le_of_ble_eq_true rfl) hF.2⟩) ⟨(zg_pre hU).1, zg_recv hK hI h_13 rfl, (zg_pre hU).2⟩ rfl rfl hsz rfl (lv_room (Nat.le_of_ble_eq_true rfl)) zd_Tool_writeUsage_31 hk) rfl ?_
  obtain rfl := zx_r1 hf
  exact hret _ _ zd_Tool_writeUsage_34
set_option maxHeartbeats 4000000 in
theorem zw_Tool_writeBasic_58 {p : Program} {l : Launch} {e : Env} {R : Room} {s : State} {m : MethodId} {args : Array Value} {below : List Frame} {meth : Method} {c : Code} {Q : State → Prop} {h0 : Nat} {D : va_G} {dA : Nat → ClassId} {tb : Nat → Nat} {c0 k0 : Nat} {z : zh_S} (X : zg_X p s m args meth c ze_Tool_writeBasic 4 zr_Tool none h0 D dA tb) (hR : zg_R R c0 k0 z) (hF : 3 ≤ R.frames ∧ 65 ≤ R.locals) (hret : ∀ (pc : Nat) (lv : List (Nat × Value)), decode ze_Tool_writeBasic pc = .ok (.return_, 1) → zg_G p l e R s m args below meth c Q h0 D dA 4 c0 k0 z z pc lv []) (n : Nat) : ∀ (s0 : zh_S) (a1 : Nat) (i2 : Int32) (i3 : Int32), zb_Tool_writeBasic_58 n s0 a1 i2 i3 = some z → zg_G p l e R s m args below meth c Q h0 D dA 4 c0 k0 z s0 58 [(1, .ref (h0 + a1)), (2, .int i2), (3, .int i3)] [] := by
  obtain ⟨hx, hb, hml, hown, htT, hrt, hlk, x00, hIn⟩ := id X
  have hK := hIn.2.1
  have hT := hIn.2.2.1
  have hNe := hIn.2.2.2
  intro s0 a1 i2 i3 hf
  rw [zb_Tool_writeBasic_58] at hf
  refine zg_1 (pc' := 59) (fun _ _ _ _ _ hl w => lv_aload_n hx hb zd_Tool_writeBasic_58 rfl (lv_at hl 0 rfl) w) ?_
  refine zg_1 (pc' := 60) (fun _ _ _ _ _ hl w => lv_iload_n hx hb zd_Tool_writeBasic_59 rfl (lv_at hl 2 rfl) w) ?_
  refine zg_1 (pc' := 62) (fun _ _ _ _ _ hl w => lv_bipush (v := (48 : Int32)) hx hb zd_Tool_writeBasic_60 (by decide) w) ?_
  obtain ⟨h_2, hf⟩ := zx_ck hf
  obtain ⟨s_1, hq, hf⟩ := zx_p hf
  refine zg_call (pc' := 65) (y := s_1) (rv := none) (rest := []) X hR (zm_Draft_wrap hq) (fun H locs ls k j hsz hI hU hk => va_runV (As := [.int i3, .int (48 : Int32)]) (rest := []) ⟨hx, hb, hml, hown, htT⟩ (zc_Draft_wrap l h0 D dA tb n hq) (cwV 2 htT (zw_gV zt_428 zt_429 zt_430 zt_65 zt_431) rfl rfl rfl (by decide +kernel) ⟨Nat.le_trans (Nat.le_of_ble_eq_true rfl) hF.1, Nat.le_trans (Nat.le_of_ble_eq_true rfl) hF.2⟩) ⟨(zg_pre hU).1, zg_recv hK hI h_2 rfl, (zg_pre hU).2⟩ rfl rfl hsz rfl (lv_room (Nat.le_of_ble_eq_true rfl)) zd_Tool_writeBasic_62 hk) rfl ?_
  refine zg_1 (pc' := 66) (fun _ _ _ _ _ hl w => lv_aload_n hx hb zd_Tool_writeBasic_65 rfl (lv_at hl 0 rfl) w) ?_
  refine zg_1 (pc' := 67) (fun _ _ _ _ _ hl w => lv_iload_n hx hb zd_Tool_writeBasic_66 rfl (lv_at hl 1 rfl) w) ?_
  refine zg_1 (pc' := 69) (fun _ _ _ _ _ hl w => lv_bipush (v := (48 : Int32)) hx hb zd_Tool_writeBasic_67 (by decide) w) ?_
  obtain ⟨h_4, hf⟩ := zx_ck hf
  obtain ⟨s_3, hq, hf⟩ := zx_p hf
  refine zg_call (pc' := 72) (y := s_3) (rv := none) (rest := []) X hR (zm_Draft_wrap hq) (fun H locs ls k j hsz hI hU hk => va_runV (As := [.int i2, .int (48 : Int32)]) (rest := []) ⟨hx, hb, hml, hown, htT⟩ (zc_Draft_wrap l h0 D dA tb n hq) (cwV 2 htT (zw_gV zt_428 zt_429 zt_430 zt_65 zt_431) rfl rfl rfl (by decide +kernel) ⟨Nat.le_trans (Nat.le_of_ble_eq_true rfl) hF.1, Nat.le_trans (Nat.le_of_ble_eq_true rfl) hF.2⟩) ⟨(zg_pre hU).1, zg_recv hK hI h_4 rfl, (zg_pre hU).2⟩ rfl rfl hsz rfl (lv_room (Nat.le_of_ble_eq_true rfl)) zd_Tool_writeBasic_69 hk) rfl ?_
  obtain rfl := zx_r1 hf
  exact hret _ _ zd_Tool_writeBasic_72
set_option maxHeartbeats 4000000 in
theorem zc_Tool_writeBasic (l : Launch) (h0 : Nat) (D : va_G) (dA : Nat → ClassId) (tb : Nat → Nat) (n : Nat) {s0 : zh_S} {a0 : Nat} {a1 : Nat} {z : zh_S} (hf : zf_Tool_writeBasic n s0 a0 a1 = some z) : zc_M l zn_Tool_writeBasic zs_Tool_writeBasic 3 65 h0 D dA tb [.ref (h0 + a0), .ref (h0 + a1)] s0 none z := by
  rw [zf_Tool_writeBasic] at hf
  refine zc_of (cc := ze_Tool_writeBasic) (maxL := 4) (ret := none) (lv := [(0, .ref (h0 + a0)), (1, .ref (h0 + a1))]) (by decide) rfl (Nat.le_of_ble_eq_true rfl) rfl ?_
  intro p e s m args below meth c X hnm
  obtain ⟨hx, hb, hml, hown, htT, hrt, hlk, x00, hIn⟩ := id X
  have hK := hIn.2.1
  have hT := hIn.2.2.1
  have hNe := hIn.2.2.2
  have hR : zg_R { frames := 3, cells := zh_N z - zh_N s0, slots := zh_M z - zh_M s0, locals := 65 } (zh_N s0) (zh_M s0) z := ⟨by show zh_N z ≤ zh_N s0 + (zh_N z - zh_N s0); omega, by show zh_M z ≤ zh_M s0 + (zh_M z - zh_M s0); omega⟩
  have hF : 3 ≤ ({ frames := 3, cells := zh_N z - zh_N s0, slots := zh_M z - zh_M s0, locals := 65 } : Room).frames ∧ 65 ≤ ({ frames := 3, cells := zh_N z - zh_N s0, slots := zh_M z - zh_M s0, locals := 65 } : Room).locals := ⟨Nat.le_refl _, Nat.le_refl _⟩
  have hret := fun (pc : Nat) (lv : List (Nat × Value)) (hd : decode ze_Tool_writeBasic pc = .ok (.return_, 1)) => zg_vret (R := { frames := 3, cells := zh_N z - zh_N s0, slots := zh_M z - zh_M s0, locals := 65 }) (l := l) (e := e) (below := below) (c0 := zh_N s0) (s0 := zh_M s0) (z := z) (lv := lv) X hd
  refine zg_1 (pc' := 1) (fun _ _ _ _ _ hl w => lv_aload_n hx hb zd_Tool_writeBasic_0 rfl (lv_at hl 1 rfl) w) ?_
  obtain ⟨h_1, hf⟩ := zx_ck hf
  refine zg_get (pc' := 4) (ci := 1) hx hb htT zi_Draft hown hK h_1 rfl rfl 1 (by decide) (htT _ zt_97) (fun _ h9 => h9) rfl zd_Tool_writeBasic_1 rfl ?_
  obtain ⟨i_2, e_i_2, hf⟩ := zx_l hf
  refine zg_ti e_i_2 ?_
  refine zg_s (pc' := 5) (lv' := [(2, .int i_2), (0, .ref (h0 + a0)), (1, .ref (h0 + a1))]) (fun _ _ _ _ _ hl w => lv_istore_n hx hb zd_Tool_writeBasic_4 rfl hl (by decide) rfl w) ?_
  refine zg_1 (pc' := 6) (fun _ _ _ _ _ hl w => lv_aload_n hx hb zd_Tool_writeBasic_5 rfl (lv_at hl 2 rfl) w) ?_
  refine zg_1 (pc' := 7) (fun _ _ _ _ _ hl w => lv_lconst (v := (1 : Int64)) hx hb zd_Tool_writeBasic_6 (by decide) w) ?_
  obtain ⟨s_3, hq, hf⟩ := zx_p hf
  refine zg_call (pc' := 10) (y := s_3) (rv := none) (rest := []) X hR (zm_Draft_appendInteger hq) (fun H locs ls k j hsz hI hU hk => va_runV (As := [.long (1 : Int64)]) (rest := []) ⟨hx, hb, hml, hown, htT⟩ (zc_Draft_appendInteger l h0 D dA tb n hq) (cwV 1 htT (zw_gV zt_398 zt_399 zt_400 zt_65 zt_401) rfl rfl rfl (by decide +kernel) ⟨Nat.le_trans (Nat.le_of_ble_eq_true rfl) hF.1, Nat.le_trans (Nat.le_of_ble_eq_true rfl) hF.2⟩) ⟨(zg_pre hU).1, zg_recv hK hI h_1 rfl, (zg_pre hU).2⟩ rfl rfl hsz rfl (lv_room (Nat.le_of_ble_eq_true rfl)) zd_Tool_writeBasic_7 hk) rfl ?_
  refine zg_1 (pc' := 11) (fun _ _ _ _ _ hl w => lv_aload_n hx hb zd_Tool_writeBasic_10 rfl (lv_at hl 2 rfl) w) ?_
  obtain ⟨h_5, hf⟩ := zx_ck hf
  obtain ⟨s_4, hq, hf⟩ := zx_p hf
  refine zg_call (pc' := 14) (y := s_4) (rv := none) (rest := []) X hR (zm_Draft_appendTrue hq) (fun H locs ls k j hsz hI hU hk => va_runV (As := []) (rest := []) ⟨hx, hb, hml, hown, htT⟩ (zc_Draft_appendTrue l h0 D dA tb n hq) (cwV 0 htT (zw_gV zt_424 zt_425 zt_426 zt_65 zt_427) rfl rfl rfl (by decide +kernel) ⟨Nat.le_trans (Nat.le_of_ble_eq_true rfl) hF.1, Nat.le_trans (Nat.le_of_ble_eq_true rfl) hF.2⟩) ⟨(zg_pre hU).1, zg_recv hK hI h_5 rfl, (zg_pre hU).2⟩ rfl rfl hsz rfl (lv_room (Nat.le_of_ble_eq_true rfl)) zd_Tool_writeBasic_11 hk) rfl ?_
  refine zg_1 (pc' := 15) (fun _ _ _ _ _ hl w => lv_aload_n hx hb zd_Tool_writeBasic_14 rfl (lv_at hl 2 rfl) w) ?_
  obtain ⟨h_6, hf⟩ := zx_ck hf
  refine zg_get (pc' := 18) (ci := 1) hx hb htT zi_Draft hown hK h_6 rfl rfl 1 (by decide) (htT _ zt_97) (fun _ h9 => h9) rfl zd_Tool_writeBasic_15 rfl ?_
  obtain ⟨i_7, e_i_7, hf⟩ := zx_l hf
  refine zg_ti e_i_7 ?_
  refine zg_s (pc' := 19) (lv' := [(3, .int i_7), (2, .int i_2), (0, .ref (h0 + a0)), (1, .ref (h0 + a1))]) (fun _ _ _ _ _ hl w => lv_istore_n hx hb zd_Tool_writeBasic_18 rfl hl (by decide) rfl w) ?_
  refine zg_1 (pc' := 20) (fun _ _ _ _ _ hl w => lv_aload_n hx hb zd_Tool_writeBasic_19 rfl (lv_at hl 2 rfl) w) ?_
  obtain ⟨h_8, hf⟩ := zx_ck hf
  obtain ⟨a_9, h_10, hf⟩ := zx_p hf
  refine zg_get (pc' := 23) (ci := 6) hx hb htT zi_Tool hown hK h_8 rfl rfl 0 (by decide) (htT _ zt_112) (fun _ h9 => h9) (zx_hv h_10) zd_Tool_writeBasic_20 rfl ?_
  refine zg_1 (pc' := 25) (fun _ _ _ _ _ hl w => lv_bipush (v := (6 : Int32)) hx hb zd_Tool_writeBasic_23 (by decide) w) ?_
  obtain ⟨h_11, hf⟩ := zx_ck hf
  refine zg_lald (pc' := 26) hx hb hK h_11 zd_Tool_writeBasic_25 rfl ?_
  refine zg_1 (pc' := 27) (fun _ _ _ _ _ hl w => lv_lconst (v := (1 : Int64)) hx hb zd_Tool_writeBasic_26 (by decide) w) ?_
  refine zg_1 (pc' := 28) (fun _ _ _ _ _ hl w => W.lcmp hx hb zd_Tool_writeBasic_27 w) ?_
  refine zg_2 (pc1 := 58) (pc2 := 31) (Classical.em _).symm (fun _ _ _ _ _ w1 w2 => lv_if_ne hx hb zd_Tool_writeBasic_28 (by decide) w1 w2) (fun hc => ?_) (fun hc => ?_)
  · rw [if_neg hc] at hf
    refine zg_v [3, 1, 0] rfl ?_
    exact zw_Tool_writeBasic_58 X hR hF hret n s_4 a1 i_2 i_7 hf
  · rw [if_pos hc] at hf
    refine zg_1 (pc' := 32) (fun _ _ _ _ _ hl w => lv_aload_n hx hb zd_Tool_writeBasic_31 rfl (lv_at hl 3 rfl) w) ?_
    obtain ⟨s_12, hq, hf⟩ := zx_p hf
    refine zg_call (pc' := 35) (y := s_12) (rv := none) (rest := []) X hR (zm_Draft_appendTrue hq) (fun H locs ls k j hsz hI hU hk => va_runV (As := []) (rest := []) ⟨hx, hb, hml, hown, htT⟩ (zc_Draft_appendTrue l h0 D dA tb n hq) (cwV 0 htT (zw_gV zt_424 zt_425 zt_426 zt_65 zt_427) rfl rfl rfl (by decide +kernel) ⟨Nat.le_trans (Nat.le_of_ble_eq_true rfl) hF.1, Nat.le_trans (Nat.le_of_ble_eq_true rfl) hF.2⟩) ⟨(zg_pre hU).1, zg_recv hK hI h_6 rfl, (zg_pre hU).2⟩ rfl rfl hsz rfl (lv_room (Nat.le_of_ble_eq_true rfl)) zd_Tool_writeBasic_32 hk) rfl ?_
    refine zg_1 (pc' := 36) (fun _ _ _ _ _ hl w => lv_aload_n hx hb zd_Tool_writeBasic_35 rfl (lv_at hl 2 rfl) w) ?_
    obtain ⟨h_13, hf⟩ := zx_ck hf
    obtain ⟨a_14, h_15, hf⟩ := zx_p hf
    refine zg_get (pc' := 39) (ci := 6) hx hb htT zi_Tool hown hK h_13 rfl rfl 0 (by decide) (htT _ zt_112) (fun _ h9 => h9) (zx_hv h_15) zd_Tool_writeBasic_36 rfl ?_
    refine zg_1 (pc' := 41) (fun _ _ _ _ _ hl w => lv_bipush (v := (7 : Int32)) hx hb zd_Tool_writeBasic_39 (by decide) w) ?_
    obtain ⟨h_16, hf⟩ := zx_ck hf
    refine zg_lald (pc' := 42) hx hb hK h_16 zd_Tool_writeBasic_41 rfl ?_
    refine zg_1 (pc' := 43) (fun _ _ _ _ _ hl w => lv_lconst (v := (0 : Int64)) hx hb zd_Tool_writeBasic_42 (by decide) w) ?_
    refine zg_1 (pc' := 44) (fun _ _ _ _ _ hl w => W.lcmp hx hb zd_Tool_writeBasic_43 w) ?_
    refine zg_2 (pc1 := 58) (pc2 := 47) (Classical.em _) (fun _ _ _ _ _ w1 w2 => lv_if_lt hx hb zd_Tool_writeBasic_44 (by decide) w1 w2) (fun hc => ?_) (fun hc => ?_)
    · rw [if_pos hc] at hf
      refine zg_v [3, 1, 0] rfl ?_
      exact zw_Tool_writeBasic_58 X hR hF hret n s_12 a1 i_2 i_7 hf
    · rw [if_neg hc] at hf
      refine zg_1 (pc' := 48) (fun _ _ _ _ _ hl w => lv_aload_n hx hb zd_Tool_writeBasic_47 rfl (lv_at hl 3 rfl) w) ?_
      refine zg_1 (pc' := 49) (fun _ _ _ _ _ hl w => lv_aload_n hx hb zd_Tool_writeBasic_48 rfl (lv_at hl 2 rfl) w) ?_
      obtain ⟨a_17, h_18, hf⟩ := zx_p hf
      refine zg_get (pc' := 52) (ci := 6) hx hb htT zi_Tool hown hK h_13 rfl rfl 0 (by decide) (htT _ zt_112) (fun _ h9 => h9) (zx_hv h_18) zd_Tool_writeBasic_49 rfl ?_
      refine zg_1 (pc' := 54) (fun _ _ _ _ _ hl w => lv_bipush (v := (7 : Int32)) hx hb zd_Tool_writeBasic_52 (by decide) w) ?_
      obtain ⟨h_19, hf⟩ := zx_ck hf
      refine zg_lald (pc' := 55) hx hb hK h_19 zd_Tool_writeBasic_54 rfl ?_
      obtain ⟨h_21, hf⟩ := zx_ck hf
      obtain ⟨s_20, hq, hf⟩ := zx_p hf
      refine zg_call (pc' := 58) (y := s_20) (rv := none) (rest := []) X hR (zm_Draft_appendInteger hq) (fun H locs ls k j hsz hI hU hk => va_runV (As := [.long (zh_J s_12 a_17 ((7 : Int32).toNatClampNeg))]) (rest := []) ⟨hx, hb, hml, hown, htT⟩ (zc_Draft_appendInteger l h0 D dA tb n hq) (cwV 1 htT (zw_gV zt_398 zt_399 zt_400 zt_65 zt_401) rfl rfl rfl (by decide +kernel) ⟨Nat.le_trans (Nat.le_of_ble_eq_true rfl) hF.1, Nat.le_trans (Nat.le_of_ble_eq_true rfl) hF.2⟩) ⟨(zg_pre hU).1, zg_recv hK hI h_21 rfl, (zg_pre hU).2⟩ rfl rfl hsz rfl (lv_room (Nat.le_of_ble_eq_true rfl)) zd_Tool_writeBasic_55 hk) rfl ?_
      refine zg_v [3, 1, 0] rfl ?_
      exact zw_Tool_writeBasic_58 X hR hF hret n s_20 a1 i_2 i_7 hf
set_option maxHeartbeats 4000000 in
theorem zw_Tool_writeExtensions_85 {p : Program} {l : Launch} {e : Env} {R : Room} {s : State} {m : MethodId} {args : Array Value} {below : List Frame} {meth : Method} {c : Code} {Q : State → Prop} {h0 : Nat} {D : va_G} {dA : Nat → ClassId} {tb : Nat → Nat} {c0 k0 : Nat} {z : zh_S} (X : zg_X p s m args meth c ze_Tool_writeExtensions 3 zr_Tool none h0 D dA tb) (hR : zg_R R c0 k0 z) (hF : 4 ≤ R.frames ∧ 89 ≤ R.locals) (hret : ∀ (pc : Nat) (lv : List (Nat × Value)), decode ze_Tool_writeExtensions pc = .ok (.return_, 1) → zg_G p l e R s m args below meth c Q h0 D dA 3 c0 k0 z z pc lv []) (n : Nat) : ∀ (s0 : zh_S) (a1 : Nat) (i2 : Int32), zb_Tool_writeExtensions_85 n s0 a1 i2 = some z → zg_G p l e R s m args below meth c Q h0 D dA 3 c0 k0 z s0 85 [(1, .ref (h0 + a1)), (2, .int i2)] [] := by
  obtain ⟨hx, hb, hml, hown, htT, hrt, hlk, x00, hIn⟩ := id X
  have hK := hIn.2.1
  have hT := hIn.2.2.1
  have hNe := hIn.2.2.2
  intro s0 a1 i2 hf
  rw [zb_Tool_writeExtensions_85] at hf
  refine zg_1 (pc' := 86) (fun _ _ _ _ _ hl w => lv_aload_n hx hb zd_Tool_writeExtensions_85 rfl (lv_at hl 0 rfl) w) ?_
  obtain ⟨h_1, hf⟩ := zx_ck hf
  refine zg_get (pc' := 89) (ci := 1) hx hb htT zi_Draft hown hK h_1 rfl rfl 1 (by decide) (htT _ zt_97) (fun _ h9 => h9) rfl zd_Tool_writeExtensions_86 rfl ?_
  refine zg_1 (pc' := 90) (fun _ _ _ _ _ hl w => lv_iload_n hx hb zd_Tool_writeExtensions_89 rfl (lv_at hl 1 rfl) w) ?_
  refine zg_2 (pc1 := 100) (pc2 := 93) (Classical.em _) (fun _ _ _ _ _ w1 w2 => lv_icmp_le hx hb zd_Tool_writeExtensions_90 (by decide) w1 w2) (fun hc => ?_) (fun hc => ?_)
  · rw [if_pos hc] at hf
    obtain rfl := zx_r1 hf
    exact hret _ _ zd_Tool_writeExtensions_100
  · rw [if_neg hc] at hf
    refine zg_1 (pc' := 94) (fun _ _ _ _ _ hl w => lv_aload_n hx hb zd_Tool_writeExtensions_93 rfl (lv_at hl 0 rfl) w) ?_
    refine zg_1 (pc' := 95) (fun _ _ _ _ _ hl w => lv_iload_n hx hb zd_Tool_writeExtensions_94 rfl (lv_at hl 1 rfl) w) ?_
    refine zg_1 (pc' := 97) (fun _ _ _ _ _ hl w => lv_bipush (v := (48 : Int32)) hx hb zd_Tool_writeExtensions_95 (by decide) w) ?_
    obtain ⟨s_2, hq, hf⟩ := zx_p hf
    refine zg_call (pc' := 100) (y := s_2) (rv := none) (rest := []) X hR (zm_Draft_wrap hq) (fun H locs ls k j hsz hI hU hk => va_runV (As := [.int i2, .int (48 : Int32)]) (rest := []) ⟨hx, hb, hml, hown, htT⟩ (zc_Draft_wrap l h0 D dA tb n hq) (cwV 2 htT (zw_gV zt_428 zt_429 zt_430 zt_65 zt_431) rfl rfl rfl (by decide +kernel) ⟨Nat.le_trans (Nat.le_of_ble_eq_true rfl) hF.1, Nat.le_trans (Nat.le_of_ble_eq_true rfl) hF.2⟩) ⟨(zg_pre hU).1, zg_recv hK hI h_1 rfl, (zg_pre hU).2⟩ rfl rfl hsz rfl (lv_room (Nat.le_of_ble_eq_true rfl)) zd_Tool_writeExtensions_97 hk) rfl ?_
    obtain rfl := zx_r1 hf
    exact hret _ _ zd_Tool_writeExtensions_100
set_option maxHeartbeats 4000000 in
theorem zw_Tool_writeExtensions_68 {p : Program} {l : Launch} {e : Env} {R : Room} {s : State} {m : MethodId} {args : Array Value} {below : List Frame} {meth : Method} {c : Code} {Q : State → Prop} {h0 : Nat} {D : va_G} {dA : Nat → ClassId} {tb : Nat → Nat} {c0 k0 : Nat} {z : zh_S} (X : zg_X p s m args meth c ze_Tool_writeExtensions 3 zr_Tool none h0 D dA tb) (hR : zg_R R c0 k0 z) (hF : 4 ≤ R.frames ∧ 89 ≤ R.locals) (hret : ∀ (pc : Nat) (lv : List (Nat × Value)), decode ze_Tool_writeExtensions pc = .ok (.return_, 1) → zg_G p l e R s m args below meth c Q h0 D dA 3 c0 k0 z z pc lv []) (n : Nat) : ∀ (s0 : zh_S) (a0 : Nat) (a1 : Nat) (i2 : Int32), zb_Tool_writeExtensions_68 n s0 a0 a1 i2 = some z → zg_G p l e R s m args below meth c Q h0 D dA 3 c0 k0 z s0 68 [(0, .ref (h0 + a0)), (1, .ref (h0 + a1)), (2, .int i2)] [] := by
  obtain ⟨hx, hb, hml, hown, htT, hrt, hlk, x00, hIn⟩ := id X
  have hK := hIn.2.1
  have hT := hIn.2.2.1
  have hNe := hIn.2.2.2
  intro s0 a0 a1 i2 hf
  rw [zb_Tool_writeExtensions_68] at hf
  refine zg_1 (pc' := 69) (fun _ _ _ _ _ hl w => lv_aload_n hx hb zd_Tool_writeExtensions_68 rfl (lv_at hl 0 rfl) w) ?_
  obtain ⟨h_1, hf⟩ := zx_ck hf
  obtain ⟨a_2, h_3, hf⟩ := zx_p hf
  refine zg_get (pc' := 72) (ci := 6) hx hb htT zi_Tool hown hK h_1 rfl rfl 0 (by decide) (htT _ zt_112) (fun _ h9 => h9) (zx_hv h_3) zd_Tool_writeExtensions_69 rfl ?_
  refine zg_1 (pc' := 74) (fun _ _ _ _ _ hl w => lv_bipush (v := (11 : Int32)) hx hb zd_Tool_writeExtensions_72 (by decide) w) ?_
  obtain ⟨h_4, hf⟩ := zx_ck hf
  refine zg_lald (pc' := 75) hx hb hK h_4 zd_Tool_writeExtensions_74 rfl ?_
  refine zg_1 (pc' := 76) (fun _ _ _ _ _ hl w => lv_lconst (v := (0 : Int64)) hx hb zd_Tool_writeExtensions_75 (by decide) w) ?_
  refine zg_1 (pc' := 77) (fun _ _ _ _ _ hl w => W.lcmp hx hb zd_Tool_writeExtensions_76 w) ?_
  refine zg_2 (pc1 := 85) (pc2 := 80) (Classical.em _) (fun _ _ _ _ _ w1 w2 => lv_if_le hx hb zd_Tool_writeExtensions_77 (by decide) w1 w2) (fun hc => ?_) (fun hc => ?_)
  · rw [if_pos hc] at hf
    refine zg_v [1, 2] rfl ?_
    exact zw_Tool_writeExtensions_85 X hR hF hret n s0 a1 i2 hf
  · rw [if_neg hc] at hf
    refine zg_1 (pc' := 81) (fun _ _ _ _ _ hl w => lv_aload_n hx hb zd_Tool_writeExtensions_80 rfl (lv_at hl 0 rfl) w) ?_
    refine zg_1 (pc' := 82) (fun _ _ _ _ _ hl w => lv_aload_n hx hb zd_Tool_writeExtensions_81 rfl (lv_at hl 1 rfl) w) ?_
    obtain ⟨s_5, hq, hf⟩ := zx_p hf
    refine zg_call (pc' := 85) (y := s_5) (rv := none) (rest := []) X hR (zm_Tool_writeOwnExtension hq) (fun H locs ls k j hsz hI hU hk => va_runV (As := [.ref (h0 + a1)]) (rest := []) ⟨hx, hb, hml, hown, htT⟩ (zc_Tool_writeOwnExtension l h0 D dA tb n hq) (cwV 1 htT (zw_gV zt_444 zt_446 zt_4 zt_66 zt_447) rfl rfl rfl (by decide +kernel) ⟨Nat.le_trans (Nat.le_of_ble_eq_true rfl) hF.1, Nat.le_trans (Nat.le_of_ble_eq_true rfl) hF.2⟩) ⟨(zg_pre hU).1, zg_recv hK hI h_1 rfl, (zg_pre hU).2⟩ rfl rfl hsz rfl (lv_room (Nat.le_of_ble_eq_true rfl)) zd_Tool_writeExtensions_82 hk) rfl ?_
    refine zg_v [1, 2] rfl ?_
    exact zw_Tool_writeExtensions_85 X hR hF hret n s_5 a1 i2 hf
set_option maxHeartbeats 4000000 in
theorem zw_Tool_writeExtensions_63 {p : Program} {l : Launch} {e : Env} {R : Room} {s : State} {m : MethodId} {args : Array Value} {below : List Frame} {meth : Method} {c : Code} {Q : State → Prop} {h0 : Nat} {D : va_G} {dA : Nat → ClassId} {tb : Nat → Nat} {c0 k0 : Nat} {z : zh_S} (X : zg_X p s m args meth c ze_Tool_writeExtensions 3 zr_Tool none h0 D dA tb) (hR : zg_R R c0 k0 z) (hF : 4 ≤ R.frames ∧ 89 ≤ R.locals) (hret : ∀ (pc : Nat) (lv : List (Nat × Value)), decode ze_Tool_writeExtensions pc = .ok (.return_, 1) → zg_G p l e R s m args below meth c Q h0 D dA 3 c0 k0 z z pc lv []) (n : Nat) : ∀ (s0 : zh_S) (a0 : Nat) (a1 : Nat) (i2 : Int32), zb_Tool_writeExtensions_63 n s0 a0 a1 i2 = some z → zg_G p l e R s m args below meth c Q h0 D dA 3 c0 k0 z s0 63 [(0, .ref (h0 + a0)), (1, .ref (h0 + a1)), (2, .int i2)] [] := by
  obtain ⟨hx, hb, hml, hown, htT, hrt, hlk, x00, hIn⟩ := id X
  have hK := hIn.2.1
  have hT := hIn.2.2.1
  have hNe := hIn.2.2.2
  intro s0 a0 a1 i2 hf
  rw [zb_Tool_writeExtensions_63] at hf
  refine zg_1 (pc' := 64) (fun _ _ _ _ _ hl w => lv_aload_n hx hb zd_Tool_writeExtensions_63 rfl (lv_at hl 0 rfl) w) ?_
  refine zg_1 (pc' := 65) (fun _ _ _ _ _ hl w => lv_aload_n hx hb zd_Tool_writeExtensions_64 rfl (lv_at hl 1 rfl) w) ?_
  obtain ⟨h_2, hf⟩ := zx_ck hf
  obtain ⟨s_1, hq, hf⟩ := zx_p hf
  refine zg_call (pc' := 68) (y := s_1) (rv := none) (rest := []) X hR (zm_Tool_writeRealm hq) (fun H locs ls k j hsz hI hU hk => va_runV (As := [.ref (h0 + a1)]) (rest := []) ⟨hx, hb, hml, hown, htT⟩ (zc_Tool_writeRealm l h0 D dA tb n hq) (cwV 1 htT (zw_gV zt_439 zt_441 zt_3 zt_66 zt_442) rfl rfl rfl (by decide +kernel) ⟨Nat.le_trans (Nat.le_of_ble_eq_true rfl) hF.1, Nat.le_trans (Nat.le_of_ble_eq_true rfl) hF.2⟩) ⟨(zg_pre hU).1, zg_recv hK hI h_2 rfl, (zg_pre hU).2⟩ rfl rfl hsz rfl (lv_room (Nat.le_of_ble_eq_true rfl)) zd_Tool_writeExtensions_65 hk) rfl ?_
  exact zw_Tool_writeExtensions_68 X hR hF hret n s_1 a0 a1 i2 hf
set_option maxHeartbeats 4000000 in
theorem zw_Tool_writeExtensions_39 {p : Program} {l : Launch} {e : Env} {R : Room} {s : State} {m : MethodId} {args : Array Value} {below : List Frame} {meth : Method} {c : Code} {Q : State → Prop} {h0 : Nat} {D : va_G} {dA : Nat → ClassId} {tb : Nat → Nat} {c0 k0 : Nat} {z : zh_S} (X : zg_X p s m args meth c ze_Tool_writeExtensions 3 zr_Tool none h0 D dA tb) (hR : zg_R R c0 k0 z) (hF : 4 ≤ R.frames ∧ 89 ≤ R.locals) (hret : ∀ (pc : Nat) (lv : List (Nat × Value)), decode ze_Tool_writeExtensions pc = .ok (.return_, 1) → zg_G p l e R s m args below meth c Q h0 D dA 3 c0 k0 z z pc lv []) (n : Nat) : ∀ (s0 : zh_S) (a0 : Nat) (a1 : Nat) (i2 : Int32), zb_Tool_writeExtensions_39 n s0 a0 a1 i2 = some z → zg_G p l e R s m args below meth c Q h0 D dA 3 c0 k0 z s0 39 [(0, .ref (h0 + a0)), (1, .ref (h0 + a1)), (2, .int i2)] [] := by
  obtain ⟨hx, hb, hml, hown, htT, hrt, hlk, x00, hIn⟩ := id X
  have hK := hIn.2.1
  have hT := hIn.2.2.1
  have hNe := hIn.2.2.2
  intro s0 a0 a1 i2 hf
  rw [zb_Tool_writeExtensions_39] at hf
  refine zg_1 (pc' := 40) (fun _ _ _ _ _ hl w => lv_aload_n hx hb zd_Tool_writeExtensions_39 rfl (lv_at hl 0 rfl) w) ?_
  obtain ⟨h_1, hf⟩ := zx_ck hf
  obtain ⟨a_2, h_3, hf⟩ := zx_p hf
  refine zg_get (pc' := 43) (ci := 6) hx hb htT zi_Tool hown hK h_1 rfl rfl 0 (by decide) (htT _ zt_112) (fun _ h9 => h9) (zx_hv h_3) zd_Tool_writeExtensions_40 rfl ?_
  refine zg_1 (pc' := 45) (fun _ _ _ _ _ hl w => lv_bipush (v := (9 : Int32)) hx hb zd_Tool_writeExtensions_43 (by decide) w) ?_
  obtain ⟨h_4, hf⟩ := zx_ck hf
  refine zg_lald (pc' := 46) hx hb hK h_4 zd_Tool_writeExtensions_45 rfl ?_
  refine zg_1 (pc' := 47) (fun _ _ _ _ _ hl w => lv_lconst (v := (0 : Int64)) hx hb zd_Tool_writeExtensions_46 (by decide) w) ?_
  refine zg_1 (pc' := 48) (fun _ _ _ _ _ hl w => W.lcmp hx hb zd_Tool_writeExtensions_47 w) ?_
  refine zg_2 (pc1 := 63) (pc2 := 51) (Classical.em _).symm (fun _ _ _ _ _ w1 w2 => lv_if_ne hx hb zd_Tool_writeExtensions_48 (by decide) w1 w2) (fun hc => ?_) (fun hc => ?_)
  · rw [if_neg hc] at hf
    exact zw_Tool_writeExtensions_63 X hR hF hret n s0 a0 a1 i2 hf
  · rw [if_pos hc] at hf
    refine zg_1 (pc' := 52) (fun _ _ _ _ _ hl w => lv_aload_n hx hb zd_Tool_writeExtensions_51 rfl (lv_at hl 0 rfl) w) ?_
    obtain ⟨a_5, h_6, hf⟩ := zx_p hf
    refine zg_get (pc' := 55) (ci := 6) hx hb htT zi_Tool hown hK h_1 rfl rfl 0 (by decide) (htT _ zt_112) (fun _ h9 => h9) (zx_hv h_6) zd_Tool_writeExtensions_52 rfl ?_
    refine zg_1 (pc' := 57) (fun _ _ _ _ _ hl w => lv_bipush (v := (10 : Int32)) hx hb zd_Tool_writeExtensions_55 (by decide) w) ?_
    obtain ⟨h_7, hf⟩ := zx_ck hf
    refine zg_lald (pc' := 58) hx hb hK h_7 zd_Tool_writeExtensions_57 rfl ?_
    refine zg_1 (pc' := 59) (fun _ _ _ _ _ hl w => lv_lconst (v := (0 : Int64)) hx hb zd_Tool_writeExtensions_58 (by decide) w) ?_
    refine zg_1 (pc' := 60) (fun _ _ _ _ _ hl w => W.lcmp hx hb zd_Tool_writeExtensions_59 w) ?_
    refine zg_2 (pc1 := 68) (pc2 := 63) (Classical.em _) (fun _ _ _ _ _ w1 w2 => lv_if_eq hx hb zd_Tool_writeExtensions_60 (by decide) w1 w2) (fun hc => ?_) (fun hc => ?_)
    · rw [if_pos hc] at hf
      exact zw_Tool_writeExtensions_68 X hR hF hret n s0 a0 a1 i2 hf
    · rw [if_neg hc] at hf
      exact zw_Tool_writeExtensions_63 X hR hF hret n s0 a0 a1 i2 hf
set_option maxHeartbeats 4000000 in
theorem zw_Tool_writeExtensions_22 {p : Program} {l : Launch} {e : Env} {R : Room} {s : State} {m : MethodId} {args : Array Value} {below : List Frame} {meth : Method} {c : Code} {Q : State → Prop} {h0 : Nat} {D : va_G} {dA : Nat → ClassId} {tb : Nat → Nat} {c0 k0 : Nat} {z : zh_S} (X : zg_X p s m args meth c ze_Tool_writeExtensions 3 zr_Tool none h0 D dA tb) (hR : zg_R R c0 k0 z) (hF : 4 ≤ R.frames ∧ 89 ≤ R.locals) (hret : ∀ (pc : Nat) (lv : List (Nat × Value)), decode ze_Tool_writeExtensions pc = .ok (.return_, 1) → zg_G p l e R s m args below meth c Q h0 D dA 3 c0 k0 z z pc lv []) (n : Nat) : ∀ (s0 : zh_S) (a0 : Nat) (a1 : Nat) (i2 : Int32), zb_Tool_writeExtensions_22 n s0 a0 a1 i2 = some z → zg_G p l e R s m args below meth c Q h0 D dA 3 c0 k0 z s0 22 [(0, .ref (h0 + a0)), (1, .ref (h0 + a1)), (2, .int i2)] [] := by
  obtain ⟨hx, hb, hml, hown, htT, hrt, hlk, x00, hIn⟩ := id X
  have hK := hIn.2.1
  have hT := hIn.2.2.1
  have hNe := hIn.2.2.2
  intro s0 a0 a1 i2 hf
  rw [zb_Tool_writeExtensions_22] at hf
  refine zg_1 (pc' := 23) (fun _ _ _ _ _ hl w => lv_aload_n hx hb zd_Tool_writeExtensions_22 rfl (lv_at hl 0 rfl) w) ?_
  obtain ⟨h_1, hf⟩ := zx_ck hf
  obtain ⟨a_2, h_3, hf⟩ := zx_p hf
  refine zg_get (pc' := 26) (ci := 6) hx hb htT zi_Tool hown hK h_1 rfl rfl 0 (by decide) (htT _ zt_112) (fun _ h9 => h9) (zx_hv h_3) zd_Tool_writeExtensions_23 rfl ?_
  refine zg_1 (pc' := 28) (fun _ _ _ _ _ hl w => lv_bipush (v := (8 : Int32)) hx hb zd_Tool_writeExtensions_26 (by decide) w) ?_
  obtain ⟨h_4, hf⟩ := zx_ck hf
  refine zg_lald (pc' := 29) hx hb hK h_4 zd_Tool_writeExtensions_28 rfl ?_
  refine zg_1 (pc' := 30) (fun _ _ _ _ _ hl w => lv_lconst (v := (0 : Int64)) hx hb zd_Tool_writeExtensions_29 (by decide) w) ?_
  refine zg_1 (pc' := 31) (fun _ _ _ _ _ hl w => W.lcmp hx hb zd_Tool_writeExtensions_30 w) ?_
  refine zg_2 (pc1 := 39) (pc2 := 34) (Classical.em _) (fun _ _ _ _ _ w1 w2 => lv_if_lt hx hb zd_Tool_writeExtensions_31 (by decide) w1 w2) (fun hc => ?_) (fun hc => ?_)
  · rw [if_pos hc] at hf
    exact zw_Tool_writeExtensions_39 X hR hF hret n s0 a0 a1 i2 hf
  · rw [if_neg hc] at hf
    refine zg_1 (pc' := 35) (fun _ _ _ _ _ hl w => lv_aload_n hx hb zd_Tool_writeExtensions_34 rfl (lv_at hl 0 rfl) w) ?_
    refine zg_1 (pc' := 36) (fun _ _ _ _ _ hl w => lv_aload_n hx hb zd_Tool_writeExtensions_35 rfl (lv_at hl 1 rfl) w) ?_
    obtain ⟨s_5, hq, hf⟩ := zx_p hf
    refine zg_call (pc' := 39) (y := s_5) (rv := none) (rest := []) X hR (zm_Tool_writeUsage hq) (fun H locs ls k j hsz hI hU hk => va_runV (As := [.ref (h0 + a1)]) (rest := []) ⟨hx, hb, hml, hown, htT⟩ (zc_Tool_writeUsage l h0 D dA tb n hq) (cwV 1 htT (zw_gV zt_435 zt_437 zt_2 zt_66 zt_438) rfl rfl rfl (by decide +kernel) ⟨Nat.le_trans (Nat.le_of_ble_eq_true rfl) hF.1, Nat.le_trans (Nat.le_of_ble_eq_true rfl) hF.2⟩) ⟨(zg_pre hU).1, zg_recv hK hI h_1 rfl, (zg_pre hU).2⟩ rfl rfl hsz rfl (lv_room (Nat.le_of_ble_eq_true rfl)) zd_Tool_writeExtensions_36 hk) rfl ?_
    exact zw_Tool_writeExtensions_39 X hR hF hret n s_5 a0 a1 i2 hf
set_option maxHeartbeats 4000000 in
theorem zc_Tool_writeExtensions (l : Launch) (h0 : Nat) (D : va_G) (dA : Nat → ClassId) (tb : Nat → Nat) (n : Nat) {s0 : zh_S} {a0 : Nat} {a1 : Nat} {z : zh_S} (hf : zf_Tool_writeExtensions n s0 a0 a1 = some z) : zc_M l zn_Tool_writeExtensions zs_Tool_writeExtensions 4 89 h0 D dA tb [.ref (h0 + a0), .ref (h0 + a1)] s0 none z := by
  rw [zf_Tool_writeExtensions] at hf
  refine zc_of (cc := ze_Tool_writeExtensions) (maxL := 3) (ret := none) (lv := [(0, .ref (h0 + a0)), (1, .ref (h0 + a1))]) (by decide) rfl (Nat.le_of_ble_eq_true rfl) rfl ?_
  intro p e s m args below meth c X hnm
  obtain ⟨hx, hb, hml, hown, htT, hrt, hlk, x00, hIn⟩ := id X
  have hK := hIn.2.1
  have hT := hIn.2.2.1
  have hNe := hIn.2.2.2
  have hR : zg_R { frames := 4, cells := zh_N z - zh_N s0, slots := zh_M z - zh_M s0, locals := 89 } (zh_N s0) (zh_M s0) z := ⟨by show zh_N z ≤ zh_N s0 + (zh_N z - zh_N s0); omega, by show zh_M z ≤ zh_M s0 + (zh_M z - zh_M s0); omega⟩
  have hF : 4 ≤ ({ frames := 4, cells := zh_N z - zh_N s0, slots := zh_M z - zh_M s0, locals := 89 } : Room).frames ∧ 89 ≤ ({ frames := 4, cells := zh_N z - zh_N s0, slots := zh_M z - zh_M s0, locals := 89 } : Room).locals := ⟨Nat.le_refl _, Nat.le_refl _⟩
  have hret := fun (pc : Nat) (lv : List (Nat × Value)) (hd : decode ze_Tool_writeExtensions pc = .ok (.return_, 1)) => zg_vret (R := { frames := 4, cells := zh_N z - zh_N s0, slots := zh_M z - zh_M s0, locals := 89 }) (l := l) (e := e) (below := below) (c0 := zh_N s0) (s0 := zh_M s0) (z := z) (lv := lv) X hd
  refine zg_1 (pc' := 1) (fun _ _ _ _ _ hl w => lv_aload_n hx hb zd_Tool_writeExtensions_0 rfl (lv_at hl 1 rfl) w) ?_
  obtain ⟨h_1, hf⟩ := zx_ck hf
  refine zg_get (pc' := 4) (ci := 1) hx hb htT zi_Draft hown hK h_1 rfl rfl 1 (by decide) (htT _ zt_97) (fun _ h9 => h9) rfl zd_Tool_writeExtensions_1 rfl ?_
  obtain ⟨i_2, e_i_2, hf⟩ := zx_l hf
  refine zg_ti e_i_2 ?_
  refine zg_s (pc' := 5) (lv' := [(2, .int i_2), (0, .ref (h0 + a0)), (1, .ref (h0 + a1))]) (fun _ _ _ _ _ hl w => lv_istore_n hx hb zd_Tool_writeExtensions_4 rfl hl (by decide) rfl w) ?_
  refine zg_1 (pc' := 6) (fun _ _ _ _ _ hl w => lv_aload_n hx hb zd_Tool_writeExtensions_5 rfl (lv_at hl 1 rfl) w) ?_
  obtain ⟨h_3, hf⟩ := zx_ck hf
  obtain ⟨a_4, h_5, hf⟩ := zx_p hf
  refine zg_get (pc' := 9) (ci := 6) hx hb htT zi_Tool hown hK h_3 rfl rfl 0 (by decide) (htT _ zt_112) (fun _ h9 => h9) (zx_hv h_5) zd_Tool_writeExtensions_6 rfl ?_
  refine zg_1 (pc' := 11) (fun _ _ _ _ _ hl w => lv_bipush (v := (6 : Int32)) hx hb zd_Tool_writeExtensions_9 (by decide) w) ?_
  obtain ⟨h_6, hf⟩ := zx_ck hf
  refine zg_lald (pc' := 12) hx hb hK h_6 zd_Tool_writeExtensions_11 rfl ?_
  refine zg_1 (pc' := 13) (fun _ _ _ _ _ hl w => lv_lconst (v := (0 : Int64)) hx hb zd_Tool_writeExtensions_12 (by decide) w) ?_
  refine zg_1 (pc' := 14) (fun _ _ _ _ _ hl w => W.lcmp hx hb zd_Tool_writeExtensions_13 w) ?_
  refine zg_2 (pc1 := 22) (pc2 := 17) (Classical.em _) (fun _ _ _ _ _ w1 w2 => lv_if_lt hx hb zd_Tool_writeExtensions_14 (by decide) w1 w2) (fun hc => ?_) (fun hc => ?_)
  · rw [if_pos hc] at hf
    refine zg_v [1, 2, 0] rfl ?_
    exact zw_Tool_writeExtensions_22 X hR hF hret n s0 a0 a1 i_2 hf
  · rw [if_neg hc] at hf
    refine zg_1 (pc' := 18) (fun _ _ _ _ _ hl w => lv_aload_n hx hb zd_Tool_writeExtensions_17 rfl (lv_at hl 1 rfl) w) ?_
    refine zg_1 (pc' := 19) (fun _ _ _ _ _ hl w => lv_aload_n hx hb zd_Tool_writeExtensions_18 rfl (lv_at hl 2 rfl) w) ?_
    obtain ⟨s_7, hq, hf⟩ := zx_p hf
    refine zg_call (pc' := 22) (y := s_7) (rv := none) (rest := []) X hR (zm_Tool_writeBasic hq) (fun H locs ls k j hsz hI hU hk => va_runV (As := [.ref (h0 + a1)]) (rest := []) ⟨hx, hb, hml, hown, htT⟩ (zc_Tool_writeBasic l h0 D dA tb n hq) (cwV 1 htT (zw_gV zt_420 zt_422 zt_1 zt_66 zt_423) rfl rfl rfl (by decide +kernel) ⟨Nat.le_trans (Nat.le_of_ble_eq_true rfl) hF.1, Nat.le_trans (Nat.le_of_ble_eq_true rfl) hF.2⟩) ⟨(zg_pre hU).1, zg_recv hK hI h_3 rfl, (zg_pre hU).2⟩ rfl rfl hsz rfl (lv_room (Nat.le_of_ble_eq_true rfl)) zd_Tool_writeExtensions_19 hk) rfl ?_
    refine zg_v [1, 2, 0] rfl ?_
    exact zw_Tool_writeExtensions_22 X hR hF hret n s_7 a0 a1 i_2 hf
set_option maxHeartbeats 4000000 in
theorem zc_Tool_writeCertificate (l : Launch) (h0 : Nat) (D : va_G) (dA : Nat → ClassId) (tb : Nat → Nat) (n : Nat) {s0 : zh_S} {a0 : Nat} {a1 : Nat} {r : Int32} {z : zh_S} (hf : zf_Tool_writeCertificate n s0 a0 a1 = some (r, z)) : zc_M l zn_Tool_writeCertificate zs_Tool_writeCertificate 5 138 h0 D dA tb [.ref (h0 + a0), .ref (h0 + a1)] s0 (some (.int r)) z := by
  rw [zf_Tool_writeCertificate] at hf
  refine zc_of (cc := ze_Tool_writeCertificate) (maxL := 3) (ret := (some .int)) (lv := [(0, .ref (h0 + a0)), (1, .ref (h0 + a1))]) (by decide) rfl (Nat.le_of_ble_eq_true rfl) rfl ?_
  intro p e s m args below meth c X hnm
  obtain ⟨hx, hb, hml, hown, htT, hrt, hlk, x00, hIn⟩ := id X
  have hK := hIn.2.1
  have hT := hIn.2.2.1
  have hNe := hIn.2.2.2
  have hR : zg_R { frames := 5, cells := zh_N z - zh_N s0, slots := zh_M z - zh_M s0, locals := 138 } (zh_N s0) (zh_M s0) z := ⟨by show zh_N z ≤ zh_N s0 + (zh_N z - zh_N s0); omega, by show zh_M z ≤ zh_M s0 + (zh_M z - zh_M s0); omega⟩
  have hF : 5 ≤ ({ frames := 5, cells := zh_N z - zh_N s0, slots := zh_M z - zh_M s0, locals := 138 } : Room).frames ∧ 138 ≤ ({ frames := 5, cells := zh_N z - zh_N s0, slots := zh_M z - zh_M s0, locals := 138 } : Room).locals := ⟨Nat.le_refl _, Nat.le_refl _⟩
  have hret := fun (pc : Nat) (lv : List (Nat × Value)) (hd : decode ze_Tool_writeCertificate pc = .ok (.ireturn, 1)) => zg_iret (R := { frames := 5, cells := zh_N z - zh_N s0, slots := zh_M z - zh_M s0, locals := 138 }) (l := l) (e := e) (below := below) (c0 := zh_N s0) (s0 := zh_M s0) (z := z) (lv := lv) (v := r) X rfl hd
  refine zg_1 (pc' := 1) (fun _ _ _ _ _ hl w => lv_aload_n hx hb zd_Tool_writeCertificate_0 rfl (lv_at hl 0 rfl) w) ?_
  obtain ⟨h_1, hf⟩ := zx_ck hf
  obtain ⟨a_2, h_3, hf⟩ := zx_p hf
  refine zg_get (pc' := 4) (ci := 6) hx hb htT zi_Tool hown hK h_1 rfl rfl 0 (by decide) (htT _ zt_112) (fun _ h9 => h9) (zx_hv h_3) zd_Tool_writeCertificate_1 rfl ?_
  refine zg_1 (pc' := 5) (fun _ _ _ _ _ hl w => lv_iconst (v := (5 : Int32)) hx hb zd_Tool_writeCertificate_4 (by decide) w) ?_
  obtain ⟨h_4, hf⟩ := zx_ck hf
  refine zg_lald (pc' := 6) hx hb hK h_4 zd_Tool_writeCertificate_5 rfl ?_
  refine zg_1 (pc' := 7) (fun _ _ _ _ _ hl w => lv_l2i (v := (zh_J s0 a_2 ((5 : Int32).toNatClampNeg)).toInt32) hx hb zd_Tool_writeCertificate_6 rfl w) ?_
  obtain ⟨i_5, e_i_5, hf⟩ := zx_l hf
  refine zg_ti e_i_5 ?_
  refine zg_s (pc' := 8) (lv' := [(2, .int i_5), (0, .ref (h0 + a0)), (1, .ref (h0 + a1))]) (fun _ _ _ _ _ hl w => lv_istore_n hx hb zd_Tool_writeCertificate_7 rfl hl (by decide) rfl w) ?_
  refine zg_1 (pc' := 9) (fun _ _ _ _ _ hl w => lv_aload_n hx hb zd_Tool_writeCertificate_8 rfl (lv_at hl 2 rfl) w) ?_
  obtain ⟨h_7, hf⟩ := zx_ck hf
  obtain ⟨s_6, hq, hf⟩ := zx_p hf
  refine zg_call (pc' := 12) (y := s_6) (rv := none) (rest := []) X hR (zm_Draft_empty hq) (fun H locs ls k j hsz hI hU hk => va_runV (As := []) (rest := []) ⟨hx, hb, hml, hown, htT⟩ (zc_Draft_empty l h0 D dA tb n hq) (cwV 0 htT (zw_gV zt_397 zt_343 zt_344 zt_65 zt_345) rfl rfl rfl (by decide +kernel) ⟨Nat.le_trans (Nat.le_of_ble_eq_true rfl) hF.1, Nat.le_trans (Nat.le_of_ble_eq_true rfl) hF.2⟩) ⟨(zg_pre hU).1, zg_recv hK hI h_7 rfl, (zg_pre hU).2⟩ rfl rfl hsz rfl (lv_room (Nat.le_of_ble_eq_true rfl)) zd_Tool_writeCertificate_9 hk) rfl ?_
  refine zg_1 (pc' := 13) (fun _ _ _ _ _ hl w => lv_aload_n hx hb zd_Tool_writeCertificate_12 rfl (lv_at hl 2 rfl) w) ?_
  refine zg_1 (pc' := 14) (fun _ _ _ _ _ hl w => lv_aload_n hx hb zd_Tool_writeCertificate_13 rfl (lv_at hl 1 rfl) w) ?_
  obtain ⟨h_8, hf⟩ := zx_ck hf
  obtain ⟨a_9, h_10, hf⟩ := zx_p hf
  refine zg_get (pc' := 17) (ci := 6) hx hb htT zi_Tool hown hK h_8 rfl rfl 0 (by decide) (htT _ zt_112) (fun _ h9 => h9) (zx_hv h_10) zd_Tool_writeCertificate_14 rfl ?_
  refine zg_1 (pc' := 18) (fun _ _ _ _ _ hl w => lv_iconst (v := (0 : Int32)) hx hb zd_Tool_writeCertificate_17 (by decide) w) ?_
  obtain ⟨h_11, hf⟩ := zx_ck hf
  refine zg_lald (pc' := 19) hx hb hK h_11 zd_Tool_writeCertificate_18 rfl ?_
  obtain ⟨h_13, hf⟩ := zx_ck hf
  obtain ⟨s_12, hq, hf⟩ := zx_p hf
  refine zg_call (pc' := 22) (y := s_12) (rv := none) (rest := []) X hR (zm_Draft_appendInteger hq) (fun H locs ls k j hsz hI hU hk => va_runV (As := [.long (zh_J s_6 a_9 ((0 : Int32).toNatClampNeg))]) (rest := []) ⟨hx, hb, hml, hown, htT⟩ (zc_Draft_appendInteger l h0 D dA tb n hq) (cwV 1 htT (zw_gV zt_398 zt_399 zt_400 zt_65 zt_401) rfl rfl rfl (by decide +kernel) ⟨Nat.le_trans (Nat.le_of_ble_eq_true rfl) hF.1, Nat.le_trans (Nat.le_of_ble_eq_true rfl) hF.2⟩) ⟨(zg_pre hU).1, zg_recv hK hI h_13 rfl, (zg_pre hU).2⟩ rfl rfl hsz rfl (lv_room (Nat.le_of_ble_eq_true rfl)) zd_Tool_writeCertificate_19 hk) rfl ?_
  refine zg_1 (pc' := 23) (fun _ _ _ _ _ hl w => lv_aload_n hx hb zd_Tool_writeCertificate_22 rfl (lv_at hl 2 rfl) w) ?_
  refine zg_1 (pc' := 25) (fun _ _ _ _ _ hl w => lv_bipush (v := (19 : Int32)) hx hb zd_Tool_writeCertificate_23 (by decide) w) ?_
  refine zg_1 (pc' := 26) (fun _ _ _ _ _ hl w => lv_aload_n hx hb zd_Tool_writeCertificate_25 rfl (lv_at hl 1 rfl) w) ?_
  obtain ⟨h_14, hf⟩ := zx_ck hf
  obtain ⟨a_15, h_16, hf⟩ := zx_p hf
  refine zg_get (pc' := 29) (ci := 6) hx hb htT zi_Tool hown hK h_14 rfl rfl 0 (by decide) (htT _ zt_112) (fun _ h9 => h9) (zx_hv h_16) zd_Tool_writeCertificate_26 rfl ?_
  refine zg_1 (pc' := 30) (fun _ _ _ _ _ hl w => lv_iconst (v := (1 : Int32)) hx hb zd_Tool_writeCertificate_29 (by decide) w) ?_
  obtain ⟨h_17, hf⟩ := zx_ck hf
  refine zg_lald (pc' := 31) hx hb hK h_17 zd_Tool_writeCertificate_30 rfl ?_
  obtain ⟨h_19, hf⟩ := zx_ck hf
  obtain ⟨s_18, hq, hf⟩ := zx_p hf
  refine zg_call (pc' := 34) (y := s_18) (rv := none) (rest := []) X hR (zm_Draft_appendName hq) (fun H locs ls k j hsz hI hU hk => va_runV (As := [.int (19 : Int32), .long (zh_J s_12 a_15 ((1 : Int32).toNatClampNeg))]) (rest := []) ⟨hx, hb, hml, hown, htT⟩ (zc_Draft_appendName l h0 D dA tb n hq) (cwV 2 htT (zw_gV zt_403 zt_404 zt_405 zt_65 zt_406) rfl rfl rfl (by decide +kernel) ⟨Nat.le_trans (Nat.le_of_ble_eq_true rfl) hF.1, Nat.le_trans (Nat.le_of_ble_eq_true rfl) hF.2⟩) ⟨(zg_pre hU).1, zg_recv hK hI h_19 rfl, (zg_pre hU).2⟩ rfl rfl hsz rfl (lv_room (Nat.le_of_ble_eq_true rfl)) zd_Tool_writeCertificate_31 hk) rfl ?_
  refine zg_1 (pc' := 35) (fun _ _ _ _ _ hl w => lv_aload_n hx hb zd_Tool_writeCertificate_34 rfl (lv_at hl 2 rfl) w) ?_
  refine zg_1 (pc' := 36) (fun _ _ _ _ _ hl w => lv_aload_n hx hb zd_Tool_writeCertificate_35 rfl (lv_at hl 1 rfl) w) ?_
  obtain ⟨h_20, hf⟩ := zx_ck hf
  obtain ⟨a_21, h_22, hf⟩ := zx_p hf
  refine zg_get (pc' := 39) (ci := 6) hx hb htT zi_Tool hown hK h_20 rfl rfl 0 (by decide) (htT _ zt_112) (fun _ h9 => h9) (zx_hv h_22) zd_Tool_writeCertificate_36 rfl ?_
  refine zg_1 (pc' := 40) (fun _ _ _ _ _ hl w => lv_iconst (v := (2 : Int32)) hx hb zd_Tool_writeCertificate_39 (by decide) w) ?_
  obtain ⟨h_23, hf⟩ := zx_ck hf
  refine zg_lald (pc' := 41) hx hb hK h_23 zd_Tool_writeCertificate_40 rfl ?_
  obtain ⟨h_25, hf⟩ := zx_ck hf
  obtain ⟨s_24, hq, hf⟩ := zx_p hf
  refine zg_call (pc' := 44) (y := s_24) (rv := none) (rest := []) X hR (zm_Draft_appendInteger hq) (fun H locs ls k j hsz hI hU hk => va_runV (As := [.long (zh_J s_18 a_21 ((2 : Int32).toNatClampNeg))]) (rest := []) ⟨hx, hb, hml, hown, htT⟩ (zc_Draft_appendInteger l h0 D dA tb n hq) (cwV 1 htT (zw_gV zt_398 zt_399 zt_400 zt_65 zt_401) rfl rfl rfl (by decide +kernel) ⟨Nat.le_trans (Nat.le_of_ble_eq_true rfl) hF.1, Nat.le_trans (Nat.le_of_ble_eq_true rfl) hF.2⟩) ⟨(zg_pre hU).1, zg_recv hK hI h_25 rfl, (zg_pre hU).2⟩ rfl rfl hsz rfl (lv_room (Nat.le_of_ble_eq_true rfl)) zd_Tool_writeCertificate_41 hk) rfl ?_
  refine zg_1 (pc' := 45) (fun _ _ _ _ _ hl w => lv_aload_n hx hb zd_Tool_writeCertificate_44 rfl (lv_at hl 2 rfl) w) ?_
  refine zg_1 (pc' := 46) (fun _ _ _ _ _ hl w => lv_aload_n hx hb zd_Tool_writeCertificate_45 rfl (lv_at hl 1 rfl) w) ?_
  obtain ⟨h_26, hf⟩ := zx_ck hf
  obtain ⟨a_27, h_28, hf⟩ := zx_p hf
  refine zg_get (pc' := 49) (ci := 6) hx hb htT zi_Tool hown hK h_26 rfl rfl 0 (by decide) (htT _ zt_112) (fun _ h9 => h9) (zx_hv h_28) zd_Tool_writeCertificate_46 rfl ?_
  refine zg_1 (pc' := 50) (fun _ _ _ _ _ hl w => lv_iconst (v := (3 : Int32)) hx hb zd_Tool_writeCertificate_49 (by decide) w) ?_
  obtain ⟨h_29, hf⟩ := zx_ck hf
  refine zg_lald (pc' := 51) hx hb hK h_29 zd_Tool_writeCertificate_50 rfl ?_
  obtain ⟨h_31, hf⟩ := zx_ck hf
  obtain ⟨s_30, hq, hf⟩ := zx_p hf
  refine zg_call (pc' := 54) (y := s_30) (rv := none) (rest := []) X hR (zm_Draft_appendInteger hq) (fun H locs ls k j hsz hI hU hk => va_runV (As := [.long (zh_J s_24 a_27 ((3 : Int32).toNatClampNeg))]) (rest := []) ⟨hx, hb, hml, hown, htT⟩ (zc_Draft_appendInteger l h0 D dA tb n hq) (cwV 1 htT (zw_gV zt_398 zt_399 zt_400 zt_65 zt_401) rfl rfl rfl (by decide +kernel) ⟨Nat.le_trans (Nat.le_of_ble_eq_true rfl) hF.1, Nat.le_trans (Nat.le_of_ble_eq_true rfl) hF.2⟩) ⟨(zg_pre hU).1, zg_recv hK hI h_31 rfl, (zg_pre hU).2⟩ rfl rfl hsz rfl (lv_room (Nat.le_of_ble_eq_true rfl)) zd_Tool_writeCertificate_51 hk) rfl ?_
  refine zg_1 (pc' := 55) (fun _ _ _ _ _ hl w => lv_aload_n hx hb zd_Tool_writeCertificate_54 rfl (lv_at hl 2 rfl) w) ?_
  refine zg_1 (pc' := 57) (fun _ _ _ _ _ hl w => lv_bipush (v := (19 : Int32)) hx hb zd_Tool_writeCertificate_55 (by decide) w) ?_
  refine zg_1 (pc' := 58) (fun _ _ _ _ _ hl w => lv_aload_n hx hb zd_Tool_writeCertificate_57 rfl (lv_at hl 1 rfl) w) ?_
  obtain ⟨h_32, hf⟩ := zx_ck hf
  obtain ⟨a_33, h_34, hf⟩ := zx_p hf
  refine zg_get (pc' := 61) (ci := 6) hx hb htT zi_Tool hown hK h_32 rfl rfl 0 (by decide) (htT _ zt_112) (fun _ h9 => h9) (zx_hv h_34) zd_Tool_writeCertificate_58 rfl ?_
  refine zg_1 (pc' := 62) (fun _ _ _ _ _ hl w => lv_iconst (v := (4 : Int32)) hx hb zd_Tool_writeCertificate_61 (by decide) w) ?_
  obtain ⟨h_35, hf⟩ := zx_ck hf
  refine zg_lald (pc' := 63) hx hb hK h_35 zd_Tool_writeCertificate_62 rfl ?_
  obtain ⟨h_37, hf⟩ := zx_ck hf
  obtain ⟨s_36, hq, hf⟩ := zx_p hf
  refine zg_call (pc' := 66) (y := s_36) (rv := none) (rest := []) X hR (zm_Draft_appendName hq) (fun H locs ls k j hsz hI hU hk => va_runV (As := [.int (19 : Int32), .long (zh_J s_30 a_33 ((4 : Int32).toNatClampNeg))]) (rest := []) ⟨hx, hb, hml, hown, htT⟩ (zc_Draft_appendName l h0 D dA tb n hq) (cwV 2 htT (zw_gV zt_403 zt_404 zt_405 zt_65 zt_406) rfl rfl rfl (by decide +kernel) ⟨Nat.le_trans (Nat.le_of_ble_eq_true rfl) hF.1, Nat.le_trans (Nat.le_of_ble_eq_true rfl) hF.2⟩) ⟨(zg_pre hU).1, zg_recv hK hI h_37 rfl, (zg_pre hU).2⟩ rfl rfl hsz rfl (lv_room (Nat.le_of_ble_eq_true rfl)) zd_Tool_writeCertificate_63 hk) rfl ?_
  refine zg_1 (pc' := 67) (fun _ _ _ _ _ hl w => lv_aload_n hx hb zd_Tool_writeCertificate_66 rfl (lv_at hl 2 rfl) w) ?_
  refine zg_3 (pc' := 70) (fun _ _ _ _ _ hS hl w => va_gets hx hb hT.1.1 hS hown (htT _ zt_413) (fun _ h9 => h9) zd_Tool_writeCertificate_67 w) ?_
  refine zg_1 (pc' := 71) (fun _ _ _ _ _ hl w => lv_iload_n hx hb zd_Tool_writeCertificate_70 rfl (lv_at hl 0 rfl) w) ?_
  obtain ⟨h_38, hf⟩ := zx_ck hf
  refine zg_3 (pc' := 72) (fun _ _ _ _ _ hS hl w => va_tl hx hb hT.1.2 hS (zh_in h_38.1 h_38.2) rfl zd_Tool_writeCertificate_71 w) ?_
  obtain ⟨h_40, hf⟩ := zx_ck hf
  obtain ⟨s_39, hq, hf⟩ := zx_p hf
  refine zg_call (pc' := 75) (y := s_39) (rv := none) (rest := []) X hR (zm_Draft_appendInteger hq) (fun H locs ls k j hsz hI hU hk => va_runV (As := [.long (zt_MODULI i_5.toNatClampNeg)]) (rest := []) ⟨hx, hb, hml, hown, htT⟩ (zc_Draft_appendInteger l h0 D dA tb n hq) (cwV 1 htT (zw_gV zt_398 zt_399 zt_400 zt_65 zt_401) rfl rfl rfl (by decide +kernel) ⟨Nat.le_trans (Nat.le_of_ble_eq_true rfl) hF.1, Nat.le_trans (Nat.le_of_ble_eq_true rfl) hF.2⟩) ⟨(zg_pre hU).1, zg_recv hK hI h_40 rfl, (zg_pre hU).2⟩ rfl rfl hsz rfl (lv_room (Nat.le_of_ble_eq_true rfl)) zd_Tool_writeCertificate_72 hk) rfl ?_
  refine zg_1 (pc' := 76) (fun _ _ _ _ _ hl w => lv_aload_n hx hb zd_Tool_writeCertificate_75 rfl (lv_at hl 2 rfl) w) ?_
  refine zg_3 (pc' := 79) (fun _ _ _ _ _ hS hl w => va_gets hx hb hT.2.1.1 hS hown (htT _ zt_414) (fun _ h9 => h9) zd_Tool_writeCertificate_76 w) ?_
  refine zg_1 (pc' := 80) (fun _ _ _ _ _ hl w => lv_iload_n hx hb zd_Tool_writeCertificate_79 rfl (lv_at hl 0 rfl) w) ?_
  obtain ⟨h_41, hf⟩ := zx_ck hf
  refine zg_3 (pc' := 81) (fun _ _ _ _ _ hS hl w => va_tl hx hb hT.2.1.2 hS (zh_in h_41.1 h_41.2) rfl zd_Tool_writeCertificate_80 w) ?_
  obtain ⟨h_43, hf⟩ := zx_ck hf
  obtain ⟨s_42, hq, hf⟩ := zx_p hf
  refine zg_call (pc' := 84) (y := s_42) (rv := none) (rest := []) X hR (zm_Draft_appendInteger hq) (fun H locs ls k j hsz hI hU hk => va_runV (As := [.long (zt_EXPONENTS i_5.toNatClampNeg)]) (rest := []) ⟨hx, hb, hml, hown, htT⟩ (zc_Draft_appendInteger l h0 D dA tb n hq) (cwV 1 htT (zw_gV zt_398 zt_399 zt_400 zt_65 zt_401) rfl rfl rfl (by decide +kernel) ⟨Nat.le_trans (Nat.le_of_ble_eq_true rfl) hF.1, Nat.le_trans (Nat.le_of_ble_eq_true rfl) hF.2⟩) ⟨(zg_pre hU).1, zg_recv hK hI h_43 rfl, (zg_pre hU).2⟩ rfl rfl hsz rfl (lv_room (Nat.le_of_ble_eq_true rfl)) zd_Tool_writeCertificate_81 hk) rfl ?_
  refine zg_1 (pc' := 85) (fun _ _ _ _ _ hl w => lv_aload_n hx hb zd_Tool_writeCertificate_84 rfl (lv_at hl 1 rfl) w) ?_
  refine zg_1 (pc' := 86) (fun _ _ _ _ _ hl w => lv_aload_n hx hb zd_Tool_writeCertificate_85 rfl (lv_at hl 2 rfl) w) ?_
  obtain ⟨h_45, hf⟩ := zx_ck hf
  obtain ⟨s_44, hq, hf⟩ := zx_p hf
  refine zg_call (pc' := 89) (y := s_44) (rv := none) (rest := []) X hR (zm_Tool_writeExtensions hq) (fun H locs ls k j hsz hI hU hk => va_runV (As := [.ref (h0 + a1)]) (rest := []) ⟨hx, hb, hml, hown, htT⟩ (zc_Tool_writeExtensions l h0 D dA tb n hq) (cwV 1 htT (zw_gV zt_416 zt_418 zt_0 zt_66 zt_419) rfl rfl rfl (by decide +kernel) ⟨Nat.le_trans (Nat.le_of_ble_eq_true rfl) hF.1, Nat.le_trans (Nat.le_of_ble_eq_true rfl) hF.2⟩) ⟨(zg_pre hU).1, zg_recv hK hI h_45 rfl, (zg_pre hU).2⟩ rfl rfl hsz rfl (lv_room (Nat.le_of_ble_eq_true rfl)) zd_Tool_writeCertificate_86 hk) rfl ?_
  refine zg_1 (pc' := 90) (fun _ _ _ _ _ hl w => lv_aload_n hx hb zd_Tool_writeCertificate_89 rfl (lv_at hl 1 rfl) w) ?_
  refine zg_1 (pc' := 91) (fun _ _ _ _ _ hl w => lv_aload_n hx hb zd_Tool_writeCertificate_90 rfl (lv_at hl 2 rfl) w) ?_
  obtain ⟨h_47, hf⟩ := zx_ck hf
  obtain ⟨i_48, s_46, hq, hf⟩ := zx_b hf
  refine zg_call (pc' := 94) (y := s_46) (rv := (some (.int i_48))) (rest := []) X hR (zm_Tool_finish hq) (fun H locs ls k j hsz hI hU hk => va_runV (As := [.ref (h0 + a1)]) (rest := []) ⟨hx, hb, hml, hown, htT⟩ (zc_Tool_finish l h0 D dA tb n hq) (cwV 1 htT (zw_gV zt_448 zt_450 zt_5 zt_66 zt_451) rfl rfl rfl (by decide +kernel) ⟨Nat.le_trans (Nat.le_of_ble_eq_true rfl) hF.1, Nat.le_trans (Nat.le_of_ble_eq_true rfl) hF.2⟩) ⟨(zg_pre hU).1, zg_recv hK hI h_47 rfl, (zg_pre hU).2⟩ rfl rfl hsz rfl (lv_room (Nat.le_of_ble_eq_true rfl)) zd_Tool_writeCertificate_91 hk) rfl ?_
  obtain ⟨rfl, rfl⟩ := zx_r2 hf
  exact hret _ _ zd_Tool_writeCertificate_94
