set_option maxHeartbeats 4000000 in
theorem zc_M_next (l : Launch) (h0 : Nat) (D : va_G) (dA : Nat → ClassId) (tb : Nat → Nat) (n : Nat) {s0 : zh_S} {a0 : Nat} {i1 : Int32} {i2 : Int32} {r : Int32} (hf : zf_M_next n s0 a0 i1 i2 = some r) : zc_M l zn_M_next zs_M_next 0 0 h0 D dA tb [.ref (h0 + a0), .int i1, .int i2] s0 (some (.int r)) s0 := by
  rw [zf_M_next] at hf
  refine zc_of (cc := ze_M_next) (maxL := 3) (ret := (some .boolean)) (lv := [(0, .ref (h0 + a0)), (1, .int i1), (2, .int i2)]) (by decide) rfl (Nat.le_of_ble_eq_true rfl) rfl ?_
  intro p e s m args below meth c X hnm
  obtain ⟨hx, hb, hml, hown, htT, hrt, hlk, x00, hIn⟩ := id X
  have hK := hIn.2.1
  have hT := hIn.2.2.1
  have hNe := hIn.2.2.2
  have hR : zg_R { frames := 0, cells := zh_N s0 - zh_N s0, slots := zh_M s0 - zh_M s0, locals := 0 } (zh_N s0) (zh_M s0) s0 := ⟨by show zh_N s0 ≤ zh_N s0 + (zh_N s0 - zh_N s0); omega, by show zh_M s0 ≤ zh_M s0 + (zh_M s0 - zh_M s0); omega⟩
  have hF : 0 ≤ ({ frames := 0, cells := zh_N s0 - zh_N s0, slots := zh_M s0 - zh_M s0, locals := 0 } : Room).frames ∧ 0 ≤ ({ frames := 0, cells := zh_N s0 - zh_N s0, slots := zh_M s0 - zh_M s0, locals := 0 } : Room).locals := ⟨Nat.le_refl _, Nat.le_refl _⟩
  have hret := fun (hz : r = 0 ∨ r = 1) (pc : Nat) (lv : List (Nat × Value)) (hd : decode ze_M_next pc = .ok (.ireturn, 1)) => zg_iret (R := { frames := 0, cells := zh_N s0 - zh_N s0, slots := zh_M s0 - zh_M s0, locals := 0 }) (l := l) (e := e) (below := below) (c0 := zh_N s0) (s0 := zh_M s0) (z := s0) (lv := lv) (v := r) X (zx_nz hz) hd
  refine zg_1 (pc' := 1) (fun _ _ _ _ _ hl w => lv_aload_n hx hb zd_M_next_0 rfl (lv_at hl 0 rfl) w) ?_
  obtain ⟨h_1, hf⟩ := zx_ck hf
  refine zg_get (pc' := 4) (ci := 8) hx hb htT zi_M hown hK h_1 rfl rfl 10 (by decide) (htT _ zt_815) (fun _ h9 => h9) rfl zd_M_next_1 rfl ?_
  refine zg_2 (pc1 := 32) (pc2 := 7) (Classical.em _).symm (fun _ _ _ _ _ w1 w2 => lv_if_ne hx hb zd_M_next_4 (by decide) w1 w2) (fun hc => ?_) (fun hc => ?_)
  · rw [if_neg hc] at hf
    refine zg_1 (pc' := 33) (fun _ _ _ _ _ hl w => lv_iconst (v := (0 : Int32)) hx hb zd_M_next_32 (by decide) w) ?_
    obtain rfl := zx_r1 hf
    exact hret (Or.inl rfl) _ _ zd_M_next_33
  · rw [if_pos hc] at hf
    refine zg_1 (pc' := 8) (fun _ _ _ _ _ hl w => lv_aload_n hx hb zd_M_next_7 rfl (lv_at hl 0 rfl) w) ?_
    refine zg_get (pc' := 11) (ci := 8) hx hb htT zi_M hown hK h_1 rfl rfl 9 (by decide) (htT _ zt_814) (fun _ h9 => h9) rfl zd_M_next_8 rfl ?_
    refine zg_1 (pc' := 12) (fun _ _ _ _ _ hl w => lv_iload_n hx hb zd_M_next_11 rfl (lv_at hl 2 rfl) w) ?_
    refine zg_2 (pc1 := 32) (pc2 := 15) (Classical.em _) (fun _ _ _ _ _ w1 w2 => lv_icmp_ge hx hb zd_M_next_12 (by decide) w1 w2) (fun hc => ?_) (fun hc => ?_)
    · rw [if_pos hc] at hf
      refine zg_1 (pc' := 33) (fun _ _ _ _ _ hl w => lv_iconst (v := (0 : Int32)) hx hb zd_M_next_32 (by decide) w) ?_
      obtain rfl := zx_r1 hf
      exact hret (Or.inl rfl) _ _ zd_M_next_33
    · rw [if_neg hc] at hf
      refine zg_1 (pc' := 16) (fun _ _ _ _ _ hl w => lv_aload_n hx hb zd_M_next_15 rfl (lv_at hl 0 rfl) w) ?_
      obtain ⟨a_2, h_3, hf⟩ := zx_p hf
      refine zg_get (pc' := 19) (ci := 8) hx hb htT zi_M hown hK h_1 rfl rfl 0 (by decide) (htT _ zt_805) (fun _ h9 => h9) (zx_hv h_3) zd_M_next_16 rfl ?_
      refine zg_1 (pc' := 20) (fun _ _ _ _ _ hl w => lv_aload_n hx hb zd_M_next_19 rfl (lv_at hl 0 rfl) w) ?_
      refine zg_get (pc' := 23) (ci := 8) hx hb htT zi_M hown hK h_1 rfl rfl 9 (by decide) (htT _ zt_814) (fun _ h9 => h9) rfl zd_M_next_20 rfl ?_
      obtain ⟨h_4, hf⟩ := zx_ck hf
      refine zg_iald (pc' := 24) hx hb hK h_4 zd_M_next_23 rfl ?_
      refine zg_1 (pc' := 25) (fun _ _ _ _ _ hl w => lv_iload_n hx hb zd_M_next_24 rfl (lv_at hl 1 rfl) w) ?_
      refine zg_2 (pc1 := 32) (pc2 := 28) (Classical.em _).symm (fun _ _ _ _ _ w1 w2 => lv_icmp_ne hx hb zd_M_next_25 (by decide) w1 w2) (fun hc => ?_) (fun hc => ?_)
      · rw [if_neg hc] at hf
        refine zg_1 (pc' := 33) (fun _ _ _ _ _ hl w => lv_iconst (v := (0 : Int32)) hx hb zd_M_next_32 (by decide) w) ?_
        obtain rfl := zx_r1 hf
        exact hret (Or.inl rfl) _ _ zd_M_next_33
      · rw [if_pos hc] at hf
        refine zg_1 (pc' := 29) (fun _ _ _ _ _ hl w => lv_iconst (v := (1 : Int32)) hx hb zd_M_next_28 (by decide) w) ?_
        refine zg_1 (pc' := 33) (fun _ _ _ _ _ hl w => lv_goto hx hb zd_M_next_29 (by decide) w) ?_
        obtain rfl := zx_r1 hf
        exact hret (Or.inr rfl) _ _ zd_M_next_33
set_option maxHeartbeats 4000000 in
theorem zw_M_readList_183 {p : Program} {l : Launch} {e : Env} {R : Room} {s : State} {m : MethodId} {args : Array Value} {below : List Frame} {meth : Method} {c : Code} {Q : State → Prop} {h0 : Nat} {D : va_G} {dA : Nat → ClassId} {tb : Nat → Nat} {c0 k0 : Nat} {z : zh_S} (X : zg_X p s m args meth c ze_M_readList 6 zr_M none h0 D dA tb) (hR : zg_R R c0 k0 z) (hF : 3 ≤ R.frames ∧ 78 ≤ R.locals) (hret : ∀ (pc : Nat) (lv : List (Nat × Value)), decode ze_M_readList pc = .ok (.return_, 1) → zg_G p l e R s m args below meth c Q h0 D dA 6 c0 k0 z z pc lv []) (n : Nat) : ∀ (s0 : zh_S) (a0 : Nat) (i1 : Int32), zb_M_readList_183 n s0 a0 i1 = some z → zg_G p l e R s m args below meth c Q h0 D dA 6 c0 k0 z s0 183 [(0, .ref (h0 + a0)), (1, .int i1)] [] := by
  obtain ⟨hx, hb, hml, hown, htT, hrt, hlk, x00, hIn⟩ := id X
  have hK := hIn.2.1
  have hT := hIn.2.2.1
  have hNe := hIn.2.2.2
  intro s0 a0 i1 hf
  rw [zb_M_readList_183] at hf
  refine zg_1 (pc' := 184) (fun _ _ _ _ _ hl w => lv_aload_n hx hb zd_M_readList_183 rfl (lv_at hl 0 rfl) w) ?_
  obtain ⟨h_1, hf⟩ := zx_ck hf
  obtain ⟨a_2, h_3, hf⟩ := zx_p hf
  refine zg_get (pc' := 187) (ci := 8) hx hb htT zi_M hown hK h_1 rfl rfl 11 (by decide) (htT _ zt_816) (fun _ h9 => h9) (zx_hv h_3) zd_M_readList_184 rfl ?_
  refine zg_1 (pc' := 189) (fun _ _ _ _ _ hl w => lv_bipush (v := (7 : Int32)) hx hb zd_M_readList_187 (by decide) w) ?_
  refine zg_1 (pc' := 190) (fun _ _ _ _ _ hl w => lv_aload_n hx hb zd_M_readList_189 rfl (lv_at hl 0 rfl) w) ?_
  refine zg_1 (pc' := 191) (fun _ _ _ _ _ hl w => lv_iload_n hx hb zd_M_readList_190 rfl (lv_at hl 1 rfl) w) ?_
  obtain ⟨j_5, s_4, hq, hf⟩ := zx_b hf
  refine zg_call (pc' := 194) (y := s_4) (rv := (some (.long j_5))) (rest := [.int (7 : Int32), .ref (h0 + a_2)]) X hR (zm_M_number hq) (fun H locs ls k j hsz hI hU hk => va_runV (As := [.int i1]) (rest := [.int (7 : Int32), .ref (h0 + a_2)]) ⟨hx, hb, hml, hown, htT⟩ (zc_M_number l h0 D dA tb n hq) (cwV 1 htT (zw_gV zt_1015 zt_1017 zt_42 zt_71 zt_1018) rfl rfl rfl (by decide +kernel) ⟨Nat.le_trans (Nat.le_of_ble_eq_true rfl) hF.1, Nat.le_trans (Nat.le_of_ble_eq_true rfl) hF.2⟩) ⟨(zg_pre hU).1, zg_recv hK hI h_1 rfl, (zg_pre hU).2⟩ rfl rfl hsz rfl (lv_room (Nat.le_of_ble_eq_true rfl)) zd_M_readList_191 hk) rfl ?_
  obtain ⟨h_7, hf⟩ := zx_ck hf
  obtain ⟨s_6, e_s_6, hf⟩ := zx_l hf
  refine zg_last (pc' := 195) hx hb hK h_7 e_s_6 zd_M_readList_194 rfl ?_
  refine zg_1 (pc' := 196) (fun _ _ _ _ _ hl w => lv_aload_n hx hb zd_M_readList_195 rfl (lv_at hl 0 rfl) w) ?_
  refine zg_1 (pc' := 197) (fun _ _ _ _ _ hl w => lv_iload_n hx hb zd_M_readList_196 rfl (lv_at hl 1 rfl) w) ?_
  obtain ⟨h_9, hf⟩ := zx_ck hf
  obtain ⟨s_8, hq, hf⟩ := zx_p hf
  refine zg_call (pc' := 200) (y := s_8) (rv := none) (rest := []) X hR (zm_M_done hq) (fun H locs ls k j hsz hI hU hk => va_runV (As := [.int i1]) (rest := []) ⟨hx, hb, hml, hown, htT⟩ (zc_M_done l h0 D dA tb n hq) (cwV 1 htT (zw_gV zt_1041 zt_1043 zt_48 zt_71 zt_1044) rfl rfl rfl (by decide +kernel) ⟨Nat.le_trans (Nat.le_of_ble_eq_true rfl) hF.1, Nat.le_trans (Nat.le_of_ble_eq_true rfl) hF.2⟩) ⟨(zg_pre hU).1, zg_recv hK hI h_9 rfl, (zg_pre hU).2⟩ rfl rfl hsz rfl (lv_room (Nat.le_of_ble_eq_true rfl)) zd_M_readList_197 hk) rfl ?_
  refine zg_1 (pc' := 201) (fun _ _ _ _ _ hl w => lv_aload_n hx hb zd_M_readList_200 rfl (lv_at hl 0 rfl) w) ?_
  refine zg_1 (pc' := 202) (fun _ _ _ _ _ hl w => lv_aload_n hx hb zd_M_readList_201 rfl (lv_at hl 0 rfl) w) ?_
  obtain ⟨h_10, hf⟩ := zx_ck hf
  refine zg_get (pc' := 205) (ci := 8) hx hb htT zi_M hown hK h_10 rfl rfl 1 (by decide) (htT _ zt_806) (fun _ h9 => h9) rfl zd_M_readList_202 rfl ?_
  obtain ⟨s_11, hq, hf⟩ := zx_p hf
  refine zg_call (pc' := 208) (y := s_11) (rv := none) (rest := []) X hR (zm_M_done hq) (fun H locs ls k j hsz hI hU hk => va_runV (As := [.int (zh_I s_8 a0 1)]) (rest := []) ⟨hx, hb, hml, hown, htT⟩ (zc_M_done l h0 D dA tb n hq) (cwV 1 htT (zw_gV zt_1041 zt_1043 zt_48 zt_71 zt_1044) rfl rfl rfl (by decide +kernel) ⟨Nat.le_trans (Nat.le_of_ble_eq_true rfl) hF.1, Nat.le_trans (Nat.le_of_ble_eq_true rfl) hF.2⟩) ⟨(zg_pre hU).1, zg_recv hK hI h_10 rfl, (zg_pre hU).2⟩ rfl rfl hsz rfl (lv_room (Nat.le_of_ble_eq_true rfl)) zd_M_readList_205 hk) rfl ?_
  obtain rfl := zx_r1 hf
  exact hret _ _ zd_M_readList_208
set_option maxHeartbeats 4000000 in
theorem zw_M_readList_151 {p : Program} {l : Launch} {e : Env} {R : Room} {s : State} {m : MethodId} {args : Array Value} {below : List Frame} {meth : Method} {c : Code} {Q : State → Prop} {h0 : Nat} {D : va_G} {dA : Nat → ClassId} {tb : Nat → Nat} {c0 k0 : Nat} {z : zh_S} (X : zg_X p s m args meth c ze_M_readList 6 zr_M none h0 D dA tb) (hR : zg_R R c0 k0 z) (hF : 3 ≤ R.frames ∧ 78 ≤ R.locals) (hret : ∀ (pc : Nat) (lv : List (Nat × Value)), decode ze_M_readList pc = .ok (.return_, 1) → zg_G p l e R s m args below meth c Q h0 D dA 6 c0 k0 z z pc lv []) (n : Nat) : ∀ (s0 : zh_S) (a0 : Nat) (i1 : Int32) (i2 : Int32) (i3 : Int32) (i4 : Int32), zb_M_readList_151 n s0 a0 i1 i2 i3 i4 = some z → zg_G p l e R s m args below meth c Q h0 D dA 6 c0 k0 z s0 151 [(0, .ref (h0 + a0)), (1, .int i1), (2, .int i2), (3, .int i3), (4, .int i4)] [] := by
  obtain ⟨hx, hb, hml, hown, htT, hrt, hlk, x00, hIn⟩ := id X
  have hK := hIn.2.1
  have hT := hIn.2.2.1
  have hNe := hIn.2.2.2
  intro s0 a0 i1 i2 i3 i4 hf
  rw [zb_M_readList_151] at hf
  refine zg_1 (pc' := 152) (fun _ _ _ _ _ hl w => lv_aload_n hx hb zd_M_readList_151 rfl (lv_at hl 0 rfl) w) ?_
  refine zg_1 (pc' := 154) (fun _ _ _ _ _ hl w => lv_iload hx hb zd_M_readList_152 (lv_at hl 4 rfl) w) ?_
  obtain ⟨h_2, hf⟩ := zx_ck hf
  obtain ⟨s_1, hq, hf⟩ := zx_p hf
  refine zg_call (pc' := 157) (y := s_1) (rv := none) (rest := []) X hR (zm_M_done hq) (fun H locs ls k j hsz hI hU hk => va_runV (As := [.int i4]) (rest := []) ⟨hx, hb, hml, hown, htT⟩ (zc_M_done l h0 D dA tb n hq) (cwV 1 htT (zw_gV zt_1041 zt_1043 zt_48 zt_71 zt_1044) rfl rfl rfl (by decide +kernel) ⟨Nat.le_trans (Nat.le_of_ble_eq_true rfl) hF.1, Nat.le_trans (Nat.le_of_ble_eq_true rfl) hF.2⟩) ⟨(zg_pre hU).1, zg_recv hK hI h_2 rfl, (zg_pre hU).2⟩ rfl rfl hsz rfl (lv_room (Nat.le_of_ble_eq_true rfl)) zd_M_readList_154 hk) rfl ?_
  refine zg_1 (pc' := 158) (fun _ _ _ _ _ hl w => lv_aload_n hx hb zd_M_readList_157 rfl (lv_at hl 0 rfl) w) ?_
  refine zg_1 (pc' := 159) (fun _ _ _ _ _ hl w => lv_iload_n hx hb zd_M_readList_158 rfl (lv_at hl 3 rfl) w) ?_
  obtain ⟨h_4, hf⟩ := zx_ck hf
  obtain ⟨s_3, hq, hf⟩ := zx_p hf
  refine zg_call (pc' := 162) (y := s_3) (rv := none) (rest := []) X hR (zm_M_done hq) (fun H locs ls k j hsz hI hU hk => va_runV (As := [.int i3]) (rest := []) ⟨hx, hb, hml, hown, htT⟩ (zc_M_done l h0 D dA tb n hq) (cwV 1 htT (zw_gV zt_1041 zt_1043 zt_48 zt_71 zt_1044) rfl rfl rfl (by decide +kernel) ⟨Nat.le_trans (Nat.le_of_ble_eq_true rfl) hF.1, Nat.le_trans (Nat.le_of_ble_eq_true rfl) hF.2⟩) ⟨(zg_pre hU).1, zg_recv hK hI h_4 rfl, (zg_pre hU).2⟩ rfl rfl hsz rfl (lv_room (Nat.le_of_ble_eq_true rfl)) zd_M_readList_159 hk) rfl ?_
  refine zg_1 (pc' := 163) (fun _ _ _ _ _ hl w => lv_aload_n hx hb zd_M_readList_162 rfl (lv_at hl 0 rfl) w) ?_
  obtain ⟨h_5, hf⟩ := zx_ck hf
  refine zg_get (pc' := 166) (ci := 8) hx hb htT zi_M hown hK h_5 rfl rfl 10 (by decide) (htT _ zt_815) (fun _ h9 => h9) rfl zd_M_readList_163 rfl ?_
  refine zg_2 (pc1 := 183) (pc2 := 169) (Classical.em _).symm (fun _ _ _ _ _ w1 w2 => lv_if_ne hx hb zd_M_readList_166 (by decide) w1 w2) (fun hc => ?_) (fun hc => ?_)
  · rw [if_neg hc] at hf
    refine zg_v [0, 1] rfl ?_
    exact zw_M_readList_183 X hR hF hret n s_3 a0 i1 hf
  · rw [if_pos hc] at hf
    refine zg_1 (pc' := 170) (fun _ _ _ _ _ hl w => lv_aload_n hx hb zd_M_readList_169 rfl (lv_at hl 0 rfl) w) ?_
    obtain ⟨a_6, h_7, hf⟩ := zx_p hf
    refine zg_get (pc' := 173) (ci := 8) hx hb htT zi_M hown hK h_5 rfl rfl 11 (by decide) (htT _ zt_816) (fun _ h9 => h9) (zx_hv h_7) zd_M_readList_170 rfl ?_
    refine zg_1 (pc' := 175) (fun _ _ _ _ _ hl w => lv_bipush (v := (8 : Int32)) hx hb zd_M_readList_173 (by decide) w) ?_
    refine zg_1 (pc' := 176) (fun _ _ _ _ _ hl w => lv_aload_n hx hb zd_M_readList_175 rfl (lv_at hl 0 rfl) w) ?_
    refine zg_1 (pc' := 177) (fun _ _ _ _ _ hl w => lv_iload_n hx hb zd_M_readList_176 rfl (lv_at hl 2 rfl) w) ?_
    refine zg_1 (pc' := 178) (fun _ _ _ _ _ hl w => lv_iload_n hx hb zd_M_readList_177 rfl (lv_at hl 3 rfl) w) ?_
    obtain ⟨i_8, hq, hf⟩ := zx_p hf
    refine zg_call (pc' := 181) (y := s_3) (rv := (some (.int i_8))) (rest := [.int (8 : Int32), .ref (h0 + a_6)]) X hR ⟨Nat.le_refl _, Nat.le_refl _⟩ (fun H locs ls k j hsz hI hU hk => va_runV (As := [.int i2, .int i3]) (rest := [.int (8 : Int32), .ref (h0 + a_6)]) ⟨hx, hb, hml, hown, htT⟩ (zc_M_hash l h0 D dA tb n hq) (cwV 2 htT (zw_gV zt_988 zt_990 zt_38 zt_71 zt_991) rfl rfl rfl (by decide +kernel) ⟨Nat.le_trans (Nat.le_of_ble_eq_true rfl) hF.1, Nat.le_trans (Nat.le_of_ble_eq_true rfl) hF.2⟩) ⟨(zg_pre hU).1, zg_recv hK hI h_5 rfl, (zg_pre hU).2⟩ rfl rfl hsz rfl (lv_room (Nat.le_of_ble_eq_true rfl)) zd_M_readList_178 hk) rfl ?_
    refine zg_1 (pc' := 182) (fun _ _ _ _ _ hl w => lv_i2l (v := i_8.toInt64) hx hb zd_M_readList_181 rfl w) ?_
    obtain ⟨h_10, hf⟩ := zx_ck hf
    obtain ⟨s_9, e_s_9, hf⟩ := zx_l hf
    refine zg_last (pc' := 183) hx hb hK h_10 e_s_9 zd_M_readList_182 rfl ?_
    refine zg_v [0, 1] rfl ?_
    exact zw_M_readList_183 X hR hF hret n s_9 a0 i1 hf
set_option maxHeartbeats 4000000 in
theorem zw_M_readList_73 {p : Program} {l : Launch} {e : Env} {R : Room} {s : State} {m : MethodId} {args : Array Value} {below : List Frame} {meth : Method} {c : Code} {Q : State → Prop} {h0 : Nat} {D : va_G} {dA : Nat → ClassId} {tb : Nat → Nat} {c0 k0 : Nat} {z : zh_S} (X : zg_X p s m args meth c ze_M_readList 6 zr_M none h0 D dA tb) (hR : zg_R R c0 k0 z) (hF : 3 ≤ R.frames ∧ 78 ≤ R.locals) (hret : ∀ (pc : Nat) (lv : List (Nat × Value)), decode ze_M_readList pc = .ok (.return_, 1) → zg_G p l e R s m args below meth c Q h0 D dA 6 c0 k0 z z pc lv []) (n : Nat) (k : Nat) : ∀ (s0 : zh_S) (a0 : Nat) (i1 : Int32) (i2 : Int32) (i3 : Int32) (i4 : Int32), zl_M_readList_73 n k s0 a0 i1 i2 i3 i4 = some z → zg_G p l e R s m args below meth c Q h0 D dA 6 c0 k0 z s0 73 [(0, .ref (h0 + a0)), (1, .int i1), (2, .int i2), (3, .int i3), (4, .int i4)] [] := by
  obtain ⟨hx, hb, hml, hown, htT, hrt, hlk, x00, hIn⟩ := id X
  have hK := hIn.2.1
  have hT := hIn.2.2.1
  have hNe := hIn.2.2.2
  induction k with
  | zero => intro s0 a0 i1 i2 i3 i4 hf; cases hf
  | succ k ih =>
    intro s0 a0 i1 i2 i3 i4 hf
    rw [zl_M_readList_73] at hf
    refine zg_1 (pc' := 74) (fun _ _ _ _ _ hl w => lv_aload_n hx hb zd_M_readList_73 rfl (lv_at hl 0 rfl) w) ?_
    obtain ⟨h_1, hf⟩ := zx_ck hf
    refine zg_get (pc' := 77) (ci := 8) hx hb htT zi_M hown hK h_1 rfl rfl 12 (by decide) (htT _ zt_817) (fun _ h9 => h9) rfl zd_M_readList_74 rfl ?_
    refine zg_1 (pc' := 78) (fun _ _ _ _ _ hl w => lv_iconst (v := (4 : Int32)) hx hb zd_M_readList_77 (by decide) w) ?_
    refine zg_2 (pc1 := 151) (pc2 := 81) (Classical.em _) (fun _ _ _ _ _ w1 w2 => lv_icmp_ge hx hb zd_M_readList_78 (by decide) w1 w2) (fun hc => ?_) (fun hc => ?_)
    · rw [if_pos hc] at hf
      exact zw_M_readList_151 X hR hF hret n s0 a0 i1 i2 i3 i4 hf
    · rw [if_neg hc] at hf
      refine zg_1 (pc' := 82) (fun _ _ _ _ _ hl w => lv_aload_n hx hb zd_M_readList_81 rfl (lv_at hl 0 rfl) w) ?_
      refine zg_1 (pc' := 84) (fun _ _ _ _ _ hl w => lv_bipush (v := (48 : Int32)) hx hb zd_M_readList_82 (by decide) w) ?_
      refine zg_1 (pc' := 86) (fun _ _ _ _ _ hl w => lv_iload hx hb zd_M_readList_84 (lv_at hl 4 rfl) w) ?_
      obtain ⟨i_2, hq, hf⟩ := zx_p hf
      refine zg_call (pc' := 89) (y := s0) (rv := (some (.int i_2))) (rest := []) X hR ⟨Nat.le_refl _, Nat.le_refl _⟩ (fun H locs ls k j hsz hI hU hk => va_runV (As := [.int (48 : Int32), .int i4]) (rest := []) ⟨hx, hb, hml, hown, htT⟩ (zc_M_next l h0 D dA tb n hq) (cwV 2 htT (zw_gV zt_1024 zt_1026 zt_44 zt_71 zt_1027) rfl rfl rfl (by decide +kernel) ⟨Nat.le_trans (Nat.le_of_ble_eq_true rfl) hF.1, Nat.le_trans (Nat.le_of_ble_eq_true rfl) hF.2⟩) ⟨(zg_pre hU).1, zg_recv hK hI h_1 rfl, (zg_pre hU).2⟩ rfl rfl hsz rfl (lv_room (Nat.le_of_ble_eq_true rfl)) zd_M_readList_86 hk) rfl ?_
      refine zg_2 (pc1 := 151) (pc2 := 92) (Classical.em _) (fun _ _ _ _ _ w1 w2 => lv_if_eq hx hb zd_M_readList_89 (by decide) w1 w2) (fun hc => ?_) (fun hc => ?_)
      · rw [if_pos hc] at hf
        exact zw_M_readList_151 X hR hF hret n s0 a0 i1 i2 i3 i4 hf
      · rw [if_neg hc] at hf
        refine zg_1 (pc' := 93) (fun _ _ _ _ _ hl w => lv_aload_n hx hb zd_M_readList_92 rfl (lv_at hl 0 rfl) w) ?_
        refine zg_1 (pc' := 95) (fun _ _ _ _ _ hl w => lv_bipush (v := (48 : Int32)) hx hb zd_M_readList_93 (by decide) w) ?_
        refine zg_1 (pc' := 97) (fun _ _ _ _ _ hl w => lv_iload hx hb zd_M_readList_95 (lv_at hl 4 rfl) w) ?_
        obtain ⟨i_4, s_3, hq, hf⟩ := zx_b hf
        refine zg_call (pc' := 100) (y := s_3) (rv := (some (.int i_4))) (rest := []) X hR (zm_M_head hq) (fun H locs ls k j hsz hI hU hk => va_runV (As := [.int (48 : Int32), .int i4]) (rest := []) ⟨hx, hb, hml, hown, htT⟩ (zc_M_head l h0 D dA tb n hq) (cwV 2 htT (zw_gV zt_1007 zt_1009 zt_40 zt_71 zt_1010) rfl rfl rfl (by decide +kernel) ⟨Nat.le_trans (Nat.le_of_ble_eq_true rfl) hF.1, Nat.le_trans (Nat.le_of_ble_eq_true rfl) hF.2⟩) ⟨(zg_pre hU).1, zg_recv hK hI h_1 rfl, (zg_pre hU).2⟩ rfl rfl hsz rfl (lv_room (Nat.le_of_ble_eq_true rfl)) zd_M_readList_97 hk) rfl ?_
        refine zg_s (pc' := 102) (lv' := [(5, .int i_4), (0, .ref (h0 + a0)), (1, .int i1), (2, .int i2), (3, .int i3), (4, .int i4)]) (fun _ _ _ _ _ hl w => lv_istore hx hb zd_M_readList_100 hl (by decide) rfl w) ?_
        refine zg_1 (pc' := 103) (fun _ _ _ _ _ hl w => lv_aload_n hx hb zd_M_readList_102 rfl (lv_at hl 1 rfl) w) ?_
        obtain ⟨h_5, hf⟩ := zx_ck hf
        obtain ⟨a_6, h_7, hf⟩ := zx_p hf
        refine zg_get (pc' := 106) (ci := 8) hx hb htT zi_M hown hK h_5 rfl rfl 13 (by decide) (htT _ zt_818) (fun _ h9 => h9) (zx_hv h_7) zd_M_readList_103 rfl ?_
        refine zg_1 (pc' := 107) (fun _ _ _ _ _ hl w => lv_aload_n hx hb zd_M_readList_106 rfl (lv_at hl 1 rfl) w) ?_
        refine zg_get (pc' := 110) (ci := 8) hx hb htT zi_M hown hK h_5 rfl rfl 12 (by decide) (htT _ zt_817) (fun _ h9 => h9) rfl zd_M_readList_107 rfl ?_
        refine zg_1 (pc' := 111) (fun _ _ _ _ _ hl w => lv_aload_n hx hb zd_M_readList_110 rfl (lv_at hl 1 rfl) w) ?_
        refine zg_1 (pc' := 113) (fun _ _ _ _ _ hl w => lv_iload hx hb zd_M_readList_111 (lv_at hl 0 rfl) w) ?_
        obtain ⟨j_9, s_8, hq, hf⟩ := zx_b hf
        refine zg_call (pc' := 116) (y := s_8) (rv := (some (.long j_9))) (rest := [.int (zh_I s_3 a0 12), .ref (h0 + a_6)]) X hR (zm_M_number hq) (fun H locs ls k j hsz hI hU hk => va_runV (As := [.int i_4]) (rest := [.int (zh_I s_3 a0 12), .ref (h0 + a_6)]) ⟨hx, hb, hml, hown, htT⟩ (zc_M_number l h0 D dA tb n hq) (cwV 1 htT (zw_gV zt_1015 zt_1017 zt_42 zt_71 zt_1018) rfl rfl rfl (by decide +kernel) ⟨Nat.le_trans (Nat.le_of_ble_eq_true rfl) hF.1, Nat.le_trans (Nat.le_of_ble_eq_true rfl) hF.2⟩) ⟨(zg_pre hU).1, zg_recv hK hI h_5 rfl, (zg_pre hU).2⟩ rfl rfl hsz rfl (lv_room (Nat.le_of_ble_eq_true rfl)) zd_M_readList_113 hk) rfl ?_
        obtain ⟨h_11, hf⟩ := zx_ck hf
        obtain ⟨s_10, e_s_10, hf⟩ := zx_l hf
        refine zg_last (pc' := 117) hx hb hK h_11 e_s_10 zd_M_readList_116 rfl ?_
        refine zg_1 (pc' := 118) (fun _ _ _ _ _ hl w => lv_aload_n hx hb zd_M_readList_117 rfl (lv_at hl 1 rfl) w) ?_
        obtain ⟨h_12, hf⟩ := zx_ck hf
        obtain ⟨a_13, h_14, hf⟩ := zx_p hf
        refine zg_get (pc' := 121) (ci := 8) hx hb htT zi_M hown hK h_12 rfl rfl 14 (by decide) (htT _ zt_819) (fun _ h9 => h9) (zx_hv h_14) zd_M_readList_118 rfl ?_
        refine zg_1 (pc' := 122) (fun _ _ _ _ _ hl w => lv_aload_n hx hb zd_M_readList_121 rfl (lv_at hl 1 rfl) w) ?_
        refine zg_get (pc' := 125) (ci := 8) hx hb htT zi_M hown hK h_12 rfl rfl 12 (by decide) (htT _ zt_817) (fun _ h9 => h9) rfl zd_M_readList_122 rfl ?_
        refine zg_1 (pc' := 126) (fun _ _ _ _ _ hl w => lv_aload_n hx hb zd_M_readList_125 rfl (lv_at hl 1 rfl) w) ?_
        refine zg_1 (pc' := 128) (fun _ _ _ _ _ hl w => lv_iload hx hb zd_M_readList_126 (lv_at hl 0 rfl) w) ?_
        obtain ⟨j_16, s_15, hq, hf⟩ := zx_b hf
        refine zg_call (pc' := 131) (y := s_15) (rv := (some (.long j_16))) (rest := [.int (zh_I s_10 a0 12), .ref (h0 + a_13)]) X hR (zm_M_number hq) (fun H locs ls k j hsz hI hU hk => va_runV (As := [.int i_4]) (rest := [.int (zh_I s_10 a0 12), .ref (h0 + a_13)]) ⟨hx, hb, hml, hown, htT⟩ (zc_M_number l h0 D dA tb n hq) (cwV 1 htT (zw_gV zt_1015 zt_1017 zt_42 zt_71 zt_1018) rfl rfl rfl (by decide +kernel) ⟨Nat.le_trans (Nat.le_of_ble_eq_true rfl) hF.1, Nat.le_trans (Nat.le_of_ble_eq_true rfl) hF.2⟩) ⟨(zg_pre hU).1, zg_recv hK hI h_12 rfl, (zg_pre hU).2⟩ rfl rfl hsz rfl (lv_room (Nat.le_of_ble_eq_true rfl)) zd_M_readList_128 hk) rfl ?_
        obtain ⟨h_18, hf⟩ := zx_ck hf
        obtain ⟨s_17, e_s_17, hf⟩ := zx_l hf
        refine zg_last (pc' := 132) hx hb hK h_18 e_s_17 zd_M_readList_131 rfl ?_
        refine zg_1 (pc' := 133) (fun _ _ _ _ _ hl w => lv_aload_n hx hb zd_M_readList_132 rfl (lv_at hl 1 rfl) w) ?_
        refine zg_1 (pc' := 135) (fun _ _ _ _ _ hl w => lv_iload hx hb zd_M_readList_133 (lv_at hl 0 rfl) w) ?_
        obtain ⟨h_20, hf⟩ := zx_ck hf
        obtain ⟨s_19, hq, hf⟩ := zx_p hf
        refine zg_call (pc' := 138) (y := s_19) (rv := none) (rest := []) X hR (zm_M_done hq) (fun H locs ls k j hsz hI hU hk => va_runV (As := [.int i_4]) (rest := []) ⟨hx, hb, hml, hown, htT⟩ (zc_M_done l h0 D dA tb n hq) (cwV 1 htT (zw_gV zt_1041 zt_1043 zt_48 zt_71 zt_1044) rfl rfl rfl (by decide +kernel) ⟨Nat.le_trans (Nat.le_of_ble_eq_true rfl) hF.1, Nat.le_trans (Nat.le_of_ble_eq_true rfl) hF.2⟩) ⟨(zg_pre hU).1, zg_recv hK hI h_20 rfl, (zg_pre hU).2⟩ rfl rfl hsz rfl (lv_room (Nat.le_of_ble_eq_true rfl)) zd_M_readList_135 hk) rfl ?_
        refine zg_1 (pc' := 139) (fun _ _ _ _ _ hl w => lv_aload_n hx hb zd_M_readList_138 rfl (lv_at hl 1 rfl) w) ?_
        refine zg_1 (pc' := 140) (fun _ _ _ _ _ hl w => lv_dup hx hb zd_M_readList_139 rfl w) ?_
        obtain ⟨h_21, hf⟩ := zx_ck hf
        refine zg_get (pc' := 143) (ci := 8) hx hb htT zi_M hown hK h_21 rfl rfl 12 (by decide) (htT _ zt_817) (fun _ h9 => h9) rfl zd_M_readList_140 rfl ?_
        refine zg_1 (pc' := 144) (fun _ _ _ _ _ hl w => lv_iconst (v := (1 : Int32)) hx hb zd_M_readList_143 (by decide) w) ?_
        refine zg_1 (pc' := 145) (fun _ _ _ _ _ hl w => lv_iadd hx hb zd_M_readList_144 w) ?_
        obtain ⟨s_22, e_s_22, hf⟩ := zx_l hf
        refine zg_putI (pc' := 148) (ci := 8) (ty := .int) hx hb htT zi_M zy_M zo_M zj_M hown hK h_21 rfl rfl 12 (by decide) (htT _ zt_817) (fun _ h9 => h9) (Or.inl rfl) (by decide +kernel) rfl rfl rfl e_s_22 zd_M_readList_145 rfl ?_
        refine zg_1 (pc' := 73) (fun _ _ _ _ _ hl w => lv_goto hx hb zd_M_readList_148 (by decide) w) ?_
        refine zg_v [1, 2, 3, 4, 5] rfl ?_
        exact ih s_22 a0 i1 i2 i3 i4 hf
set_option maxHeartbeats 4000000 in
theorem zc_M_readList (l : Launch) (h0 : Nat) (D : va_G) (dA : Nat → ClassId) (tb : Nat → Nat) (n : Nat) {s0 : zh_S} {a0 : Nat} {z : zh_S} (hf : zf_M_readList n s0 a0 = some z) : zc_M l zn_M_readList zs_M_readList 3 78 h0 D dA tb [.ref (h0 + a0)] s0 none z := by
  rw [zf_M_readList] at hf
  refine zc_of (cc := ze_M_readList) (maxL := 6) (ret := none) (lv := [(0, .ref (h0 + a0))]) (by decide) rfl (Nat.le_of_ble_eq_true rfl) rfl ?_
  intro p e s m args below meth c X hnm
  obtain ⟨hx, hb, hml, hown, htT, hrt, hlk, x00, hIn⟩ := id X
  have hK := hIn.2.1
  have hT := hIn.2.2.1
  have hNe := hIn.2.2.2
  have hR : zg_R { frames := 3, cells := zh_N z - zh_N s0, slots := zh_M z - zh_M s0, locals := 78 } (zh_N s0) (zh_M s0) z := ⟨by show zh_N z ≤ zh_N s0 + (zh_N z - zh_N s0); omega, by show zh_M z ≤ zh_M s0 + (zh_M z - zh_M s0); omega⟩
  have hF : 3 ≤ ({ frames := 3, cells := zh_N z - zh_N s0, slots := zh_M z - zh_M s0, locals := 78 } : Room).frames ∧ 78 ≤ ({ frames := 3, cells := zh_N z - zh_N s0, slots := zh_M z - zh_M s0, locals := 78 } : Room).locals := ⟨Nat.le_refl _, Nat.le_refl _⟩
  have hret := fun (pc : Nat) (lv : List (Nat × Value)) (hd : decode ze_M_readList pc = .ok (.return_, 1)) => zg_vret (R := { frames := 3, cells := zh_N z - zh_N s0, slots := zh_M z - zh_M s0, locals := 78 }) (l := l) (e := e) (below := below) (c0 := zh_N s0) (s0 := zh_M s0) (z := z) (lv := lv) X hd
  refine zg_1 (pc' := 1) (fun _ _ _ _ _ hl w => lv_aload_n hx hb zd_M_readList_0 rfl (lv_at hl 0 rfl) w) ?_
  refine zg_1 (pc' := 2) (fun _ _ _ _ _ hl w => lv_iconst (v := (0 : Int32)) hx hb zd_M_readList_1 (by decide) w) ?_
  obtain ⟨h_2, hf⟩ := zx_ck hf
  obtain ⟨s_1, e_s_1, hf⟩ := zx_l hf
  refine zg_putI (pc' := 5) (ci := 8) (ty := .int) hx hb htT zi_M zy_M zo_M zj_M hown hK h_2 rfl rfl 12 (by decide) (htT _ zt_817) (fun _ h9 => h9) (Or.inl rfl) (by decide +kernel) rfl rfl rfl e_s_1 zd_M_readList_2 rfl ?_
  refine zg_1 (pc' := 6) (fun _ _ _ _ _ hl w => lv_aload_n hx hb zd_M_readList_5 rfl (lv_at hl 0 rfl) w) ?_
  refine zg_1 (pc' := 8) (fun _ _ _ _ _ hl w => lv_bipush (v := (48 : Int32)) hx hb zd_M_readList_6 (by decide) w) ?_
  refine zg_1 (pc' := 9) (fun _ _ _ _ _ hl w => lv_aload_n hx hb zd_M_readList_8 rfl (lv_at hl 0 rfl) w) ?_
  refine zg_get (pc' := 12) (ci := 8) hx hb htT zi_M hown hK (zx_oI e_s_1 h_2) rfl rfl 1 (by decide) (htT _ zt_806) (fun _ h9 => h9) rfl zd_M_readList_9 rfl ?_
  obtain ⟨i_4, s_3, hq, hf⟩ := zx_b hf
  refine zg_call (pc' := 15) (y := s_3) (rv := (some (.int i_4))) (rest := []) X hR (zm_M_head hq) (fun H locs ls k j hsz hI hU hk => va_runV (As := [.int (48 : Int32), .int (zh_I s_1 a0 1)]) (rest := []) ⟨hx, hb, hml, hown, htT⟩ (zc_M_head l h0 D dA tb n hq) (cwV 2 htT (zw_gV zt_1007 zt_1009 zt_40 zt_71 zt_1010) rfl rfl rfl (by decide +kernel) ⟨Nat.le_trans (Nat.le_of_ble_eq_true rfl) hF.1, Nat.le_trans (Nat.le_of_ble_eq_true rfl) hF.2⟩) ⟨(zg_pre hU).1, zg_recv hK hI (zx_oI e_s_1 h_2) rfl, (zg_pre hU).2⟩ rfl rfl hsz rfl (lv_room (Nat.le_of_ble_eq_true rfl)) zd_M_readList_12 hk) rfl ?_
  refine zg_s (pc' := 16) (lv' := [(1, .int i_4), (0, .ref (h0 + a0))]) (fun _ _ _ _ _ hl w => lv_istore_n hx hb zd_M_readList_15 rfl hl (by decide) rfl w) ?_
  refine zg_1 (pc' := 17) (fun _ _ _ _ _ hl w => lv_aload_n hx hb zd_M_readList_16 rfl (lv_at hl 1 rfl) w) ?_
  obtain ⟨h_5, hf⟩ := zx_ck hf
  refine zg_get (pc' := 20) (ci := 8) hx hb htT zi_M hown hK h_5 rfl rfl 9 (by decide) (htT _ zt_814) (fun _ h9 => h9) rfl zd_M_readList_17 rfl ?_
  obtain ⟨i_6, e_i_6, hf⟩ := zx_l hf
  refine zg_ti e_i_6 ?_
  refine zg_s (pc' := 21) (lv' := [(2, .int i_6), (1, .int i_4), (0, .ref (h0 + a0))]) (fun _ _ _ _ _ hl w => lv_istore_n hx hb zd_M_readList_20 rfl hl (by decide) rfl w) ?_
  refine zg_1 (pc' := 22) (fun _ _ _ _ _ hl w => lv_aload_n hx hb zd_M_readList_21 rfl (lv_at hl 2 rfl) w) ?_
  refine zg_1 (pc' := 24) (fun _ _ _ _ _ hl w => lv_bipush (v := (48 : Int32)) hx hb zd_M_readList_22 (by decide) w) ?_
  refine zg_1 (pc' := 25) (fun _ _ _ _ _ hl w => lv_iload_n hx hb zd_M_readList_24 rfl (lv_at hl 1 rfl) w) ?_
  obtain ⟨i_8, s_7, hq, hf⟩ := zx_b hf
  refine zg_call (pc' := 28) (y := s_7) (rv := (some (.int i_8))) (rest := []) X hR (zm_M_head hq) (fun H locs ls k j hsz hI hU hk => va_runV (As := [.int (48 : Int32), .int i_4]) (rest := []) ⟨hx, hb, hml, hown, htT⟩ (zc_M_head l h0 D dA tb n hq) (cwV 2 htT (zw_gV zt_1007 zt_1009 zt_40 zt_71 zt_1010) rfl rfl rfl (by decide +kernel) ⟨Nat.le_trans (Nat.le_of_ble_eq_true rfl) hF.1, Nat.le_trans (Nat.le_of_ble_eq_true rfl) hF.2⟩) ⟨(zg_pre hU).1, zg_recv hK hI h_5 rfl, (zg_pre hU).2⟩ rfl rfl hsz rfl (lv_room (Nat.le_of_ble_eq_true rfl)) zd_M_readList_25 hk) rfl ?_
  refine zg_s (pc' := 29) (lv' := [(3, .int i_8), (2, .int i_6), (1, .int i_4), (0, .ref (h0 + a0))]) (fun _ _ _ _ _ hl w => lv_istore_n hx hb zd_M_readList_28 rfl hl (by decide) rfl w) ?_
  refine zg_1 (pc' := 30) (fun _ _ _ _ _ hl w => lv_aload_n hx hb zd_M_readList_29 rfl (lv_at hl 3 rfl) w) ?_
  obtain ⟨h_9, hf⟩ := zx_ck hf
  obtain ⟨a_10, h_11, hf⟩ := zx_p hf
  refine zg_get (pc' := 33) (ci := 8) hx hb htT zi_M hown hK h_9 rfl rfl 11 (by decide) (htT _ zt_816) (fun _ h9 => h9) (zx_hv h_11) zd_M_readList_30 rfl ?_
  refine zg_1 (pc' := 34) (fun _ _ _ _ _ hl w => lv_iconst (v := (1 : Int32)) hx hb zd_M_readList_33 (by decide) w) ?_
  refine zg_1 (pc' := 35) (fun _ _ _ _ _ hl w => lv_aload_n hx hb zd_M_readList_34 rfl (lv_at hl 3 rfl) w) ?_
  refine zg_1 (pc' := 37) (fun _ _ _ _ _ hl w => lv_bipush (v := (19 : Int32)) hx hb zd_M_readList_35 (by decide) w) ?_
  refine zg_1 (pc' := 38) (fun _ _ _ _ _ hl w => lv_iload_n hx hb zd_M_readList_37 rfl (lv_at hl 0 rfl) w) ?_
  obtain ⟨j_13, s_12, hq, hf⟩ := zx_b hf
  refine zg_call (pc' := 41) (y := s_12) (rv := (some (.long j_13))) (rest := [.int (1 : Int32), .ref (h0 + a_10)]) X hR (zm_M_title hq) (fun H locs ls k j hsz hI hU hk => va_runV (As := [.int (19 : Int32), .int i_8]) (rest := [.int (1 : Int32), .ref (h0 + a_10)]) ⟨hx, hb, hml, hown, htT⟩ (zc_M_title l h0 D dA tb n hq) (cwV 2 htT (zw_gV zt_1020 zt_1022 zt_43 zt_71 zt_1023) rfl rfl rfl (by decide +kernel) ⟨Nat.le_trans (Nat.le_of_ble_eq_true rfl) hF.1, Nat.le_trans (Nat.le_of_ble_eq_true rfl) hF.2⟩) ⟨(zg_pre hU).1, zg_recv hK hI h_9 rfl, (zg_pre hU).2⟩ rfl rfl hsz rfl (lv_room (Nat.le_of_ble_eq_true rfl)) zd_M_readList_38 hk) rfl ?_
  obtain ⟨h_15, hf⟩ := zx_ck hf
  obtain ⟨s_14, e_s_14, hf⟩ := zx_l hf
  refine zg_last (pc' := 42) hx hb hK h_15 e_s_14 zd_M_readList_41 rfl ?_
  refine zg_1 (pc' := 43) (fun _ _ _ _ _ hl w => lv_aload_n hx hb zd_M_readList_42 rfl (lv_at hl 3 rfl) w) ?_
  obtain ⟨h_16, hf⟩ := zx_ck hf
  obtain ⟨a_17, h_18, hf⟩ := zx_p hf
  refine zg_get (pc' := 46) (ci := 8) hx hb htT zi_M hown hK h_16 rfl rfl 11 (by decide) (htT _ zt_816) (fun _ h9 => h9) (zx_hv h_18) zd_M_readList_43 rfl ?_
  refine zg_1 (pc' := 47) (fun _ _ _ _ _ hl w => lv_iconst (v := (2 : Int32)) hx hb zd_M_readList_46 (by decide) w) ?_
  refine zg_1 (pc' := 48) (fun _ _ _ _ _ hl w => lv_aload_n hx hb zd_M_readList_47 rfl (lv_at hl 3 rfl) w) ?_
  refine zg_1 (pc' := 49) (fun _ _ _ _ _ hl w => lv_iload_n hx hb zd_M_readList_48 rfl (lv_at hl 0 rfl) w) ?_
  obtain ⟨j_20, s_19, hq, hf⟩ := zx_b hf
  refine zg_call (pc' := 52) (y := s_19) (rv := (some (.long j_20))) (rest := [.int (2 : Int32), .ref (h0 + a_17)]) X hR (zm_M_number hq) (fun H locs ls k j hsz hI hU hk => va_runV (As := [.int i_8]) (rest := [.int (2 : Int32), .ref (h0 + a_17)]) ⟨hx, hb, hml, hown, htT⟩ (zc_M_number l h0 D dA tb n hq) (cwV 1 htT (zw_gV zt_1015 zt_1017 zt_42 zt_71 zt_1018) rfl rfl rfl (by decide +kernel) ⟨Nat.le_trans (Nat.le_of_ble_eq_true rfl) hF.1, Nat.le_trans (Nat.le_of_ble_eq_true rfl) hF.2⟩) ⟨(zg_pre hU).1, zg_recv hK hI h_16 rfl, (zg_pre hU).2⟩ rfl rfl hsz rfl (lv_room (Nat.le_of_ble_eq_true rfl)) zd_M_readList_49 hk) rfl ?_
  obtain ⟨h_22, hf⟩ := zx_ck hf
  obtain ⟨s_21, e_s_21, hf⟩ := zx_l hf
  refine zg_last (pc' := 53) hx hb hK h_22 e_s_21 zd_M_readList_52 rfl ?_
  refine zg_1 (pc' := 54) (fun _ _ _ _ _ hl w => lv_aload_n hx hb zd_M_readList_53 rfl (lv_at hl 3 rfl) w) ?_
  obtain ⟨h_23, hf⟩ := zx_ck hf
  obtain ⟨a_24, h_25, hf⟩ := zx_p hf
  refine zg_get (pc' := 57) (ci := 8) hx hb htT zi_M hown hK h_23 rfl rfl 11 (by decide) (htT _ zt_816) (fun _ h9 => h9) (zx_hv h_25) zd_M_readList_54 rfl ?_
  refine zg_1 (pc' := 58) (fun _ _ _ _ _ hl w => lv_iconst (v := (3 : Int32)) hx hb zd_M_readList_57 (by decide) w) ?_
  refine zg_1 (pc' := 59) (fun _ _ _ _ _ hl w => lv_aload_n hx hb zd_M_readList_58 rfl (lv_at hl 3 rfl) w) ?_
  refine zg_1 (pc' := 60) (fun _ _ _ _ _ hl w => lv_iload_n hx hb zd_M_readList_59 rfl (lv_at hl 0 rfl) w) ?_
  obtain ⟨j_27, s_26, hq, hf⟩ := zx_b hf
  refine zg_call (pc' := 63) (y := s_26) (rv := (some (.long j_27))) (rest := [.int (3 : Int32), .ref (h0 + a_24)]) X hR (zm_M_number hq) (fun H locs ls k j hsz hI hU hk => va_runV (As := [.int i_8]) (rest := [.int (3 : Int32), .ref (h0 + a_24)]) ⟨hx, hb, hml, hown, htT⟩ (zc_M_number l h0 D dA tb n hq) (cwV 1 htT (zw_gV zt_1015 zt_1017 zt_42 zt_71 zt_1018) rfl rfl rfl (by decide +kernel) ⟨Nat.le_trans (Nat.le_of_ble_eq_true rfl) hF.1, Nat.le_trans (Nat.le_of_ble_eq_true rfl) hF.2⟩) ⟨(zg_pre hU).1, zg_recv hK hI h_23 rfl, (zg_pre hU).2⟩ rfl rfl hsz rfl (lv_room (Nat.le_of_ble_eq_true rfl)) zd_M_readList_60 hk) rfl ?_
  obtain ⟨h_29, hf⟩ := zx_ck hf
  obtain ⟨s_28, e_s_28, hf⟩ := zx_l hf
  refine zg_last (pc' := 64) hx hb hK h_29 e_s_28 zd_M_readList_63 rfl ?_
  refine zg_1 (pc' := 65) (fun _ _ _ _ _ hl w => lv_aload_n hx hb zd_M_readList_64 rfl (lv_at hl 3 rfl) w) ?_
  refine zg_1 (pc' := 67) (fun _ _ _ _ _ hl w => lv_bipush (v := (48 : Int32)) hx hb zd_M_readList_65 (by decide) w) ?_
  refine zg_1 (pc' := 68) (fun _ _ _ _ _ hl w => lv_iload_n hx hb zd_M_readList_67 rfl (lv_at hl 0 rfl) w) ?_
  obtain ⟨h_31, hf⟩ := zx_ck hf
  obtain ⟨i_32, s_30, hq, hf⟩ := zx_b hf
  refine zg_call (pc' := 71) (y := s_30) (rv := (some (.int i_32))) (rest := []) X hR (zm_M_head hq) (fun H locs ls k j hsz hI hU hk => va_runV (As := [.int (48 : Int32), .int i_8]) (rest := []) ⟨hx, hb, hml, hown, htT⟩ (zc_M_head l h0 D dA tb n hq) (cwV 2 htT (zw_gV zt_1007 zt_1009 zt_40 zt_71 zt_1010) rfl rfl rfl (by decide +kernel) ⟨Nat.le_trans (Nat.le_of_ble_eq_true rfl) hF.1, Nat.le_trans (Nat.le_of_ble_eq_true rfl) hF.2⟩) ⟨(zg_pre hU).1, zg_recv hK hI h_31 rfl, (zg_pre hU).2⟩ rfl rfl hsz rfl (lv_room (Nat.le_of_ble_eq_true rfl)) zd_M_readList_68 hk) rfl ?_
  refine zg_s (pc' := 73) (lv' := [(4, .int i_32), (3, .int i_8), (2, .int i_6), (1, .int i_4), (0, .ref (h0 + a0))]) (fun _ _ _ _ _ hl w => lv_istore hx hb zd_M_readList_71 hl (by decide) rfl w) ?_
  refine zg_v [4, 3, 2, 1, 0] rfl ?_
  exact zw_M_readList_73 X hR hF hret n n s_30 a0 i_4 i_6 i_8 i_32 hf
set_option maxHeartbeats 4000000 in
theorem zw_M_realm_86 {p : Program} {l : Launch} {e : Env} {R : Room} {s : State} {m : MethodId} {args : Array Value} {below : List Frame} {meth : Method} {c : Code} {Q : State → Prop} {h0 : Nat} {D : va_G} {dA : Nat → ClassId} {tb : Nat → Nat} {c0 k0 : Nat} {z : zh_S} (X : zg_X p s m args meth c ze_M_realm 4 zr_M none h0 D dA tb) (hR : zg_R R c0 k0 z) (hF : 3 ≤ R.frames ∧ 78 ≤ R.locals) (hret : ∀ (pc : Nat) (lv : List (Nat × Value)), decode ze_M_realm pc = .ok (.return_, 1) → zg_G p l e R s m args below meth c Q h0 D dA 4 c0 k0 z z pc lv []) (n : Nat) : ∀ (s0 : zh_S) (a0 : Nat) (i3 : Int32), zb_M_realm_86 n s0 a0 i3 = some z → zg_G p l e R s m args below meth c Q h0 D dA 4 c0 k0 z s0 86 [(0, .ref (h0 + a0)), (3, .int i3)] [] := by
  obtain ⟨hx, hb, hml, hown, htT, hrt, hlk, x00, hIn⟩ := id X
  have hK := hIn.2.1
  have hT := hIn.2.2.1
  have hNe := hIn.2.2.2
  intro s0 a0 i3 hf
  rw [zb_M_realm_86] at hf
  refine zg_1 (pc' := 87) (fun _ _ _ _ _ hl w => lv_aload_n hx hb zd_M_realm_86 rfl (lv_at hl 0 rfl) w) ?_
  refine zg_1 (pc' := 88) (fun _ _ _ _ _ hl w => lv_iload_n hx hb zd_M_realm_87 rfl (lv_at hl 1 rfl) w) ?_
  obtain ⟨h_2, hf⟩ := zx_ck hf
  obtain ⟨s_1, hq, hf⟩ := zx_p hf
  refine zg_call (pc' := 91) (y := s_1) (rv := none) (rest := []) X hR (zm_M_done hq) (fun H locs ls k j hsz hI hU hk => va_runV (As := [.int i3]) (rest := []) ⟨hx, hb, hml, hown, htT⟩ (zc_M_done l h0 D dA tb n hq) (cwV 1 htT (zw_gV zt_1041 zt_1043 zt_48 zt_71 zt_1044) rfl rfl rfl (by decide +kernel) ⟨Nat.le_trans (Nat.le_of_ble_eq_true rfl) hF.1, Nat.le_trans (Nat.le_of_ble_eq_true rfl) hF.2⟩) ⟨(zg_pre hU).1, zg_recv hK hI h_2 rfl, (zg_pre hU).2⟩ rfl rfl hsz rfl (lv_room (Nat.le_of_ble_eq_true rfl)) zd_M_realm_88 hk) rfl ?_
  obtain rfl := zx_r1 hf
  exact hret _ _ zd_M_realm_91
set_option maxHeartbeats 4000000 in
theorem zw_M_realm_60 {p : Program} {l : Launch} {e : Env} {R : Room} {s : State} {m : MethodId} {args : Array Value} {below : List Frame} {meth : Method} {c : Code} {Q : State → Prop} {h0 : Nat} {D : va_G} {dA : Nat → ClassId} {tb : Nat → Nat} {c0 k0 : Nat} {z : zh_S} (X : zg_X p s m args meth c ze_M_realm 4 zr_M none h0 D dA tb) (hR : zg_R R c0 k0 z) (hF : 3 ≤ R.frames ∧ 78 ≤ R.locals) (hret : ∀ (pc : Nat) (lv : List (Nat × Value)), decode ze_M_realm pc = .ok (.return_, 1) → zg_G p l e R s m args below meth c Q h0 D dA 4 c0 k0 z z pc lv []) (n : Nat) : ∀ (s0 : zh_S) (a0 : Nat) (i3 : Int32), zb_M_realm_60 n s0 a0 i3 = some z → zg_G p l e R s m args below meth c Q h0 D dA 4 c0 k0 z s0 60 [(0, .ref (h0 + a0)), (3, .int i3)] [] := by
  obtain ⟨hx, hb, hml, hown, htT, hrt, hlk, x00, hIn⟩ := id X
  have hK := hIn.2.1
  have hT := hIn.2.2.1
  have hNe := hIn.2.2.2
  intro s0 a0 i3 hf
  rw [zb_M_realm_60] at hf
  refine zg_1 (pc' := 61) (fun _ _ _ _ _ hl w => lv_aload_n hx hb zd_M_realm_60 rfl (lv_at hl 0 rfl) w) ?_
  refine zg_1 (pc' := 64) (fun _ _ _ _ _ hl w => lv_sipush (v := (129 : Int32)) hx hb zd_M_realm_61 (by decide) w) ?_
  refine zg_1 (pc' := 65) (fun _ _ _ _ _ hl w => lv_iload_n hx hb zd_M_realm_64 rfl (lv_at hl 1 rfl) w) ?_
  obtain ⟨h_1, hf⟩ := zx_ck hf
  obtain ⟨i_2, hq, hf⟩ := zx_p hf
  refine zg_call (pc' := 68) (y := s0) (rv := (some (.int i_2))) (rest := []) X hR ⟨Nat.le_refl _, Nat.le_refl _⟩ (fun H locs ls k j hsz hI hU hk => va_runV (As := [.int (129 : Int32), .int i3]) (rest := []) ⟨hx, hb, hml, hown, htT⟩ (zc_M_next l h0 D dA tb n hq) (cwV 2 htT (zw_gV zt_1024 zt_1026 zt_44 zt_71 zt_1027) rfl rfl rfl (by decide +kernel) ⟨Nat.le_trans (Nat.le_of_ble_eq_true rfl) hF.1, Nat.le_trans (Nat.le_of_ble_eq_true rfl) hF.2⟩) ⟨(zg_pre hU).1, zg_recv hK hI h_1 rfl, (zg_pre hU).2⟩ rfl rfl hsz rfl (lv_room (Nat.le_of_ble_eq_true rfl)) zd_M_realm_65 hk) rfl ?_
  refine zg_2 (pc1 := 86) (pc2 := 71) (Classical.em _) (fun _ _ _ _ _ w1 w2 => lv_if_eq hx hb zd_M_realm_68 (by decide) w1 w2) (fun hc => ?_) (fun hc => ?_)
  · rw [if_pos hc] at hf
    exact zw_M_realm_86 X hR hF hret n s0 a0 i3 hf
  · rw [if_neg hc] at hf
    refine zg_1 (pc' := 72) (fun _ _ _ _ _ hl w => lv_aload_n hx hb zd_M_realm_71 rfl (lv_at hl 0 rfl) w) ?_
    obtain ⟨a_3, h_4, hf⟩ := zx_p hf
    refine zg_get (pc' := 75) (ci := 8) hx hb htT zi_M hown hK h_1 rfl rfl 11 (by decide) (htT _ zt_816) (fun _ h9 => h9) (zx_hv h_4) zd_M_realm_72 rfl ?_
    refine zg_1 (pc' := 77) (fun _ _ _ _ _ hl w => lv_bipush (v := (12 : Int32)) hx hb zd_M_realm_75 (by decide) w) ?_
    refine zg_1 (pc' := 78) (fun _ _ _ _ _ hl w => lv_aload_n hx hb zd_M_realm_77 rfl (lv_at hl 0 rfl) w) ?_
    refine zg_1 (pc' := 81) (fun _ _ _ _ _ hl w => lv_sipush (v := (129 : Int32)) hx hb zd_M_realm_78 (by decide) w) ?_
    refine zg_1 (pc' := 82) (fun _ _ _ _ _ hl w => lv_iload_n hx hb zd_M_realm_81 rfl (lv_at hl 1 rfl) w) ?_
    obtain ⟨j_6, s_5, hq, hf⟩ := zx_b hf
    refine zg_call (pc' := 85) (y := s_5) (rv := (some (.long j_6))) (rest := [.int (12 : Int32), .ref (h0 + a_3)]) X hR (zm_M_title hq) (fun H locs ls k j hsz hI hU hk => va_runV (As := [.int (129 : Int32), .int i3]) (rest := [.int (12 : Int32), .ref (h0 + a_3)]) ⟨hx, hb, hml, hown, htT⟩ (zc_M_title l h0 D dA tb n hq) (cwV 2 htT (zw_gV zt_1020 zt_1022 zt_43 zt_71 zt_1023) rfl rfl rfl (by decide +kernel) ⟨Nat.le_trans (Nat.le_of_ble_eq_true rfl) hF.1, Nat.le_trans (Nat.le_of_ble_eq_true rfl) hF.2⟩) ⟨(zg_pre hU).1, zg_recv hK hI h_1 rfl, (zg_pre hU).2⟩ rfl rfl hsz rfl (lv_room (Nat.le_of_ble_eq_true rfl)) zd_M_realm_82 hk) rfl ?_
    obtain ⟨h_8, hf⟩ := zx_ck hf
    obtain ⟨s_7, e_s_7, hf⟩ := zx_l hf
    refine zg_last (pc' := 86) hx hb hK h_8 e_s_7 zd_M_realm_85 rfl ?_
    exact zw_M_realm_86 X hR hF hret n s_7 a0 i3 hf
set_option maxHeartbeats 4000000 in
theorem zw_M_realm_34 {p : Program} {l : Launch} {e : Env} {R : Room} {s : State} {m : MethodId} {args : Array Value} {below : List Frame} {meth : Method} {c : Code} {Q : State → Prop} {h0 : Nat} {D : va_G} {dA : Nat → ClassId} {tb : Nat → Nat} {c0 k0 : Nat} {z : zh_S} (X : zg_X p s m args meth c ze_M_realm 4 zr_M none h0 D dA tb) (hR : zg_R R c0 k0 z) (hF : 3 ≤ R.frames ∧ 78 ≤ R.locals) (hret : ∀ (pc : Nat) (lv : List (Nat × Value)), decode ze_M_realm pc = .ok (.return_, 1) → zg_G p l e R s m args below meth c Q h0 D dA 4 c0 k0 z z pc lv []) (n : Nat) : ∀ (s0 : zh_S) (a0 : Nat) (i3 : Int32), zb_M_realm_34 n s0 a0 i3 = some z → zg_G p l e R s m args below meth c Q h0 D dA 4 c0 k0 z s0 34 [(0, .ref (h0 + a0)), (3, .int i3)] [] := by
  obtain ⟨hx, hb, hml, hown, htT, hrt, hlk, x00, hIn⟩ := id X
  have hK := hIn.2.1
  have hT := hIn.2.2.1
  have hNe := hIn.2.2.2
  intro s0 a0 i3 hf
  rw [zb_M_realm_34] at hf
  refine zg_1 (pc' := 35) (fun _ _ _ _ _ hl w => lv_aload_n hx hb zd_M_realm_34 rfl (lv_at hl 0 rfl) w) ?_
  refine zg_1 (pc' := 38) (fun _ _ _ _ _ hl w => lv_sipush (v := (128 : Int32)) hx hb zd_M_realm_35 (by decide) w) ?_
  refine zg_1 (pc' := 39) (fun _ _ _ _ _ hl w => lv_iload_n hx hb zd_M_realm_38 rfl (lv_at hl 1 rfl) w) ?_
  obtain ⟨h_1, hf⟩ := zx_ck hf
  obtain ⟨i_2, hq, hf⟩ := zx_p hf
  refine zg_call (pc' := 42) (y := s0) (rv := (some (.int i_2))) (rest := []) X hR ⟨Nat.le_refl _, Nat.le_refl _⟩ (fun H locs ls k j hsz hI hU hk => va_runV (As := [.int (128 : Int32), .int i3]) (rest := []) ⟨hx, hb, hml, hown, htT⟩ (zc_M_next l h0 D dA tb n hq) (cwV 2 htT (zw_gV zt_1024 zt_1026 zt_44 zt_71 zt_1027) rfl rfl rfl (by decide +kernel) ⟨Nat.le_trans (Nat.le_of_ble_eq_true rfl) hF.1, Nat.le_trans (Nat.le_of_ble_eq_true rfl) hF.2⟩) ⟨(zg_pre hU).1, zg_recv hK hI h_1 rfl, (zg_pre hU).2⟩ rfl rfl hsz rfl (lv_room (Nat.le_of_ble_eq_true rfl)) zd_M_realm_39 hk) rfl ?_
  refine zg_2 (pc1 := 60) (pc2 := 45) (Classical.em _) (fun _ _ _ _ _ w1 w2 => lv_if_eq hx hb zd_M_realm_42 (by decide) w1 w2) (fun hc => ?_) (fun hc => ?_)
  · rw [if_pos hc] at hf
    exact zw_M_realm_60 X hR hF hret n s0 a0 i3 hf
  · rw [if_neg hc] at hf
    refine zg_1 (pc' := 46) (fun _ _ _ _ _ hl w => lv_aload_n hx hb zd_M_realm_45 rfl (lv_at hl 0 rfl) w) ?_
    obtain ⟨a_3, h_4, hf⟩ := zx_p hf
    refine zg_get (pc' := 49) (ci := 8) hx hb htT zi_M hown hK h_1 rfl rfl 11 (by decide) (htT _ zt_816) (fun _ h9 => h9) (zx_hv h_4) zd_M_realm_46 rfl ?_
    refine zg_1 (pc' := 51) (fun _ _ _ _ _ hl w => lv_bipush (v := (11 : Int32)) hx hb zd_M_realm_49 (by decide) w) ?_
    refine zg_1 (pc' := 52) (fun _ _ _ _ _ hl w => lv_aload_n hx hb zd_M_realm_51 rfl (lv_at hl 0 rfl) w) ?_
    refine zg_1 (pc' := 55) (fun _ _ _ _ _ hl w => lv_sipush (v := (128 : Int32)) hx hb zd_M_realm_52 (by decide) w) ?_
    refine zg_1 (pc' := 56) (fun _ _ _ _ _ hl w => lv_iload_n hx hb zd_M_realm_55 rfl (lv_at hl 1 rfl) w) ?_
    obtain ⟨j_6, s_5, hq, hf⟩ := zx_b hf
    refine zg_call (pc' := 59) (y := s_5) (rv := (some (.long j_6))) (rest := [.int (11 : Int32), .ref (h0 + a_3)]) X hR (zm_M_title hq) (fun H locs ls k j hsz hI hU hk => va_runV (As := [.int (128 : Int32), .int i3]) (rest := [.int (11 : Int32), .ref (h0 + a_3)]) ⟨hx, hb, hml, hown, htT⟩ (zc_M_title l h0 D dA tb n hq) (cwV 2 htT (zw_gV zt_1020 zt_1022 zt_43 zt_71 zt_1023) rfl rfl rfl (by decide +kernel) ⟨Nat.le_trans (Nat.le_of_ble_eq_true rfl) hF.1, Nat.le_trans (Nat.le_of_ble_eq_true rfl) hF.2⟩) ⟨(zg_pre hU).1, zg_recv hK hI h_1 rfl, (zg_pre hU).2⟩ rfl rfl hsz rfl (lv_room (Nat.le_of_ble_eq_true rfl)) zd_M_realm_56 hk) rfl ?_
    obtain ⟨h_8, hf⟩ := zx_ck hf
    obtain ⟨s_7, e_s_7, hf⟩ := zx_l hf
    refine zg_last (pc' := 60) hx hb hK h_8 e_s_7 zd_M_realm_59 rfl ?_
    exact zw_M_realm_60 X hR hF hret n s_7 a0 i3 hf
set_option maxHeartbeats 4000000 in
theorem zc_M_realm (l : Launch) (h0 : Nat) (D : va_G) (dA : Nat → ClassId) (tb : Nat → Nat) (n : Nat) {s0 : zh_S} {a0 : Nat} {i1 : Int32} {z : zh_S} (hf : zf_M_realm n s0 a0 i1 = some z) : zc_M l zn_M_realm zs_M_realm 3 78 h0 D dA tb [.ref (h0 + a0), .int i1] s0 none z := by
  rw [zf_M_realm] at hf
  refine zc_of (cc := ze_M_realm) (maxL := 4) (ret := none) (lv := [(0, .ref (h0 + a0)), (1, .int i1)]) (by decide) rfl (Nat.le_of_ble_eq_true rfl) rfl ?_
  intro p e s m args below meth c X hnm
  obtain ⟨hx, hb, hml, hown, htT, hrt, hlk, x00, hIn⟩ := id X
  have hK := hIn.2.1
  have hT := hIn.2.2.1
  have hNe := hIn.2.2.2
  have hR : zg_R { frames := 3, cells := zh_N z - zh_N s0, slots := zh_M z - zh_M s0, locals := 78 } (zh_N s0) (zh_M s0) z := ⟨by show zh_N z ≤ zh_N s0 + (zh_N z - zh_N s0); omega, by show zh_M z ≤ zh_M s0 + (zh_M z - zh_M s0); omega⟩
  have hF : 3 ≤ ({ frames := 3, cells := zh_N z - zh_N s0, slots := zh_M z - zh_M s0, locals := 78 } : Room).frames ∧ 78 ≤ ({ frames := 3, cells := zh_N z - zh_N s0, slots := zh_M z - zh_M s0, locals := 78 } : Room).locals := ⟨Nat.le_refl _, Nat.le_refl _⟩
  have hret := fun (pc : Nat) (lv : List (Nat × Value)) (hd : decode ze_M_realm pc = .ok (.return_, 1)) => zg_vret (R := { frames := 3, cells := zh_N z - zh_N s0, slots := zh_M z - zh_M s0, locals := 78 }) (l := l) (e := e) (below := below) (c0 := zh_N s0) (s0 := zh_M s0) (z := z) (lv := lv) X hd
  refine zg_1 (pc' := 1) (fun _ _ _ _ _ hl w => lv_aload_n hx hb zd_M_realm_0 rfl (lv_at hl 0 rfl) w) ?_
  obtain ⟨h_1, hf⟩ := zx_ck hf
  refine zg_get (pc' := 4) (ci := 8) hx hb htT zi_M hown hK h_1 rfl rfl 9 (by decide) (htT _ zt_814) (fun _ h9 => h9) rfl zd_M_realm_1 rfl ?_
  obtain ⟨i_2, e_i_2, hf⟩ := zx_l hf
  refine zg_ti e_i_2 ?_
  refine zg_s (pc' := 5) (lv' := [(2, .int i_2), (0, .ref (h0 + a0)), (1, .int i1)]) (fun _ _ _ _ _ hl w => lv_istore_n hx hb zd_M_realm_4 rfl hl (by decide) rfl w) ?_
  refine zg_1 (pc' := 6) (fun _ _ _ _ _ hl w => lv_aload_n hx hb zd_M_realm_5 rfl (lv_at hl 1 rfl) w) ?_
  refine zg_1 (pc' := 8) (fun _ _ _ _ _ hl w => lv_bipush (v := (48 : Int32)) hx hb zd_M_realm_6 (by decide) w) ?_
  refine zg_1 (pc' := 9) (fun _ _ _ _ _ hl w => lv_iload_n hx hb zd_M_realm_8 rfl (lv_at hl 2 rfl) w) ?_
  obtain ⟨i_4, s_3, hq, hf⟩ := zx_b hf
  refine zg_call (pc' := 12) (y := s_3) (rv := (some (.int i_4))) (rest := []) X hR (zm_M_head hq) (fun H locs ls k j hsz hI hU hk => va_runV (As := [.int (48 : Int32), .int i1]) (rest := []) ⟨hx, hb, hml, hown, htT⟩ (zc_M_head l h0 D dA tb n hq) (cwV 2 htT (zw_gV zt_1007 zt_1009 zt_40 zt_71 zt_1010) rfl rfl rfl (by decide +kernel) ⟨Nat.le_trans (Nat.le_of_ble_eq_true rfl) hF.1, Nat.le_trans (Nat.le_of_ble_eq_true rfl) hF.2⟩) ⟨(zg_pre hU).1, zg_recv hK hI h_1 rfl, (zg_pre hU).2⟩ rfl rfl hsz rfl (lv_room (Nat.le_of_ble_eq_true rfl)) zd_M_realm_9 hk) rfl ?_
  refine zg_s (pc' := 13) (lv' := [(3, .int i_4), (2, .int i_2), (0, .ref (h0 + a0)), (1, .int i1)]) (fun _ _ _ _ _ hl w => lv_istore_n hx hb zd_M_realm_12 rfl hl (by decide) rfl w) ?_
  refine zg_1 (pc' := 14) (fun _ _ _ _ _ hl w => lv_aload_n hx hb zd_M_realm_13 rfl (lv_at hl 2 rfl) w) ?_
  obtain ⟨h_5, hf⟩ := zx_ck hf
  refine zg_get (pc' := 17) (ci := 8) hx hb htT zi_M hown hK h_5 rfl rfl 10 (by decide) (htT _ zt_815) (fun _ h9 => h9) rfl zd_M_realm_14 rfl ?_
  refine zg_2 (pc1 := 34) (pc2 := 20) (Classical.em _).symm (fun _ _ _ _ _ w1 w2 => lv_if_ne hx hb zd_M_realm_17 (by decide) w1 w2) (fun hc => ?_) (fun hc => ?_)
  · rw [if_neg hc] at hf
    refine zg_v [2, 0] rfl ?_
    exact zw_M_realm_34 X hR hF hret n s_3 a0 i_4 hf
  · rw [if_pos hc] at hf
    refine zg_1 (pc' := 21) (fun _ _ _ _ _ hl w => lv_iload_n hx hb zd_M_realm_20 rfl (lv_at hl 0 rfl) w) ?_
    refine zg_1 (pc' := 22) (fun _ _ _ _ _ hl w => lv_aload_n hx hb zd_M_realm_21 rfl (lv_at hl 2 rfl) w) ?_
    refine zg_get (pc' := 25) (ci := 8) hx hb htT zi_M hown hK h_5 rfl rfl 9 (by decide) (htT _ zt_814) (fun _ h9 => h9) rfl zd_M_realm_22 rfl ?_
    refine zg_2 (pc1 := 34) (pc2 := 28) (Classical.em _).symm (fun _ _ _ _ _ w1 w2 => lv_icmp_ne hx hb zd_M_realm_25 (by decide) w1 w2) (fun hc => ?_) (fun hc => ?_)
    · rw [if_neg hc] at hf
      refine zg_v [2, 0] rfl ?_
      exact zw_M_realm_34 X hR hF hret n s_3 a0 i_4 hf
    · rw [if_pos hc] at hf
      refine zg_1 (pc' := 29) (fun _ _ _ _ _ hl w => lv_aload_n hx hb zd_M_realm_28 rfl (lv_at hl 2 rfl) w) ?_
      refine zg_1 (pc' := 30) (fun _ _ _ _ _ hl w => lv_iconst (v := (4 : Int32)) hx hb zd_M_realm_29 (by decide) w) ?_
      refine zg_1 (pc' := 31) (fun _ _ _ _ _ hl w => lv_iload_n hx hb zd_M_realm_30 rfl (lv_at hl 1 rfl) w) ?_
      obtain ⟨s_6, hq, hf⟩ := zx_p hf
      refine zg_call (pc' := 34) (y := s_6) (rv := none) (rest := []) X hR (zm_M_fails hq) (fun H locs ls k j hsz hI hU hk => va_runV (As := [.int (4 : Int32), .int i_2]) (rest := []) ⟨hx, hb, hml, hown, htT⟩ (zc_M_fails l h0 D dA tb n hq) (cwV 2 htT (zw_gV zt_1011 zt_1013 zt_41 zt_71 zt_1014) rfl rfl rfl (by decide +kernel) ⟨Nat.le_trans (Nat.le_of_ble_eq_true rfl) hF.1, Nat.le_trans (Nat.le_of_ble_eq_true rfl) hF.2⟩) ⟨(zg_pre hU).1, zg_recv hK hI h_5 rfl, (zg_pre hU).2⟩ rfl rfl hsz rfl (lv_room (Nat.le_of_ble_eq_true rfl)) zd_M_realm_31 hk) rfl ?_
      refine zg_v [2, 0] rfl ?_
      exact zw_M_realm_34 X hR hF hret n s_6 a0 i_4 hf
set_option maxHeartbeats 4000000 in
theorem zw_M_truth_66 {p : Program} {l : Launch} {e : Env} {R : Room} {s : State} {m : MethodId} {args : Array Value} {below : List Frame} {meth : Method} {c : Code} {Q : State → Prop} {h0 : Nat} {D : va_G} {dA : Nat → ClassId} {tb : Nat → Nat} {c0 k0 : Nat} {z : zh_S} (X : zg_X p s m args meth c ze_M_truth 4 zr_M none h0 D dA tb) (hR : zg_R R c0 k0 z) (hF : 2 ≤ R.frames ∧ 47 ≤ R.locals) (hret : ∀ (pc : Nat) (lv : List (Nat × Value)), decode ze_M_truth pc = .ok (.return_, 1) → zg_G p l e R s m args below meth c Q h0 D dA 4 c0 k0 z z pc lv []) (n : Nat) : ∀ (s0 : zh_S) (at0 : Nat) (it1 : Int32), zb_M_truth_66 n s0 at0 it1 = some z → zg_G p l e R s m args below meth c Q h0 D dA 4 c0 k0 z s0 66 [] [.int it1, .ref (h0 + at0)] := by
  obtain ⟨hx, hb, hml, hown, htT, hrt, hlk, x00, hIn⟩ := id X
  have hK := hIn.2.1
  have hT := hIn.2.2.1
  have hNe := hIn.2.2.2
  intro s0 at0 it1 hf
  rw [zb_M_truth_66] at hf
  obtain ⟨h_2, hf⟩ := zx_ck hf
  obtain ⟨s_1, e_s_1, hf⟩ := zx_l hf
  refine zg_putI (pc' := 69) (ci := 8) (ty := .int) hx hb htT zi_M zy_M zo_M zj_M hown hK h_2 rfl rfl 9 (by decide) (htT _ zt_814) (fun _ h9 => h9) (Or.inl rfl) (by decide +kernel) rfl rfl rfl e_s_1 zd_M_truth_66 rfl ?_
  obtain rfl := zx_r1 hf
  exact hret _ _ zd_M_truth_69
set_option maxHeartbeats 4000000 in
theorem zw_M_truth_50 {p : Program} {l : Launch} {e : Env} {R : Room} {s : State} {m : MethodId} {args : Array Value} {below : List Frame} {meth : Method} {c : Code} {Q : State → Prop} {h0 : Nat} {D : va_G} {dA : Nat → ClassId} {tb : Nat → Nat} {c0 k0 : Nat} {z : zh_S} (X : zg_X p s m args meth c ze_M_truth 4 zr_M none h0 D dA tb) (hR : zg_R R c0 k0 z) (hF : 2 ≤ R.frames ∧ 47 ≤ R.locals) (hret : ∀ (pc : Nat) (lv : List (Nat × Value)), decode ze_M_truth pc = .ok (.return_, 1) → zg_G p l e R s m args below meth c Q h0 D dA 4 c0 k0 z z pc lv []) (n : Nat) : ∀ (s0 : zh_S) (a0 : Nat) (i3 : Int32), zb_M_truth_50 n s0 a0 i3 = some z → zg_G p l e R s m args below meth c Q h0 D dA 4 c0 k0 z s0 50 [(0, .ref (h0 + a0)), (3, .int i3)] [] := by
  obtain ⟨hx, hb, hml, hown, htT, hrt, hlk, x00, hIn⟩ := id X
  have hK := hIn.2.1
  have hT := hIn.2.2.1
  have hNe := hIn.2.2.2
  intro s0 a0 i3 hf
  rw [zb_M_truth_50] at hf
  refine zg_1 (pc' := 51) (fun _ _ _ _ _ hl w => lv_aload_n hx hb zd_M_truth_50 rfl (lv_at hl 0 rfl) w) ?_
  refine zg_1 (pc' := 52) (fun _ _ _ _ _ hl w => lv_aload_n hx hb zd_M_truth_51 rfl (lv_at hl 0 rfl) w) ?_
  obtain ⟨h_1, hf⟩ := zx_ck hf
  refine zg_get (pc' := 55) (ci := 8) hx hb htT zi_M hown hK h_1 rfl rfl 10 (by decide) (htT _ zt_815) (fun _ h9 => h9) rfl zd_M_truth_52 rfl ?_
  refine zg_2 (pc1 := 62) (pc2 := 58) (Classical.em _).symm (fun _ _ _ _ _ w1 w2 => lv_if_ne hx hb zd_M_truth_55 (by decide) w1 w2) (fun hc => ?_) (fun hc => ?_)
  · rw [if_neg hc] at hf
    refine zg_1 (pc' := 63) (fun _ _ _ _ _ hl w => lv_aload_n hx hb zd_M_truth_62 rfl (lv_at hl 0 rfl) w) ?_
    refine zg_get (pc' := 66) (ci := 8) hx hb htT zi_M hown hK h_1 rfl rfl 9 (by decide) (htT _ zt_814) (fun _ h9 => h9) rfl zd_M_truth_63 rfl ?_
    refine zg_v [] rfl ?_
    exact zw_M_truth_66 X hR hF hret n s0 a0 (zh_I s0 a0 9) hf
  · rw [if_pos hc] at hf
    refine zg_1 (pc' := 59) (fun _ _ _ _ _ hl w => lv_iload_n hx hb zd_M_truth_58 rfl (lv_at hl 1 rfl) w) ?_
    refine zg_1 (pc' := 66) (fun _ _ _ _ _ hl w => lv_goto hx hb zd_M_truth_59 (by decide) w) ?_
    refine zg_v [] rfl ?_
    exact zw_M_truth_66 X hR hF hret n s0 a0 i3 hf
set_option maxHeartbeats 4000000 in
theorem zw_M_truth_44 {p : Program} {l : Launch} {e : Env} {R : Room} {s : State} {m : MethodId} {args : Array Value} {below : List Frame} {meth : Method} {c : Code} {Q : State → Prop} {h0 : Nat} {D : va_G} {dA : Nat → ClassId} {tb : Nat → Nat} {c0 k0 : Nat} {z : zh_S} (X : zg_X p s m args meth c ze_M_truth 4 zr_M none h0 D dA tb) (hR : zg_R R c0 k0 z) (hF : 2 ≤ R.frames ∧ 47 ≤ R.locals) (hret : ∀ (pc : Nat) (lv : List (Nat × Value)), decode ze_M_truth pc = .ok (.return_, 1) → zg_G p l e R s m args below meth c Q h0 D dA 4 c0 k0 z z pc lv []) (n : Nat) : ∀ (s0 : zh_S) (a0 : Nat) (i2 : Int32) (i3 : Int32), zb_M_truth_44 n s0 a0 i2 i3 = some z → zg_G p l e R s m args below meth c Q h0 D dA 4 c0 k0 z s0 44 [(0, .ref (h0 + a0)), (2, .int i2), (3, .int i3)] [] := by
  obtain ⟨hx, hb, hml, hown, htT, hrt, hlk, x00, hIn⟩ := id X
  have hK := hIn.2.1
  have hT := hIn.2.2.1
  have hNe := hIn.2.2.2
  intro s0 a0 i2 i3 hf
  rw [zb_M_truth_44] at hf
  refine zg_1 (pc' := 45) (fun _ _ _ _ _ hl w => lv_aload_n hx hb zd_M_truth_44 rfl (lv_at hl 0 rfl) w) ?_
  refine zg_1 (pc' := 46) (fun _ _ _ _ _ hl w => lv_iconst (v := (4 : Int32)) hx hb zd_M_truth_45 (by decide) w) ?_
  refine zg_1 (pc' := 47) (fun _ _ _ _ _ hl w => lv_iload_n hx hb zd_M_truth_46 rfl (lv_at hl 1 rfl) w) ?_
  obtain ⟨h_2, hf⟩ := zx_ck hf
  obtain ⟨s_1, hq, hf⟩ := zx_p hf
  refine zg_call (pc' := 50) (y := s_1) (rv := none) (rest := []) X hR (zm_M_fails hq) (fun H locs ls k j hsz hI hU hk => va_runV (As := [.int (4 : Int32), .int i2]) (rest := []) ⟨hx, hb, hml, hown, htT⟩ (zc_M_fails l h0 D dA tb n hq) (cwV 2 htT (zw_gV zt_1011 zt_1013 zt_41 zt_71 zt_1014) rfl rfl rfl (by decide +kernel) ⟨Nat.le_trans (Nat.le_of_ble_eq_true rfl) hF.1, Nat.le_trans (Nat.le_of_ble_eq_true rfl) hF.2⟩) ⟨(zg_pre hU).1, zg_recv hK hI h_2 rfl, (zg_pre hU).2⟩ rfl rfl hsz rfl (lv_room (Nat.le_of_ble_eq_true rfl)) zd_M_truth_47 hk) rfl ?_
  refine zg_v [0, 2] rfl ?_
  exact zw_M_truth_50 X hR hF hret n s_1 a0 i3 hf
set_option maxHeartbeats 4000000 in
theorem zc_M_truth (l : Launch) (h0 : Nat) (D : va_G) (dA : Nat → ClassId) (tb : Nat → Nat) (n : Nat) {s0 : zh_S} {a0 : Nat} {i1 : Int32} {z : zh_S} (hf : zf_M_truth n s0 a0 i1 = some z) : zc_M l zn_M_truth zs_M_truth 2 47 h0 D dA tb [.ref (h0 + a0), .int i1] s0 none z := by
  rw [zf_M_truth] at hf
  refine zc_of (cc := ze_M_truth) (maxL := 4) (ret := none) (lv := [(0, .ref (h0 + a0)), (1, .int i1)]) (by decide) rfl (Nat.le_of_ble_eq_true rfl) rfl ?_
  intro p e s m args below meth c X hnm
  obtain ⟨hx, hb, hml, hown, htT, hrt, hlk, x00, hIn⟩ := id X
  have hK := hIn.2.1
  have hT := hIn.2.2.1
  have hNe := hIn.2.2.2
  have hR : zg_R { frames := 2, cells := zh_N z - zh_N s0, slots := zh_M z - zh_M s0, locals := 47 } (zh_N s0) (zh_M s0) z := ⟨by show zh_N z ≤ zh_N s0 + (zh_N z - zh_N s0); omega, by show zh_M z ≤ zh_M s0 + (zh_M z - zh_M s0); omega⟩
  have hF : 2 ≤ ({ frames := 2, cells := zh_N z - zh_N s0, slots := zh_M z - zh_M s0, locals := 47 } : Room).frames ∧ 47 ≤ ({ frames := 2, cells := zh_N z - zh_N s0, slots := zh_M z - zh_M s0, locals := 47 } : Room).locals := ⟨Nat.le_refl _, Nat.le_refl _⟩
  have hret := fun (pc : Nat) (lv : List (Nat × Value)) (hd : decode ze_M_truth pc = .ok (.return_, 1)) => zg_vret (R := { frames := 2, cells := zh_N z - zh_N s0, slots := zh_M z - zh_M s0, locals := 47 }) (l := l) (e := e) (below := below) (c0 := zh_N s0) (s0 := zh_M s0) (z := z) (lv := lv) X hd
  refine zg_1 (pc' := 1) (fun _ _ _ _ _ hl w => lv_aload_n hx hb zd_M_truth_0 rfl (lv_at hl 0 rfl) w) ?_
  obtain ⟨h_1, hf⟩ := zx_ck hf
  refine zg_get (pc' := 4) (ci := 8) hx hb htT zi_M hown hK h_1 rfl rfl 9 (by decide) (htT _ zt_814) (fun _ h9 => h9) rfl zd_M_truth_1 rfl ?_
  obtain ⟨i_2, e_i_2, hf⟩ := zx_l hf
  refine zg_ti e_i_2 ?_
  refine zg_s (pc' := 5) (lv' := [(2, .int i_2), (0, .ref (h0 + a0)), (1, .int i1)]) (fun _ _ _ _ _ hl w => lv_istore_n hx hb zd_M_truth_4 rfl hl (by decide) rfl w) ?_
  refine zg_1 (pc' := 6) (fun _ _ _ _ _ hl w => lv_aload_n hx hb zd_M_truth_5 rfl (lv_at hl 1 rfl) w) ?_
  refine zg_1 (pc' := 7) (fun _ _ _ _ _ hl w => lv_iconst (v := (1 : Int32)) hx hb zd_M_truth_6 (by decide) w) ?_
  refine zg_1 (pc' := 8) (fun _ _ _ _ _ hl w => lv_iload_n hx hb zd_M_truth_7 rfl (lv_at hl 2 rfl) w) ?_
  obtain ⟨i_4, s_3, hq, hf⟩ := zx_b hf
  refine zg_call (pc' := 11) (y := s_3) (rv := (some (.int i_4))) (rest := []) X hR (zm_M_head hq) (fun H locs ls k j hsz hI hU hk => va_runV (As := [.int (1 : Int32), .int i1]) (rest := []) ⟨hx, hb, hml, hown, htT⟩ (zc_M_head l h0 D dA tb n hq) (cwV 2 htT (zw_gV zt_1007 zt_1009 zt_40 zt_71 zt_1010) rfl rfl rfl (by decide +kernel) ⟨Nat.le_trans (Nat.le_of_ble_eq_true rfl) hF.1, Nat.le_trans (Nat.le_of_ble_eq_true rfl) hF.2⟩) ⟨(zg_pre hU).1, zg_recv hK hI h_1 rfl, (zg_pre hU).2⟩ rfl rfl hsz rfl (lv_room (Nat.le_of_ble_eq_true rfl)) zd_M_truth_8 hk) rfl ?_
  refine zg_s (pc' := 12) (lv' := [(3, .int i_4), (2, .int i_2), (0, .ref (h0 + a0)), (1, .int i1)]) (fun _ _ _ _ _ hl w => lv_istore_n hx hb zd_M_truth_11 rfl hl (by decide) rfl w) ?_
  refine zg_1 (pc' := 13) (fun _ _ _ _ _ hl w => lv_aload_n hx hb zd_M_truth_12 rfl (lv_at hl 2 rfl) w) ?_
  obtain ⟨h_5, hf⟩ := zx_ck hf
  refine zg_get (pc' := 16) (ci := 8) hx hb htT zi_M hown hK h_5 rfl rfl 10 (by decide) (htT _ zt_815) (fun _ h9 => h9) rfl zd_M_truth_13 rfl ?_
  refine zg_2 (pc1 := 50) (pc2 := 19) (Classical.em _).symm (fun _ _ _ _ _ w1 w2 => lv_if_ne hx hb zd_M_truth_16 (by decide) w1 w2) (fun hc => ?_) (fun hc => ?_)
  · rw [if_neg hc] at hf
    refine zg_v [2, 0] rfl ?_
    exact zw_M_truth_50 X hR hF hret n s_3 a0 i_4 hf
  · rw [if_pos hc] at hf
    refine zg_1 (pc' := 20) (fun _ _ _ _ _ hl w => lv_iload_n hx hb zd_M_truth_19 rfl (lv_at hl 0 rfl) w) ?_
    refine zg_1 (pc' := 21) (fun _ _ _ _ _ hl w => lv_aload_n hx hb zd_M_truth_20 rfl (lv_at hl 2 rfl) w) ?_
    refine zg_get (pc' := 24) (ci := 8) hx hb htT zi_M hown hK h_5 rfl rfl 9 (by decide) (htT _ zt_814) (fun _ h9 => h9) rfl zd_M_truth_21 rfl ?_
    refine zg_1 (pc' := 25) (fun _ _ _ _ _ hl w => lv_isub hx hb zd_M_truth_24 w) ?_
    refine zg_1 (pc' := 26) (fun _ _ _ _ _ hl w => lv_iconst (v := (1 : Int32)) hx hb zd_M_truth_25 (by decide) w) ?_
    refine zg_2 (pc1 := 44) (pc2 := 29) (Classical.em _).symm (fun _ _ _ _ _ w1 w2 => lv_icmp_ne hx hb zd_M_truth_26 (by decide) w1 w2) (fun hc => ?_) (fun hc => ?_)
    · rw [if_neg hc] at hf
      refine zg_v [2, 1, 0] rfl ?_
      exact zw_M_truth_44 X hR hF hret n s_3 a0 i_2 i_4 hf
    · rw [if_pos hc] at hf
      refine zg_1 (pc' := 30) (fun _ _ _ _ _ hl w => lv_aload_n hx hb zd_M_truth_29 rfl (lv_at hl 2 rfl) w) ?_
      obtain ⟨a_6, h_7, hf⟩ := zx_p hf
      refine zg_get (pc' := 33) (ci := 8) hx hb htT zi_M hown hK h_5 rfl rfl 0 (by decide) (htT _ zt_805) (fun _ h9 => h9) (zx_hv h_7) zd_M_truth_30 rfl ?_
      refine zg_1 (pc' := 34) (fun _ _ _ _ _ hl w => lv_aload_n hx hb zd_M_truth_33 rfl (lv_at hl 2 rfl) w) ?_
      refine zg_get (pc' := 37) (ci := 8) hx hb htT zi_M hown hK h_5 rfl rfl 9 (by decide) (htT _ zt_814) (fun _ h9 => h9) rfl zd_M_truth_34 rfl ?_
      obtain ⟨h_8, hf⟩ := zx_ck hf
      refine zg_iald (pc' := 38) hx hb hK h_8 zd_M_truth_37 rfl ?_
      refine zg_1 (pc' := 41) (fun _ _ _ _ _ hl w => lv_sipush (v := (255 : Int32)) hx hb zd_M_truth_38 (by decide) w) ?_
      refine zg_2 (pc1 := 50) (pc2 := 44) (Classical.em _) (fun _ _ _ _ _ w1 w2 => lv_icmp_eq hx hb zd_M_truth_41 (by decide) w1 w2) (fun hc => ?_) (fun hc => ?_)
      · rw [if_pos hc] at hf
        refine zg_v [2, 0] rfl ?_
        exact zw_M_truth_50 X hR hF hret n s_3 a0 i_4 hf
      · rw [if_neg hc] at hf
        refine zg_v [2, 1, 0] rfl ?_
        exact zw_M_truth_44 X hR hF hret n s_3 a0 i_2 i_4 hf
set_option maxHeartbeats 4000000 in
theorem zw_M_basic_87 {p : Program} {l : Launch} {e : Env} {R : Room} {s : State} {m : MethodId} {args : Array Value} {below : List Frame} {meth : Method} {c : Code} {Q : State → Prop} {h0 : Nat} {D : va_G} {dA : Nat → ClassId} {tb : Nat → Nat} {c0 k0 : Nat} {z : zh_S} (X : zg_X p s m args meth c ze_M_basic 3 zr_M none h0 D dA tb) (hR : zg_R R c0 k0 z) (hF : 3 ≤ R.frames ∧ 75 ≤ R.locals) (hret : ∀ (pc : Nat) (lv : List (Nat × Value)), decode ze_M_basic pc = .ok (.return_, 1) → zg_G p l e R s m args below meth c Q h0 D dA 3 c0 k0 z z pc lv []) (n : Nat) : ∀ (s0 : zh_S) (a0 : Nat) (i2 : Int32), zb_M_basic_87 n s0 a0 i2 = some z → zg_G p l e R s m args below meth c Q h0 D dA 3 c0 k0 z s0 87 [(0, .ref (h0 + a0)), (2, .int i2)] [] := by
  obtain ⟨hx, hb, hml, hown, htT, hrt, hlk, x00, hIn⟩ := id X
  have hK := hIn.2.1
  have hT := hIn.2.2.1
  have hNe := hIn.2.2.2
  intro s0 a0 i2 hf
  rw [zb_M_basic_87] at hf
  refine zg_1 (pc' := 88) (fun _ _ _ _ _ hl w => lv_aload_n hx hb zd_M_basic_87 rfl (lv_at hl 0 rfl) w) ?_
  refine zg_1 (pc' := 89) (fun _ _ _ _ _ hl w => lv_iload_n hx hb zd_M_basic_88 rfl (lv_at hl 1 rfl) w) ?_
  obtain ⟨h_2, hf⟩ := zx_ck hf
  obtain ⟨s_1, hq, hf⟩ := zx_p hf
  refine zg_call (pc' := 92) (y := s_1) (rv := none) (rest := []) X hR (zm_M_done hq) (fun H locs ls k j hsz hI hU hk => va_runV (As := [.int i2]) (rest := []) ⟨hx, hb, hml, hown, htT⟩ (zc_M_done l h0 D dA tb n hq) (cwV 1 htT (zw_gV zt_1041 zt_1043 zt_48 zt_71 zt_1044) rfl rfl rfl (by decide +kernel) ⟨Nat.le_trans (Nat.le_of_ble_eq_true rfl) hF.1, Nat.le_trans (Nat.le_of_ble_eq_true rfl) hF.2⟩) ⟨(zg_pre hU).1, zg_recv hK hI h_2 rfl, (zg_pre hU).2⟩ rfl rfl hsz rfl (lv_room (Nat.le_of_ble_eq_true rfl)) zd_M_basic_89 hk) rfl ?_
  obtain rfl := zx_r1 hf
  exact hret _ _ zd_M_basic_92
set_option maxHeartbeats 4000000 in
theorem zc_M_basic (l : Launch) (h0 : Nat) (D : va_G) (dA : Nat → ClassId) (tb : Nat → Nat) (n : Nat) {s0 : zh_S} {a0 : Nat} {i1 : Int32} {z : zh_S} (hf : zf_M_basic n s0 a0 i1 = some z) : zc_M l zn_M_basic zs_M_basic 3 75 h0 D dA tb [.ref (h0 + a0), .int i1] s0 none z := by
  rw [zf_M_basic] at hf
  refine zc_of (cc := ze_M_basic) (maxL := 3) (ret := none) (lv := [(0, .ref (h0 + a0)), (1, .int i1)]) (by decide) rfl (Nat.le_of_ble_eq_true rfl) rfl ?_
  intro p e s m args below meth c X hnm
  obtain ⟨hx, hb, hml, hown, htT, hrt, hlk, x00, hIn⟩ := id X
  have hK := hIn.2.1
  have hT := hIn.2.2.1
  have hNe := hIn.2.2.2
  have hR : zg_R { frames := 3, cells := zh_N z - zh_N s0, slots := zh_M z - zh_M s0, locals := 75 } (zh_N s0) (zh_M s0) z := ⟨by show zh_N z ≤ zh_N s0 + (zh_N z - zh_N s0); omega, by show zh_M z ≤ zh_M s0 + (zh_M z - zh_M s0); omega⟩
  have hF : 3 ≤ ({ frames := 3, cells := zh_N z - zh_N s0, slots := zh_M z - zh_M s0, locals := 75 } : Room).frames ∧ 75 ≤ ({ frames := 3, cells := zh_N z - zh_N s0, slots := zh_M z - zh_M s0, locals := 75 } : Room).locals := ⟨Nat.le_refl _, Nat.le_refl _⟩
  have hret := fun (pc : Nat) (lv : List (Nat × Value)) (hd : decode ze_M_basic pc = .ok (.return_, 1)) => zg_vret (R := { frames := 3, cells := zh_N z - zh_N s0, slots := zh_M z - zh_M s0, locals := 75 }) (l := l) (e := e) (below := below) (c0 := zh_N s0) (s0 := zh_M s0) (z := z) (lv := lv) X hd
  refine zg_1 (pc' := 1) (fun _ _ _ _ _ hl w => lv_aload_n hx hb zd_M_basic_0 rfl (lv_at hl 0 rfl) w) ?_
  refine zg_1 (pc' := 3) (fun _ _ _ _ _ hl w => lv_bipush (v := (48 : Int32)) hx hb zd_M_basic_1 (by decide) w) ?_
  refine zg_1 (pc' := 4) (fun _ _ _ _ _ hl w => lv_iload_n hx hb zd_M_basic_3 rfl (lv_at hl 1 rfl) w) ?_
  obtain ⟨h_2, hf⟩ := zx_ck hf
  obtain ⟨i_3, s_1, hq, hf⟩ := zx_b hf
  refine zg_call (pc' := 7) (y := s_1) (rv := (some (.int i_3))) (rest := []) X hR (zm_M_head hq) (fun H locs ls k j hsz hI hU hk => va_runV (As := [.int (48 : Int32), .int i1]) (rest := []) ⟨hx, hb, hml, hown, htT⟩ (zc_M_head l h0 D dA tb n hq) (cwV 2 htT (zw_gV zt_1007 zt_1009 zt_40 zt_71 zt_1010) rfl rfl rfl (by decide +kernel) ⟨Nat.le_trans (Nat.le_of_ble_eq_true rfl) hF.1, Nat.le_trans (Nat.le_of_ble_eq_true rfl) hF.2⟩) ⟨(zg_pre hU).1, zg_recv hK hI h_2 rfl, (zg_pre hU).2⟩ rfl rfl hsz rfl (lv_room (Nat.le_of_ble_eq_true rfl)) zd_M_basic_4 hk) rfl ?_
  refine zg_s (pc' := 8) (lv' := [(2, .int i_3), (0, .ref (h0 + a0)), (1, .int i1)]) (fun _ _ _ _ _ hl w => lv_istore_n hx hb zd_M_basic_7 rfl hl (by decide) rfl w) ?_
  refine zg_1 (pc' := 9) (fun _ _ _ _ _ hl w => lv_aload_n hx hb zd_M_basic_8 rfl (lv_at hl 1 rfl) w) ?_
  obtain ⟨h_4, hf⟩ := zx_ck hf
  refine zg_get (pc' := 12) (ci := 8) hx hb htT zi_M hown hK h_4 rfl rfl 10 (by decide) (htT _ zt_815) (fun _ h9 => h9) rfl zd_M_basic_9 rfl ?_
  refine zg_2 (pc1 := 16) (pc2 := 15) (Classical.em _) (fun _ _ _ _ _ w1 w2 => lv_if_eq hx hb zd_M_basic_12 (by decide) w1 w2) (fun hc => ?_) (fun hc => ?_)
  · rw [if_pos hc] at hf
    refine zg_1 (pc' := 17) (fun _ _ _ _ _ hl w => lv_aload_n hx hb zd_M_basic_16 rfl (lv_at hl 1 rfl) w) ?_
    obtain ⟨a_5, h_6, hf⟩ := zx_p hf
    refine zg_get (pc' := 20) (ci := 8) hx hb htT zi_M hown hK h_4 rfl rfl 11 (by decide) (htT _ zt_816) (fun _ h9 => h9) (zx_hv h_6) zd_M_basic_17 rfl ?_
    refine zg_1 (pc' := 22) (fun _ _ _ _ _ hl w => lv_bipush (v := (14 : Int32)) hx hb zd_M_basic_20 (by decide) w) ?_
    refine zg_1 (pc' := 23) (fun _ _ _ _ _ hl w => lv_aload_n hx hb zd_M_basic_22 rfl (lv_at hl 1 rfl) w) ?_
    obtain ⟨a_7, h_8, hf⟩ := zx_p hf
    refine zg_get (pc' := 26) (ci := 8) hx hb htT zi_M hown hK h_4 rfl rfl 11 (by decide) (htT _ zt_816) (fun _ h9 => h9) (zx_hv h_8) zd_M_basic_23 rfl ?_
    refine zg_1 (pc' := 28) (fun _ _ _ _ _ hl w => lv_bipush (v := (14 : Int32)) hx hb zd_M_basic_26 (by decide) w) ?_
    obtain ⟨h_9, hf⟩ := zx_ck hf
    refine zg_lald (pc' := 29) hx hb hK h_9 zd_M_basic_28 rfl ?_
    refine zg_1 (pc' := 32) (fun _ _ _ _ _ hl w => lv_ldc2 (v := (2 : Int64)) hx hb hown (htT _ zt_906) zd_M_basic_29 w) ?_
    refine zg_1 (pc' := 33) (fun _ _ _ _ _ hl w => lv_lor hx hb zd_M_basic_32 w) ?_
    obtain ⟨h_11, hf⟩ := zx_ck hf
    obtain ⟨s_10, e_s_10, hf⟩ := zx_l hf
    refine zg_last (pc' := 34) hx hb hK h_11 e_s_10 zd_M_basic_33 rfl ?_
    refine zg_1 (pc' := 35) (fun _ _ _ _ _ hl w => lv_aload_n hx hb zd_M_basic_34 rfl (lv_at hl 1 rfl) w) ?_
    refine zg_1 (pc' := 36) (fun _ _ _ _ _ hl w => lv_iconst (v := (1 : Int32)) hx hb zd_M_basic_35 (by decide) w) ?_
    refine zg_1 (pc' := 37) (fun _ _ _ _ _ hl w => lv_iload_n hx hb zd_M_basic_36 rfl (lv_at hl 0 rfl) w) ?_
    obtain ⟨h_12, hf⟩ := zx_ck hf
    obtain ⟨i_13, hq, hf⟩ := zx_p hf
    refine zg_call (pc' := 40) (y := s_10) (rv := (some (.int i_13))) (rest := []) X hR ⟨Nat.le_refl _, Nat.le_refl _⟩ (fun H locs ls k j hsz hI hU hk => va_runV (As := [.int (1 : Int32), .int i_3]) (rest := []) ⟨hx, hb, hml, hown, htT⟩ (zc_M_next l h0 D dA tb n hq) (cwV 2 htT (zw_gV zt_1024 zt_1026 zt_44 zt_71 zt_1027) rfl rfl rfl (by decide +kernel) ⟨Nat.le_trans (Nat.le_of_ble_eq_true rfl) hF.1, Nat.le_trans (Nat.le_of_ble_eq_true rfl) hF.2⟩) ⟨(zg_pre hU).1, zg_recv hK hI h_12 rfl, (zg_pre hU).2⟩ rfl rfl hsz rfl (lv_room (Nat.le_of_ble_eq_true rfl)) zd_M_basic_37 hk) rfl ?_
    refine zg_2 (pc1 := 87) (pc2 := 43) (Classical.em _) (fun _ _ _ _ _ w1 w2 => lv_if_eq hx hb zd_M_basic_40 (by decide) w1 w2) (fun hc => ?_) (fun hc => ?_)
    · rw [if_pos hc] at hf
      refine zg_v [1, 0] rfl ?_
      exact zw_M_basic_87 X hR hF hret n s_10 a0 i_3 hf
    · rw [if_neg hc] at hf
      refine zg_1 (pc' := 44) (fun _ _ _ _ _ hl w => lv_aload_n hx hb zd_M_basic_43 rfl (lv_at hl 1 rfl) w) ?_
      refine zg_1 (pc' := 45) (fun _ _ _ _ _ hl w => lv_iload_n hx hb zd_M_basic_44 rfl (lv_at hl 0 rfl) w) ?_
      obtain ⟨s_14, hq, hf⟩ := zx_p hf
      refine zg_call (pc' := 48) (y := s_14) (rv := none) (rest := []) X hR (zm_M_truth hq) (fun H locs ls k j hsz hI hU hk => va_runV (As := [.int i_3]) (rest := []) ⟨hx, hb, hml, hown, htT⟩ (zc_M_truth l h0 D dA tb n hq) (cwV 1 htT (zw_gV zt_1032 zt_1034 zt_46 zt_71 zt_1035) rfl rfl rfl (by decide +kernel) ⟨Nat.le_trans (Nat.le_of_ble_eq_true rfl) hF.1, Nat.le_trans (Nat.le_of_ble_eq_true rfl) hF.2⟩) ⟨(zg_pre hU).1, zg_recv hK hI h_12 rfl, (zg_pre hU).2⟩ rfl rfl hsz rfl (lv_room (Nat.le_of_ble_eq_true rfl)) zd_M_basic_45 hk) rfl ?_
      refine zg_1 (pc' := 49) (fun _ _ _ _ _ hl w => lv_aload_n hx hb zd_M_basic_48 rfl (lv_at hl 1 rfl) w) ?_
      obtain ⟨h_15, hf⟩ := zx_ck hf
      obtain ⟨a_16, h_17, hf⟩ := zx_p hf
      refine zg_get (pc' := 52) (ci := 8) hx hb htT zi_M hown hK h_15 rfl rfl 11 (by decide) (htT _ zt_816) (fun _ h9 => h9) (zx_hv h_17) zd_M_basic_49 rfl ?_
      refine zg_1 (pc' := 54) (fun _ _ _ _ _ hl w => lv_bipush (v := (14 : Int32)) hx hb zd_M_basic_52 (by decide) w) ?_
      refine zg_1 (pc' := 55) (fun _ _ _ _ _ hl w => lv_aload_n hx hb zd_M_basic_54 rfl (lv_at hl 1 rfl) w) ?_
      obtain ⟨a_18, h_19, hf⟩ := zx_p hf
      refine zg_get (pc' := 58) (ci := 8) hx hb htT zi_M hown hK h_15 rfl rfl 11 (by decide) (htT _ zt_816) (fun _ h9 => h9) (zx_hv h_19) zd_M_basic_55 rfl ?_
      refine zg_1 (pc' := 60) (fun _ _ _ _ _ hl w => lv_bipush (v := (14 : Int32)) hx hb zd_M_basic_58 (by decide) w) ?_
      obtain ⟨h_20, hf⟩ := zx_ck hf
      refine zg_lald (pc' := 61) hx hb hK h_20 zd_M_basic_60 rfl ?_
      refine zg_1 (pc' := 64) (fun _ _ _ _ _ hl w => lv_ldc2 (v := (4 : Int64)) hx hb hown (htT _ zt_1040) zd_M_basic_61 w) ?_
      refine zg_1 (pc' := 65) (fun _ _ _ _ _ hl w => lv_lor hx hb zd_M_basic_64 w) ?_
      obtain ⟨h_22, hf⟩ := zx_ck hf
      obtain ⟨s_21, e_s_21, hf⟩ := zx_l hf
      refine zg_last (pc' := 66) hx hb hK h_22 e_s_21 zd_M_basic_65 rfl ?_
      refine zg_1 (pc' := 67) (fun _ _ _ _ _ hl w => lv_aload_n hx hb zd_M_basic_66 rfl (lv_at hl 1 rfl) w) ?_
      refine zg_1 (pc' := 68) (fun _ _ _ _ _ hl w => lv_iconst (v := (2 : Int32)) hx hb zd_M_basic_67 (by decide) w) ?_
      refine zg_1 (pc' := 69) (fun _ _ _ _ _ hl w => lv_iload_n hx hb zd_M_basic_68 rfl (lv_at hl 0 rfl) w) ?_
      obtain ⟨h_23, hf⟩ := zx_ck hf
      obtain ⟨i_24, hq, hf⟩ := zx_p hf
      refine zg_call (pc' := 72) (y := s_21) (rv := (some (.int i_24))) (rest := []) X hR ⟨Nat.le_refl _, Nat.le_refl _⟩ (fun H locs ls k j hsz hI hU hk => va_runV (As := [.int (2 : Int32), .int i_3]) (rest := []) ⟨hx, hb, hml, hown, htT⟩ (zc_M_next l h0 D dA tb n hq) (cwV 2 htT (zw_gV zt_1024 zt_1026 zt_44 zt_71 zt_1027) rfl rfl rfl (by decide +kernel) ⟨Nat.le_trans (Nat.le_of_ble_eq_true rfl) hF.1, Nat.le_trans (Nat.le_of_ble_eq_true rfl) hF.2⟩) ⟨(zg_pre hU).1, zg_recv hK hI h_23 rfl, (zg_pre hU).2⟩ rfl rfl hsz rfl (lv_room (Nat.le_of_ble_eq_true rfl)) zd_M_basic_69 hk) rfl ?_
      refine zg_2 (pc1 := 87) (pc2 := 75) (Classical.em _) (fun _ _ _ _ _ w1 w2 => lv_if_eq hx hb zd_M_basic_72 (by decide) w1 w2) (fun hc => ?_) (fun hc => ?_)
      · rw [if_pos hc] at hf
        refine zg_v [1, 0] rfl ?_
        exact zw_M_basic_87 X hR hF hret n s_21 a0 i_3 hf
      · rw [if_neg hc] at hf
        refine zg_1 (pc' := 76) (fun _ _ _ _ _ hl w => lv_aload_n hx hb zd_M_basic_75 rfl (lv_at hl 1 rfl) w) ?_
        obtain ⟨a_25, h_26, hf⟩ := zx_p hf
        refine zg_get (pc' := 79) (ci := 8) hx hb htT zi_M hown hK h_23 rfl rfl 11 (by decide) (htT _ zt_816) (fun _ h9 => h9) (zx_hv h_26) zd_M_basic_76 rfl ?_
        refine zg_1 (pc' := 81) (fun _ _ _ _ _ hl w => lv_bipush (v := (9 : Int32)) hx hb zd_M_basic_79 (by decide) w) ?_
        refine zg_1 (pc' := 82) (fun _ _ _ _ _ hl w => lv_aload_n hx hb zd_M_basic_81 rfl (lv_at hl 1 rfl) w) ?_
        refine zg_1 (pc' := 83) (fun _ _ _ _ _ hl w => lv_iload_n hx hb zd_M_basic_82 rfl (lv_at hl 0 rfl) w) ?_
        obtain ⟨j_28, s_27, hq, hf⟩ := zx_b hf
        refine zg_call (pc' := 86) (y := s_27) (rv := (some (.long j_28))) (rest := [.int (9 : Int32), .ref (h0 + a_25)]) X hR (zm_M_number hq) (fun H locs ls k j hsz hI hU hk => va_runV (As := [.int i_3]) (rest := [.int (9 : Int32), .ref (h0 + a_25)]) ⟨hx, hb, hml, hown, htT⟩ (zc_M_number l h0 D dA tb n hq) (cwV 1 htT (zw_gV zt_1015 zt_1017 zt_42 zt_71 zt_1018) rfl rfl rfl (by decide +kernel) ⟨Nat.le_trans (Nat.le_of_ble_eq_true rfl) hF.1, Nat.le_trans (Nat.le_of_ble_eq_true rfl) hF.2⟩) ⟨(zg_pre hU).1, zg_recv hK hI h_23 rfl, (zg_pre hU).2⟩ rfl rfl hsz rfl (lv_room (Nat.le_of_ble_eq_true rfl)) zd_M_basic_83 hk) rfl ?_
        obtain ⟨h_30, hf⟩ := zx_ck hf
        obtain ⟨s_29, e_s_29, hf⟩ := zx_l hf
        refine zg_last (pc' := 87) hx hb hK h_30 e_s_29 zd_M_basic_86 rfl ?_
        refine zg_v [1, 0] rfl ?_
        exact zw_M_basic_87 X hR hF hret n s_29 a0 i_3 hf
  · rw [if_neg hc] at hf
    obtain rfl := zx_r1 hf
    exact hret _ _ zd_M_basic_15
set_option maxHeartbeats 4000000 in
theorem zw_M_extension_232 {p : Program} {l : Launch} {e : Env} {R : Room} {s : State} {m : MethodId} {args : Array Value} {below : List Frame} {meth : Method} {c : Code} {Q : State → Prop} {h0 : Nat} {D : va_G} {dA : Nat → ClassId} {tb : Nat → Nat} {c0 k0 : Nat} {z : zh_S} {r : Int64} (X : zg_X p s m args meth c ze_M_extension 11 zr_M (some .long) h0 D dA tb) (hR : zg_R R c0 k0 z) (hF : 4 ≤ R.frames ∧ 101 ≤ R.locals) (hret : ∀ (pc : Nat) (lv : List (Nat × Value)), decode ze_M_extension pc = .ok (.lreturn, 1) → zg_G p l e R s m args below meth c Q h0 D dA 11 c0 k0 z z pc lv [.long r]) (n : Nat) : ∀ (s0 : zh_S) (a0 : Nat) (i4 : Int32) (j6 : Int64), zb_M_extension_232 n s0 a0 i4 j6 = some (r, z) → zg_G p l e R s m args below meth c Q h0 D dA 11 c0 k0 z s0 232 [(0, .ref (h0 + a0)), (4, .int i4), (6, .long j6)] [] := by
  obtain ⟨hx, hb, hml, hown, htT, hrt, hlk, x00, hIn⟩ := id X
  have hK := hIn.2.1
  have hT := hIn.2.2.1
  have hNe := hIn.2.2.2
  intro s0 a0 i4 j6 hf
  rw [zb_M_extension_232] at hf
  refine zg_1 (pc' := 233) (fun _ _ _ _ _ hl w => lv_aload_n hx hb zd_M_extension_232 rfl (lv_at hl 0 rfl) w) ?_
  refine zg_1 (pc' := 235) (fun _ _ _ _ _ hl w => lv_iload hx hb zd_M_extension_233 (lv_at hl 1 rfl) w) ?_
  obtain ⟨h_2, hf⟩ := zx_ck hf
  obtain ⟨s_1, hq, hf⟩ := zx_p hf
  refine zg_call (pc' := 238) (y := s_1) (rv := none) (rest := []) X hR (zm_M_done hq) (fun H locs ls k j hsz hI hU hk => va_runV (As := [.int i4]) (rest := []) ⟨hx, hb, hml, hown, htT⟩ (zc_M_done l h0 D dA tb n hq) (cwV 1 htT (zw_gV zt_1041 zt_1043 zt_48 zt_71 zt_1044) rfl rfl rfl (by decide +kernel) ⟨Nat.le_trans (Nat.le_of_ble_eq_true rfl) hF.1, Nat.le_trans (Nat.le_of_ble_eq_true rfl) hF.2⟩) ⟨(zg_pre hU).1, zg_recv hK hI h_2 rfl, (zg_pre hU).2⟩ rfl rfl hsz rfl (lv_room (Nat.le_of_ble_eq_true rfl)) zd_M_extension_235 hk) rfl ?_
  refine zg_1 (pc' := 239) (fun _ _ _ _ _ hl w => lv_aload_n hx hb zd_M_extension_238 rfl (lv_at hl 0 rfl) w) ?_
  obtain ⟨h_3, hf⟩ := zx_ck hf
  obtain ⟨a_4, h_5, hf⟩ := zx_p hf
  refine zg_get (pc' := 242) (ci := 8) hx hb htT zi_M hown hK h_3 rfl rfl 11 (by decide) (htT _ zt_816) (fun _ h9 => h9) (zx_hv h_5) zd_M_extension_239 rfl ?_
  refine zg_1 (pc' := 244) (fun _ _ _ _ _ hl w => lv_bipush (v := (13 : Int32)) hx hb zd_M_extension_242 (by decide) w) ?_
  refine zg_1 (pc' := 245) (fun _ _ _ _ _ hl w => lv_dup2_11 hx hb zd_M_extension_244 rfl rfl w) ?_
  obtain ⟨h_6, hf⟩ := zx_ck hf
  refine zg_lald (pc' := 246) hx hb hK h_6 zd_M_extension_245 rfl ?_
  refine zg_1 (pc' := 247) (fun _ _ _ _ _ hl w => lv_lconst (v := (1 : Int64)) hx hb zd_M_extension_246 (by decide) w) ?_
  refine zg_1 (pc' := 248) (fun _ _ _ _ _ hl w => lv_ladd hx hb zd_M_extension_247 w) ?_
  obtain ⟨h_8, hf⟩ := zx_ck hf
  obtain ⟨s_7, e_s_7, hf⟩ := zx_l hf
  refine zg_last (pc' := 249) hx hb hK h_8 e_s_7 zd_M_extension_248 rfl ?_
  refine zg_1 (pc' := 251) (fun _ _ _ _ _ hl w => lv_lload hx hb zd_M_extension_249 (lv_at hl 2 rfl) w) ?_
  obtain ⟨rfl, rfl⟩ := zx_r2 hf
  exact hret _ _ zd_M_extension_251
set_option maxHeartbeats 4000000 in
theorem zw_M_extension_231 {p : Program} {l : Launch} {e : Env} {R : Room} {s : State} {m : MethodId} {args : Array Value} {below : List Frame} {meth : Method} {c : Code} {Q : State → Prop} {h0 : Nat} {D : va_G} {dA : Nat → ClassId} {tb : Nat → Nat} {c0 k0 : Nat} {z : zh_S} {r : Int64} (X : zg_X p s m args meth c ze_M_extension 11 zr_M (some .long) h0 D dA tb) (hR : zg_R R c0 k0 z) (hF : 4 ≤ R.frames ∧ 101 ≤ R.locals) (hret : ∀ (pc : Nat) (lv : List (Nat × Value)), decode ze_M_extension pc = .ok (.lreturn, 1) → zg_G p l e R s m args below meth c Q h0 D dA 11 c0 k0 z z pc lv [.long r]) (n : Nat) : ∀ (s0 : zh_S) (a0 : Nat) (i4 : Int32) (j6 : Int64) (at0 : Nat) (it1 : Int32) (jt2 : Int64), zb_M_extension_231 n s0 a0 i4 j6 at0 it1 jt2 = some (r, z) → zg_G p l e R s m args below meth c Q h0 D dA 11 c0 k0 z s0 231 [(0, .ref (h0 + a0)), (4, .int i4), (6, .long j6)] [.long jt2, .int it1, .ref (h0 + at0)] := by
  obtain ⟨hx, hb, hml, hown, htT, hrt, hlk, x00, hIn⟩ := id X
  have hK := hIn.2.1
  have hT := hIn.2.2.1
  have hNe := hIn.2.2.2
  intro s0 a0 i4 j6 at0 it1 jt2 hf
  rw [zb_M_extension_231] at hf
  obtain ⟨h_2, hf⟩ := zx_ck hf
  obtain ⟨s_1, e_s_1, hf⟩ := zx_l hf
  refine zg_last (pc' := 232) hx hb hK h_2 e_s_1 zd_M_extension_231 rfl ?_
  exact zw_M_extension_232 X hR hF hret n s_1 a0 i4 j6 hf
set_option maxHeartbeats 4000000 in
theorem zw_M_extension_196 {p : Program} {l : Launch} {e : Env} {R : Room} {s : State} {m : MethodId} {args : Array Value} {below : List Frame} {meth : Method} {c : Code} {Q : State → Prop} {h0 : Nat} {D : va_G} {dA : Nat → ClassId} {tb : Nat → Nat} {c0 k0 : Nat} {z : zh_S} {r : Int64} (X : zg_X p s m args meth c ze_M_extension 11 zr_M (some .long) h0 D dA tb) (hR : zg_R R c0 k0 z) (hF : 4 ≤ R.frames ∧ 101 ≤ R.locals) (hret : ∀ (pc : Nat) (lv : List (Nat × Value)), decode ze_M_extension pc = .ok (.lreturn, 1) → zg_G p l e R s m args below meth c Q h0 D dA 11 c0 k0 z z pc lv [.long r]) (n : Nat) : ∀ (s0 : zh_S) (a0 : Nat) (i4 : Int32) (j6 : Int64) (i8 : Int32) (at0 : Nat) (it1 : Int32), zb_M_extension_196 n s0 a0 i4 j6 i8 at0 it1 = some (r, z) → zg_G p l e R s m args below meth c Q h0 D dA 11 c0 k0 z s0 196 [(0, .ref (h0 + a0)), (4, .int i4), (6, .long j6), (8, .int i8)] [.int it1, .ref (h0 + at0)] := by
  obtain ⟨hx, hb, hml, hown, htT, hrt, hlk, x00, hIn⟩ := id X
  have hK := hIn.2.1
  have hT := hIn.2.2.1
  have hNe := hIn.2.2.2
  intro s0 a0 i4 j6 i8 at0 it1 hf
  rw [zb_M_extension_196] at hf
  obtain ⟨h_2, hf⟩ := zx_ck hf
  obtain ⟨s_1, e_s_1, hf⟩ := zx_l hf
  refine zg_putI (pc' := 199) (ci := 8) (ty := .int) hx hb htT zi_M zy_M zo_M zj_M hown hK h_2 rfl rfl 9 (by decide) (htT _ zt_814) (fun _ h9 => h9) (Or.inl rfl) (by decide +kernel) rfl rfl rfl e_s_1 zd_M_extension_196 rfl ?_
  refine zg_1 (pc' := 200) (fun _ _ _ _ _ hl w => lv_aload_n hx hb zd_M_extension_199 rfl (lv_at hl 0 rfl) w) ?_
  obtain ⟨h_3, hf⟩ := zx_ck hf
  obtain ⟨a_4, h_5, hf⟩ := zx_p hf
  refine zg_get (pc' := 203) (ci := 8) hx hb htT zi_M hown hK h_3 rfl rfl 11 (by decide) (htT _ zt_816) (fun _ h9 => h9) (zx_hv h_5) zd_M_extension_200 rfl ?_
  refine zg_1 (pc' := 205) (fun _ _ _ _ _ hl w => lv_bipush (v := (14 : Int32)) hx hb zd_M_extension_203 (by decide) w) ?_
  refine zg_1 (pc' := 207) (fun _ _ _ _ _ hl w => lv_iload hx hb zd_M_extension_205 (lv_at hl 3 rfl) w) ?_
  refine zg_2 (pc1 := 224) (pc2 := 210) (Classical.em _) (fun _ _ _ _ _ w1 w2 => lv_if_eq hx hb zd_M_extension_207 (by decide) w1 w2) (fun hc => ?_) (fun hc => ?_)
  · rw [if_pos hc] at hf
    refine zg_1 (pc' := 225) (fun _ _ _ _ _ hl w => lv_aload_n hx hb zd_M_extension_224 rfl (lv_at hl 0 rfl) w) ?_
    obtain ⟨a_6, h_7, hf⟩ := zx_p hf
    refine zg_get (pc' := 228) (ci := 8) hx hb htT zi_M hown hK h_3 rfl rfl 11 (by decide) (htT _ zt_816) (fun _ h9 => h9) (zx_hv h_7) zd_M_extension_225 rfl ?_
    refine zg_1 (pc' := 230) (fun _ _ _ _ _ hl w => lv_bipush (v := (14 : Int32)) hx hb zd_M_extension_228 (by decide) w) ?_
    obtain ⟨h_8, hf⟩ := zx_ck hf
    refine zg_lald (pc' := 231) hx hb hK h_8 zd_M_extension_230 rfl ?_
    refine zg_v [0, 1, 2] rfl ?_
    exact zw_M_extension_231 X hR hF hret n s_1 a0 i4 j6 a_4 (14 : Int32) (zh_J s_1 a_6 ((14 : Int32).toNatClampNeg)) hf
  · rw [if_neg hc] at hf
    refine zg_1 (pc' := 211) (fun _ _ _ _ _ hl w => lv_aload_n hx hb zd_M_extension_210 rfl (lv_at hl 0 rfl) w) ?_
    obtain ⟨a_9, h_10, hf⟩ := zx_p hf
    refine zg_get (pc' := 214) (ci := 8) hx hb htT zi_M hown hK h_3 rfl rfl 11 (by decide) (htT _ zt_816) (fun _ h9 => h9) (zx_hv h_10) zd_M_extension_211 rfl ?_
    refine zg_1 (pc' := 216) (fun _ _ _ _ _ hl w => lv_bipush (v := (14 : Int32)) hx hb zd_M_extension_214 (by decide) w) ?_
    obtain ⟨h_11, hf⟩ := zx_ck hf
    refine zg_lald (pc' := 217) hx hb hK h_11 zd_M_extension_216 rfl ?_
    refine zg_1 (pc' := 220) (fun _ _ _ _ _ hl w => lv_ldc2 (v := (8 : Int64)) hx hb hown (htT _ zt_1019) zd_M_extension_217 w) ?_
    refine zg_1 (pc' := 221) (fun _ _ _ _ _ hl w => lv_lor hx hb zd_M_extension_220 w) ?_
    refine zg_1 (pc' := 231) (fun _ _ _ _ _ hl w => lv_goto hx hb zd_M_extension_221 (by decide) w) ?_
    refine zg_v [0, 1, 2] rfl ?_
    exact zw_M_extension_231 X hR hF hret n s_1 a0 i4 j6 a_4 (14 : Int32) ((zh_J s_1 a_9 ((14 : Int32).toNatClampNeg)) ||| (8 : Int64)) hf
set_option maxHeartbeats 4000000 in
theorem zw_M_extension_64 {p : Program} {l : Launch} {e : Env} {R : Room} {s : State} {m : MethodId} {args : Array Value} {below : List Frame} {meth : Method} {c : Code} {Q : State → Prop} {h0 : Nat} {D : va_G} {dA : Nat → ClassId} {tb : Nat → Nat} {c0 k0 : Nat} {z : zh_S} {r : Int64} (X : zg_X p s m args meth c ze_M_extension 11 zr_M (some .long) h0 D dA tb) (hR : zg_R R c0 k0 z) (hF : 4 ≤ R.frames ∧ 101 ≤ R.locals) (hret : ∀ (pc : Nat) (lv : List (Nat × Value)), decode ze_M_extension pc = .ok (.lreturn, 1) → zg_G p l e R s m args below meth c Q h0 D dA 11 c0 k0 z z pc lv [.long r]) (n : Nat) : ∀ (s0 : zh_S) (a0 : Nat) (i4 : Int32) (j6 : Int64) (i8 : Int32), zb_M_extension_64 n s0 a0 i4 j6 i8 = some (r, z) → zg_G p l e R s m args below meth c Q h0 D dA 11 c0 k0 z s0 64 [(0, .ref (h0 + a0)), (4, .int i4), (6, .long j6), (8, .int i8)] [] := by
  obtain ⟨hx, hb, hml, hown, htT, hrt, hlk, x00, hIn⟩ := id X
  have hK := hIn.2.1
  have hT := hIn.2.2.1
  have hNe := hIn.2.2.2
  intro s0 a0 i4 j6 i8 hf
  rw [zb_M_extension_64] at hf
  refine zg_1 (pc' := 65) (fun _ _ _ _ _ hl w => lv_aload_n hx hb zd_M_extension_64 rfl (lv_at hl 0 rfl) w) ?_
  obtain ⟨h_1, hf⟩ := zx_ck hf
  refine zg_get (pc' := 68) (ci := 8) hx hb htT zi_M hown hK h_1 rfl rfl 10 (by decide) (htT _ zt_815) (fun _ h9 => h9) rfl zd_M_extension_65 rfl ?_
  refine zg_2 (pc1 := 74) (pc2 := 71) (Classical.em _) (fun _ _ _ _ _ w1 w2 => lv_if_eq hx hb zd_M_extension_68 (by decide) w1 w2) (fun hc => ?_) (fun hc => ?_)
  · rw [if_pos hc] at hf
    refine zg_1 (pc' := 75) (fun _ _ _ _ _ hl w => lv_aload_n hx hb zd_M_extension_74 rfl (lv_at hl 0 rfl) w) ?_
    refine zg_get (pc' := 78) (ci := 8) hx hb htT zi_M hown hK h_1 rfl rfl 9 (by decide) (htT _ zt_814) (fun _ h9 => h9) rfl zd_M_extension_75 rfl ?_
    obtain ⟨i_2, e_i_2, hf⟩ := zx_l hf
    refine zg_ti e_i_2 ?_
    refine zg_s (pc' := 80) (lv' := [(9, .int i_2), (0, .ref (h0 + a0)), (4, .int i4), (6, .long j6), (8, .int i8)]) (fun _ _ _ _ _ hl w => lv_istore hx hb zd_M_extension_78 hl (by decide) rfl w) ?_
    refine zg_1 (pc' := 82) (fun _ _ _ _ _ hl w => lv_lload hx hb zd_M_extension_80 (lv_at hl 3 rfl) w) ?_
    refine zg_1 (pc' := 83) (fun _ _ _ _ _ hl w => lv_lconst (v := (1 : Int64)) hx hb zd_M_extension_82 (by decide) w) ?_
    refine zg_1 (pc' := 84) (fun _ _ _ _ _ hl w => W.lcmp hx hb zd_M_extension_83 w) ?_
    refine zg_2 (pc1 := 96) (pc2 := 87) (Classical.em _).symm (fun _ _ _ _ _ w1 w2 => lv_if_ne hx hb zd_M_extension_84 (by decide) w1 w2) (fun hc => ?_) (fun hc => ?_)
    · rw [if_neg hc] at hf
      refine zg_1 (pc' := 98) (fun _ _ _ _ _ hl w => lv_lload hx hb zd_M_extension_96 (lv_at hl 3 rfl) w) ?_
      refine zg_1 (pc' := 101) (fun _ _ _ _ _ hl w => lv_ldc2 (v := (2 : Int64)) hx hb hown (htT _ zt_906) zd_M_extension_98 w) ?_
      refine zg_1 (pc' := 102) (fun _ _ _ _ _ hl w => W.lcmp hx hb zd_M_extension_101 w) ?_
      refine zg_2 (pc1 := 152) (pc2 := 105) (Classical.em _).symm (fun _ _ _ _ _ w1 w2 => lv_if_ne hx hb zd_M_extension_102 (by decide) w1 w2) (fun hc => ?_) (fun hc => ?_)
      · rw [if_neg hc] at hf
        refine zg_1 (pc' := 154) (fun _ _ _ _ _ hl w => lv_lload hx hb zd_M_extension_152 (lv_at hl 3 rfl) w) ?_
        refine zg_1 (pc' := 157) (fun _ _ _ _ _ hl w => lv_ldc2 (v := (3 : Int64)) hx hb hown (htT _ zt_791) zd_M_extension_154 w) ?_
        refine zg_1 (pc' := 158) (fun _ _ _ _ _ hl w => W.lcmp hx hb zd_M_extension_157 w) ?_
        refine zg_2 (pc1 := 170) (pc2 := 161) (Classical.em _).symm (fun _ _ _ _ _ w1 w2 => lv_if_ne hx hb zd_M_extension_158 (by decide) w1 w2) (fun hc => ?_) (fun hc => ?_)
        · rw [if_neg hc] at hf
          refine zg_1 (pc' := 171) (fun _ _ _ _ _ hl w => lv_aload_n hx hb zd_M_extension_170 rfl (lv_at hl 1 rfl) w) ?_
          refine zg_1 (pc' := 172) (fun _ _ _ _ _ hl w => lv_iconst (v := (4 : Int32)) hx hb zd_M_extension_171 (by decide) w) ?_
          refine zg_1 (pc' := 174) (fun _ _ _ _ _ hl w => lv_iload hx hb zd_M_extension_172 (lv_at hl 2 rfl) w) ?_
          obtain ⟨i_4, s_3, hq, hf⟩ := zx_b hf
          refine zg_call (pc' := 177) (y := s_3) (rv := (some (.int i_4))) (rest := []) X hR (zm_M_head hq) (fun H locs ls k j hsz hI hU hk => va_runV (As := [.int (4 : Int32), .int i4]) (rest := []) ⟨hx, hb, hml, hown, htT⟩ (zc_M_head l h0 D dA tb n hq) (cwV 2 htT (zw_gV zt_1007 zt_1009 zt_40 zt_71 zt_1010) rfl rfl rfl (by decide +kernel) ⟨Nat.le_trans (Nat.le_of_ble_eq_true rfl) hF.1, Nat.le_trans (Nat.le_of_ble_eq_true rfl) hF.2⟩) ⟨(zg_pre hU).1, zg_recv hK hI h_1 rfl, (zg_pre hU).2⟩ rfl rfl hsz rfl (lv_room (Nat.le_of_ble_eq_true rfl)) zd_M_extension_174 hk) rfl ?_
          refine zg_s (pc' := 179) (lv' := [(10, .int i_4), (9, .int i_2), (0, .ref (h0 + a0)), (4, .int i4), (6, .long j6), (8, .int i8)]) (fun _ _ _ _ _ hl w => lv_istore hx hb zd_M_extension_177 hl (by decide) rfl w) ?_
          refine zg_1 (pc' := 180) (fun _ _ _ _ _ hl w => lv_aload_n hx hb zd_M_extension_179 rfl (lv_at hl 2 rfl) w) ?_
          refine zg_1 (pc' := 181) (fun _ _ _ _ _ hl w => lv_aload_n hx hb zd_M_extension_180 rfl (lv_at hl 2 rfl) w) ?_
          obtain ⟨h_5, hf⟩ := zx_ck hf
          refine zg_get (pc' := 184) (ci := 8) hx hb htT zi_M hown hK h_5 rfl rfl 10 (by decide) (htT _ zt_815) (fun _ h9 => h9) rfl zd_M_extension_181 rfl ?_
          refine zg_2 (pc1 := 192) (pc2 := 187) (Classical.em _).symm (fun _ _ _ _ _ w1 w2 => lv_if_ne hx hb zd_M_extension_184 (by decide) w1 w2) (fun hc => ?_) (fun hc => ?_)
          · rw [if_neg hc] at hf
            refine zg_1 (pc' := 193) (fun _ _ _ _ _ hl w => lv_aload_n hx hb zd_M_extension_192 rfl (lv_at hl 2 rfl) w) ?_
            refine zg_get (pc' := 196) (ci := 8) hx hb htT zi_M hown hK h_5 rfl rfl 9 (by decide) (htT _ zt_814) (fun _ h9 => h9) rfl zd_M_extension_193 rfl ?_
            refine zg_v [2, 3, 4, 5] rfl ?_
            exact zw_M_extension_196 X hR hF hret n s_3 a0 i4 j6 i8 a0 (zh_I s_3 a0 9) hf
          · rw [if_pos hc] at hf
            refine zg_1 (pc' := 189) (fun _ _ _ _ _ hl w => lv_iload hx hb zd_M_extension_187 (lv_at hl 0 rfl) w) ?_
            refine zg_1 (pc' := 196) (fun _ _ _ _ _ hl w => lv_goto hx hb zd_M_extension_189 (by decide) w) ?_
            refine zg_v [2, 3, 4, 5] rfl ?_
            exact zw_M_extension_196 X hR hF hret n s_3 a0 i4 j6 i8 a0 i_4 hf
        · rw [if_pos hc] at hf
          refine zg_1 (pc' := 162) (fun _ _ _ _ _ hl w => lv_aload_n hx hb zd_M_extension_161 rfl (lv_at hl 1 rfl) w) ?_
          refine zg_1 (pc' := 164) (fun _ _ _ _ _ hl w => lv_iload hx hb zd_M_extension_162 (lv_at hl 2 rfl) w) ?_
          obtain ⟨s_6, hq, hf⟩ := zx_p hf
          refine zg_call (pc' := 167) (y := s_6) (rv := none) (rest := []) X hR (zm_M_realm hq) (fun H locs ls k j hsz hI hU hk => va_runV (As := [.int i4]) (rest := []) ⟨hx, hb, hml, hown, htT⟩ (zc_M_realm l h0 D dA tb n hq) (cwV 1 htT (zw_gV zt_1045 zt_1047 zt_49 zt_71 zt_1048) rfl rfl rfl (by decide +kernel) ⟨Nat.le_trans (Nat.le_of_ble_eq_true rfl) hF.1, Nat.le_trans (Nat.le_of_ble_eq_true rfl) hF.2⟩) ⟨(zg_pre hU).1, zg_recv hK hI h_1 rfl, (zg_pre hU).2⟩ rfl rfl hsz rfl (lv_room (Nat.le_of_ble_eq_true rfl)) zd_M_extension_164 hk) rfl ?_
          refine zg_1 (pc' := 232) (fun _ _ _ _ _ hl w => lv_goto hx hb zd_M_extension_167 (by decide) w) ?_
          refine zg_v [1, 2, 3] rfl ?_
          exact zw_M_extension_232 X hR hF hret n s_6 a0 i4 j6 hf
      · rw [if_pos hc] at hf
        refine zg_1 (pc' := 106) (fun _ _ _ _ _ hl w => lv_aload_n hx hb zd_M_extension_105 rfl (lv_at hl 1 rfl) w) ?_
        obtain ⟨a_7, h_8, hf⟩ := zx_p hf
        refine zg_get (pc' := 109) (ci := 8) hx hb htT zi_M hown hK h_1 rfl rfl 11 (by decide) (htT _ zt_816) (fun _ h9 => h9) (zx_hv h_8) zd_M_extension_106 rfl ?_
        refine zg_1 (pc' := 111) (fun _ _ _ _ _ hl w => lv_bipush (v := (10 : Int32)) hx hb zd_M_extension_109 (by decide) w) ?_
        refine zg_1 (pc' := 112) (fun _ _ _ _ _ hl w => lv_aload_n hx hb zd_M_extension_111 rfl (lv_at hl 1 rfl) w) ?_
        refine zg_1 (pc' := 114) (fun _ _ _ _ _ hl w => lv_iload hx hb zd_M_extension_112 (lv_at hl 2 rfl) w) ?_
        obtain ⟨j_10, s_9, hq, hf⟩ := zx_b hf
        refine zg_call (pc' := 117) (y := s_9) (rv := (some (.long j_10))) (rest := [.int (10 : Int32), .ref (h0 + a_7)]) X hR (zm_M_number hq) (fun H locs ls k j hsz hI hU hk => va_runV (As := [.int i4]) (rest := [.int (10 : Int32), .ref (h0 + a_7)]) ⟨hx, hb, hml, hown, htT⟩ (zc_M_number l h0 D dA tb n hq) (cwV 1 htT (zw_gV zt_1015 zt_1017 zt_42 zt_71 zt_1018) rfl rfl rfl (by decide +kernel) ⟨Nat.le_trans (Nat.le_of_ble_eq_true rfl) hF.1, Nat.le_trans (Nat.le_of_ble_eq_true rfl) hF.2⟩) ⟨(zg_pre hU).1, zg_recv hK hI h_1 rfl, (zg_pre hU).2⟩ rfl rfl hsz rfl (lv_room (Nat.le_of_ble_eq_true rfl)) zd_M_extension_114 hk) rfl ?_
        obtain ⟨h_12, hf⟩ := zx_ck hf
        obtain ⟨s_11, e_s_11, hf⟩ := zx_l hf
        refine zg_last (pc' := 118) hx hb hK h_12 e_s_11 zd_M_extension_117 rfl ?_
        refine zg_1 (pc' := 119) (fun _ _ _ _ _ hl w => lv_aload_n hx hb zd_M_extension_118 rfl (lv_at hl 1 rfl) w) ?_
        obtain ⟨h_13, hf⟩ := zx_ck hf
        refine zg_get (pc' := 122) (ci := 8) hx hb htT zi_M hown hK h_13 rfl rfl 10 (by decide) (htT _ zt_815) (fun _ h9 => h9) rfl zd_M_extension_119 rfl ?_
        refine zg_2 (pc1 := 232) (pc2 := 125) (Classical.em _).symm (fun _ _ _ _ _ w1 w2 => lv_if_ne hx hb zd_M_extension_122 (by decide) w1 w2) (fun hc => ?_) (fun hc => ?_)
        · rw [if_neg hc] at hf
          refine zg_v [1, 2, 3] rfl ?_
          exact zw_M_extension_232 X hR hF hret n s_11 a0 i4 j6 hf
        · rw [if_pos hc] at hf
          refine zg_1 (pc' := 126) (fun _ _ _ _ _ hl w => lv_aload_n hx hb zd_M_extension_125 rfl (lv_at hl 1 rfl) w) ?_
          obtain ⟨a_14, h_15, hf⟩ := zx_p hf
          refine zg_get (pc' := 129) (ci := 8) hx hb htT zi_M hown hK h_13 rfl rfl 11 (by decide) (htT _ zt_816) (fun _ h9 => h9) (zx_hv h_15) zd_M_extension_126 rfl ?_
          refine zg_1 (pc' := 131) (fun _ _ _ _ _ hl w => lv_bipush (v := (10 : Int32)) hx hb zd_M_extension_129 (by decide) w) ?_
          obtain ⟨h_16, hf⟩ := zx_ck hf
          refine zg_lald (pc' := 132) hx hb hK h_16 zd_M_extension_131 rfl ?_
          refine zg_1 (pc' := 133) (fun _ _ _ _ _ hl w => lv_lconst (v := (1 : Int64)) hx hb zd_M_extension_132 (by decide) w) ?_
          refine zg_1 (pc' := 136) (fun _ _ _ _ _ hl w => lv_ldc2 (v := (7 : Int64)) hx hb hown (htT _ zt_943) zd_M_extension_133 w) ?_
          obtain ⟨i_17, hq, hf⟩ := zx_p hf
          refine zg_call (pc' := 139) (y := s_11) (rv := (some (.int i_17))) (rest := []) X hR ⟨Nat.le_refl _, Nat.le_refl _⟩ (fun H locs ls k j hsz hI hU hk => va_runS (As := [.long (zh_J s_11 a_14 ((10 : Int32).toNatClampNeg)), .long (1 : Int64), .long (7 : Int64)]) (rest := []) ⟨hx, hb, hml, hown, htT⟩ (zc_M_in l h0 D dA tb n hq) (va_cwS 3 htT (zw_gS zt_909 zt_910 zt_71 zt_911) rfl rfl rfl (by decide +kernel) ⟨Nat.le_trans (Nat.le_of_ble_eq_true rfl) hF.1, Nat.le_trans (Nat.le_of_ble_eq_true rfl) hF.2⟩) (zg_pre hU) rfl rfl hsz rfl (lv_room (Nat.le_of_ble_eq_true rfl)) zd_M_extension_136 hk) rfl ?_
          refine zg_2 (pc1 := 232) (pc2 := 142) (Classical.em _).symm (fun _ _ _ _ _ w1 w2 => lv_if_ne hx hb zd_M_extension_139 (by decide) w1 w2) (fun hc => ?_) (fun hc => ?_)
          · rw [if_neg hc] at hf
            refine zg_v [1, 2, 3] rfl ?_
            exact zw_M_extension_232 X hR hF hret n s_11 a0 i4 j6 hf
          · rw [if_pos hc] at hf
            refine zg_1 (pc' := 143) (fun _ _ _ _ _ hl w => lv_aload_n hx hb zd_M_extension_142 rfl (lv_at hl 1 rfl) w) ?_
            refine zg_1 (pc' := 144) (fun _ _ _ _ _ hl w => lv_iconst (v := (4 : Int32)) hx hb zd_M_extension_143 (by decide) w) ?_
            refine zg_1 (pc' := 146) (fun _ _ _ _ _ hl w => lv_iload hx hb zd_M_extension_144 (lv_at hl 0 rfl) w) ?_
            obtain ⟨s_18, hq, hf⟩ := zx_p hf
            refine zg_call (pc' := 149) (y := s_18) (rv := none) (rest := []) X hR (zm_M_fails hq) (fun H locs ls k j hsz hI hU hk => va_runV (As := [.int (4 : Int32), .int i_2]) (rest := []) ⟨hx, hb, hml, hown, htT⟩ (zc_M_fails l h0 D dA tb n hq) (cwV 2 htT (zw_gV zt_1011 zt_1013 zt_41 zt_71 zt_1014) rfl rfl rfl (by decide +kernel) ⟨Nat.le_trans (Nat.le_of_ble_eq_true rfl) hF.1, Nat.le_trans (Nat.le_of_ble_eq_true rfl) hF.2⟩) ⟨(zg_pre hU).1, zg_recv hK hI h_13 rfl, (zg_pre hU).2⟩ rfl rfl hsz rfl (lv_room (Nat.le_of_ble_eq_true rfl)) zd_M_extension_146 hk) rfl ?_
            refine zg_1 (pc' := 232) (fun _ _ _ _ _ hl w => lv_goto hx hb zd_M_extension_149 (by decide) w) ?_
            refine zg_v [1, 2, 3] rfl ?_
            exact zw_M_extension_232 X hR hF hret n s_18 a0 i4 j6 hf
    · rw [if_pos hc] at hf
      refine zg_1 (pc' := 88) (fun _ _ _ _ _ hl w => lv_aload_n hx hb zd_M_extension_87 rfl (lv_at hl 1 rfl) w) ?_
      refine zg_1 (pc' := 90) (fun _ _ _ _ _ hl w => lv_iload hx hb zd_M_extension_88 (lv_at hl 2 rfl) w) ?_
      obtain ⟨s_19, hq, hf⟩ := zx_p hf
      refine zg_call (pc' := 93) (y := s_19) (rv := none) (rest := []) X hR (zm_M_basic hq) (fun H locs ls k j hsz hI hU hk => va_runV (As := [.int i4]) (rest := []) ⟨hx, hb, hml, hown, htT⟩ (zc_M_basic l h0 D dA tb n hq) (cwV 1 htT (zw_gV zt_1036 zt_1038 zt_47 zt_71 zt_1039) rfl rfl rfl (by decide +kernel) ⟨Nat.le_trans (Nat.le_of_ble_eq_true rfl) hF.1, Nat.le_trans (Nat.le_of_ble_eq_true rfl) hF.2⟩) ⟨(zg_pre hU).1, zg_recv hK hI h_1 rfl, (zg_pre hU).2⟩ rfl rfl hsz rfl (lv_room (Nat.le_of_ble_eq_true rfl)) zd_M_extension_90 hk) rfl ?_
      refine zg_1 (pc' := 232) (fun _ _ _ _ _ hl w => lv_goto hx hb zd_M_extension_93 (by decide) w) ?_
      refine zg_v [1, 2, 3] rfl ?_
      exact zw_M_extension_232 X hR hF hret n s_19 a0 i4 j6 hf
  · rw [if_neg hc] at hf
    refine zg_1 (pc' := 73) (fun _ _ _ _ _ hl w => lv_lload hx hb zd_M_extension_71 (lv_at hl 2 rfl) w) ?_
    obtain ⟨rfl, rfl⟩ := zx_r2 hf
    exact hret _ _ zd_M_extension_73
set_option maxHeartbeats 4000000 in
theorem zw_M_extension_44 {p : Program} {l : Launch} {e : Env} {R : Room} {s : State} {m : MethodId} {args : Array Value} {below : List Frame} {meth : Method} {c : Code} {Q : State → Prop} {h0 : Nat} {D : va_G} {dA : Nat → ClassId} {tb : Nat → Nat} {c0 k0 : Nat} {z : zh_S} {r : Int64} (X : zg_X p s m args meth c ze_M_extension 11 zr_M (some .long) h0 D dA tb) (hR : zg_R R c0 k0 z) (hF : 4 ≤ R.frames ∧ 101 ≤ R.locals) (hret : ∀ (pc : Nat) (lv : List (Nat × Value)), decode ze_M_extension pc = .ok (.lreturn, 1) → zg_G p l e R s m args below meth c Q h0 D dA 11 c0 k0 z z pc lv [.long r]) (n : Nat) : ∀ (s0 : zh_S) (a0 : Nat) (i4 : Int32) (j6 : Int64), zb_M_extension_44 n s0 a0 i4 j6 = some (r, z) → zg_G p l e R s m args below meth c Q h0 D dA 11 c0 k0 z s0 44 [(0, .ref (h0 + a0)), (4, .int i4), (6, .long j6)] [] := by
  obtain ⟨hx, hb, hml, hown, htT, hrt, hlk, x00, hIn⟩ := id X
  have hK := hIn.2.1
  have hT := hIn.2.2.1
  have hNe := hIn.2.2.2
  intro s0 a0 i4 j6 hf
  rw [zb_M_extension_44] at hf
  refine zg_1 (pc' := 45) (fun _ _ _ _ _ hl w => lv_aload_n hx hb zd_M_extension_44 rfl (lv_at hl 0 rfl) w) ?_
  refine zg_1 (pc' := 46) (fun _ _ _ _ _ hl w => lv_iconst (v := (1 : Int32)) hx hb zd_M_extension_45 (by decide) w) ?_
  refine zg_1 (pc' := 48) (fun _ _ _ _ _ hl w => lv_iload hx hb zd_M_extension_46 (lv_at hl 1 rfl) w) ?_
  obtain ⟨h_1, hf⟩ := zx_ck hf
  obtain ⟨i_2, hq, hf⟩ := zx_p hf
  refine zg_call (pc' := 51) (y := s0) (rv := (some (.int i_2))) (rest := []) X hR ⟨Nat.le_refl _, Nat.le_refl _⟩ (fun H locs ls k j hsz hI hU hk => va_runV (As := [.int (1 : Int32), .int i4]) (rest := []) ⟨hx, hb, hml, hown, htT⟩ (zc_M_next l h0 D dA tb n hq) (cwV 2 htT (zw_gV zt_1024 zt_1026 zt_44 zt_71 zt_1027) rfl rfl rfl (by decide +kernel) ⟨Nat.le_trans (Nat.le_of_ble_eq_true rfl) hF.1, Nat.le_trans (Nat.le_of_ble_eq_true rfl) hF.2⟩) ⟨(zg_pre hU).1, zg_recv hK hI h_1 rfl, (zg_pre hU).2⟩ rfl rfl hsz rfl (lv_room (Nat.le_of_ble_eq_true rfl)) zd_M_extension_48 hk) rfl ?_
  refine zg_s (pc' := 53) (lv' := [(8, .int i_2), (0, .ref (h0 + a0)), (4, .int i4), (6, .long j6)]) (fun _ _ _ _ _ hl w => lv_istore hx hb zd_M_extension_51 hl (by decide) rfl w) ?_
  refine zg_1 (pc' := 55) (fun _ _ _ _ _ hl w => lv_iload hx hb zd_M_extension_53 (lv_at hl 0 rfl) w) ?_
  refine zg_2 (pc1 := 64) (pc2 := 58) (Classical.em _) (fun _ _ _ _ _ w1 w2 => lv_if_eq hx hb zd_M_extension_55 (by decide) w1 w2) (fun hc => ?_) (fun hc => ?_)
  · rw [if_pos hc] at hf
    refine zg_v [1, 2, 3, 0] rfl ?_
    exact zw_M_extension_64 X hR hF hret n s0 a0 i4 j6 i_2 hf
  · rw [if_neg hc] at hf
    refine zg_1 (pc' := 59) (fun _ _ _ _ _ hl w => lv_aload_n hx hb zd_M_extension_58 rfl (lv_at hl 1 rfl) w) ?_
    refine zg_1 (pc' := 61) (fun _ _ _ _ _ hl w => lv_iload hx hb zd_M_extension_59 (lv_at hl 2 rfl) w) ?_
    obtain ⟨s_3, hq, hf⟩ := zx_p hf
    refine zg_call (pc' := 64) (y := s_3) (rv := none) (rest := []) X hR (zm_M_truth hq) (fun H locs ls k j hsz hI hU hk => va_runV (As := [.int i4]) (rest := []) ⟨hx, hb, hml, hown, htT⟩ (zc_M_truth l h0 D dA tb n hq) (cwV 1 htT (zw_gV zt_1032 zt_1034 zt_46 zt_71 zt_1035) rfl rfl rfl (by decide +kernel) ⟨Nat.le_trans (Nat.le_of_ble_eq_true rfl) hF.1, Nat.le_trans (Nat.le_of_ble_eq_true rfl) hF.2⟩) ⟨(zg_pre hU).1, zg_recv hK hI h_1 rfl, (zg_pre hU).2⟩ rfl rfl hsz rfl (lv_room (Nat.le_of_ble_eq_true rfl)) zd_M_extension_61 hk) rfl ?_
    refine zg_v [1, 2, 3, 0] rfl ?_
    exact zw_M_extension_64 X hR hF hret n s_3 a0 i4 j6 i_2 hf
set_option maxHeartbeats 4000000 in
theorem zc_M_extension (l : Launch) (h0 : Nat) (D : va_G) (dA : Nat → ClassId) (tb : Nat → Nat) (n : Nat) {s0 : zh_S} {a0 : Nat} {j1 : Int64} {i3 : Int32} {r : Int64} {z : zh_S} (hf : zf_M_extension n s0 a0 j1 i3 = some (r, z)) : zc_M l zn_M_extension zs_M_extension 4 101 h0 D dA tb [.ref (h0 + a0), .long j1, .int i3] s0 (some (.long r)) z := by
  rw [zf_M_extension] at hf
  refine zc_of (cc := ze_M_extension) (maxL := 11) (ret := (some .long)) (lv := [(0, .ref (h0 + a0)), (1, .long j1), (3, .int i3)]) (by decide) rfl (Nat.le_of_ble_eq_true rfl) rfl ?_
  intro p e s m args below meth c X hnm
  obtain ⟨hx, hb, hml, hown, htT, hrt, hlk, x00, hIn⟩ := id X
  have hK := hIn.2.1
  have hT := hIn.2.2.1
  have hNe := hIn.2.2.2
  have hR : zg_R { frames := 4, cells := zh_N z - zh_N s0, slots := zh_M z - zh_M s0, locals := 101 } (zh_N s0) (zh_M s0) z := ⟨by show zh_N z ≤ zh_N s0 + (zh_N z - zh_N s0); omega, by show zh_M z ≤ zh_M s0 + (zh_M z - zh_M s0); omega⟩
  have hF : 4 ≤ ({ frames := 4, cells := zh_N z - zh_N s0, slots := zh_M z - zh_M s0, locals := 101 } : Room).frames ∧ 101 ≤ ({ frames := 4, cells := zh_N z - zh_N s0, slots := zh_M z - zh_M s0, locals := 101 } : Room).locals := ⟨Nat.le_refl _, Nat.le_refl _⟩
  have hret := fun (pc : Nat) (lv : List (Nat × Value)) (hd : decode ze_M_extension pc = .ok (.lreturn, 1)) => zg_lret (R := { frames := 4, cells := zh_N z - zh_N s0, slots := zh_M z - zh_M s0, locals := 101 }) (l := l) (e := e) (below := below) (c0 := zh_N s0) (s0 := zh_M s0) (z := z) (lv := lv) (v := r) X hd
  refine zg_1 (pc' := 1) (fun _ _ _ _ _ hl w => lv_aload_n hx hb zd_M_extension_0 rfl (lv_at hl 0 rfl) w) ?_
  refine zg_1 (pc' := 3) (fun _ _ _ _ _ hl w => lv_bipush (v := (48 : Int32)) hx hb zd_M_extension_1 (by decide) w) ?_
  refine zg_1 (pc' := 4) (fun _ _ _ _ _ hl w => lv_iload_n hx hb zd_M_extension_3 rfl (lv_at hl 2 rfl) w) ?_
  obtain ⟨h_2, hf⟩ := zx_ck hf
  obtain ⟨i_3, s_1, hq, hf⟩ := zx_b hf
  refine zg_call (pc' := 7) (y := s_1) (rv := (some (.int i_3))) (rest := []) X hR (zm_M_head hq) (fun H locs ls k j hsz hI hU hk => va_runV (As := [.int (48 : Int32), .int i3]) (rest := []) ⟨hx, hb, hml, hown, htT⟩ (zc_M_head l h0 D dA tb n hq) (cwV 2 htT (zw_gV zt_1007 zt_1009 zt_40 zt_71 zt_1010) rfl rfl rfl (by decide +kernel) ⟨Nat.le_trans (Nat.le_of_ble_eq_true rfl) hF.1, Nat.le_trans (Nat.le_of_ble_eq_true rfl) hF.2⟩) ⟨(zg_pre hU).1, zg_recv hK hI h_2 rfl, (zg_pre hU).2⟩ rfl rfl hsz rfl (lv_room (Nat.le_of_ble_eq_true rfl)) zd_M_extension_4 hk) rfl ?_
  refine zg_s (pc' := 9) (lv' := [(4, .int i_3), (0, .ref (h0 + a0)), (1, .long j1), (3, .int i3)]) (fun _ _ _ _ _ hl w => lv_istore hx hb zd_M_extension_7 hl (by decide) rfl w) ?_
  refine zg_1 (pc' := 10) (fun _ _ _ _ _ hl w => lv_aload_n hx hb zd_M_extension_9 rfl (lv_at hl 1 rfl) w) ?_
  obtain ⟨h_4, hf⟩ := zx_ck hf
  refine zg_get (pc' := 13) (ci := 8) hx hb htT zi_M hown hK h_4 rfl rfl 9 (by decide) (htT _ zt_814) (fun _ h9 => h9) rfl zd_M_extension_10 rfl ?_
  obtain ⟨i_5, e_i_5, hf⟩ := zx_l hf
  refine zg_ti e_i_5 ?_
  refine zg_s (pc' := 15) (lv' := [(5, .int i_5), (4, .int i_3), (0, .ref (h0 + a0)), (1, .long j1), (3, .int i3)]) (fun _ _ _ _ _ hl w => lv_istore hx hb zd_M_extension_13 hl (by decide) rfl w) ?_
  refine zg_1 (pc' := 16) (fun _ _ _ _ _ hl w => lv_aload_n hx hb zd_M_extension_15 rfl (lv_at hl 2 rfl) w) ?_
  refine zg_1 (pc' := 18) (fun _ _ _ _ _ hl w => lv_iload hx hb zd_M_extension_16 (lv_at hl 1 rfl) w) ?_
  obtain ⟨j_7, s_6, hq, hf⟩ := zx_b hf
  refine zg_call (pc' := 21) (y := s_6) (rv := (some (.long j_7))) (rest := []) X hR (zm_M_number hq) (fun H locs ls k j hsz hI hU hk => va_runV (As := [.int i_3]) (rest := []) ⟨hx, hb, hml, hown, htT⟩ (zc_M_number l h0 D dA tb n hq) (cwV 1 htT (zw_gV zt_1015 zt_1017 zt_42 zt_71 zt_1018) rfl rfl rfl (by decide +kernel) ⟨Nat.le_trans (Nat.le_of_ble_eq_true rfl) hF.1, Nat.le_trans (Nat.le_of_ble_eq_true rfl) hF.2⟩) ⟨(zg_pre hU).1, zg_recv hK hI h_4 rfl, (zg_pre hU).2⟩ rfl rfl hsz rfl (lv_room (Nat.le_of_ble_eq_true rfl)) zd_M_extension_18 hk) rfl ?_
  refine zg_s (pc' := 23) (lv' := [(6, .long j_7), (5, .int i_5), (4, .int i_3), (0, .ref (h0 + a0)), (1, .long j1), (3, .int i3)]) (fun _ _ _ _ _ hl w => lv_lstore hx hb zd_M_extension_21 hl (by decide) rfl w) ?_
  refine zg_1 (pc' := 24) (fun _ _ _ _ _ hl w => lv_aload_n hx hb zd_M_extension_23 rfl (lv_at hl 3 rfl) w) ?_
  obtain ⟨h_8, hf⟩ := zx_ck hf
  refine zg_get (pc' := 27) (ci := 8) hx hb htT zi_M hown hK h_8 rfl rfl 10 (by decide) (htT _ zt_815) (fun _ h9 => h9) rfl zd_M_extension_24 rfl ?_
  refine zg_2 (pc1 := 44) (pc2 := 30) (Classical.em _).symm (fun _ _ _ _ _ w1 w2 => lv_if_ne hx hb zd_M_extension_27 (by decide) w1 w2) (fun hc => ?_) (fun hc => ?_)
  · rw [if_neg hc] at hf
    refine zg_v [3, 2, 0] rfl ?_
    exact zw_M_extension_44 X hR hF hret n s_6 a0 i_3 j_7 hf
  · rw [if_pos hc] at hf
    refine zg_1 (pc' := 32) (fun _ _ _ _ _ hl w => lv_lload hx hb zd_M_extension_30 (lv_at hl 0 rfl) w) ?_
    refine zg_1 (pc' := 33) (fun _ _ _ _ _ hl w => lv_lload_n hx hb zd_M_extension_32 rfl (lv_at hl 4 rfl) w) ?_
    refine zg_1 (pc' := 34) (fun _ _ _ _ _ hl w => W.lcmp hx hb zd_M_extension_33 w) ?_
    refine zg_2 (pc1 := 44) (pc2 := 37) (Classical.em _) (fun _ _ _ _ _ w1 w2 => lv_if_gt hx hb zd_M_extension_34 (by decide) w1 w2) (fun hc => ?_) (fun hc => ?_)
    · rw [if_pos hc] at hf
      refine zg_v [3, 2, 0] rfl ?_
      exact zw_M_extension_44 X hR hF hret n s_6 a0 i_3 j_7 hf
    · rw [if_neg hc] at hf
      refine zg_1 (pc' := 38) (fun _ _ _ _ _ hl w => lv_aload_n hx hb zd_M_extension_37 rfl (lv_at hl 3 rfl) w) ?_
      refine zg_1 (pc' := 39) (fun _ _ _ _ _ hl w => lv_iconst (v := (4 : Int32)) hx hb zd_M_extension_38 (by decide) w) ?_
      refine zg_1 (pc' := 41) (fun _ _ _ _ _ hl w => lv_iload hx hb zd_M_extension_39 (lv_at hl 1 rfl) w) ?_
      obtain ⟨s_9, hq, hf⟩ := zx_p hf
      refine zg_call (pc' := 44) (y := s_9) (rv := none) (rest := []) X hR (zm_M_fails hq) (fun H locs ls k j hsz hI hU hk => va_runV (As := [.int (4 : Int32), .int i_5]) (rest := []) ⟨hx, hb, hml, hown, htT⟩ (zc_M_fails l h0 D dA tb n hq) (cwV 2 htT (zw_gV zt_1011 zt_1013 zt_41 zt_71 zt_1014) rfl rfl rfl (by decide +kernel) ⟨Nat.le_trans (Nat.le_of_ble_eq_true rfl) hF.1, Nat.le_trans (Nat.le_of_ble_eq_true rfl) hF.2⟩) ⟨(zg_pre hU).1, zg_recv hK hI h_8 rfl, (zg_pre hU).2⟩ rfl rfl hsz rfl (lv_room (Nat.le_of_ble_eq_true rfl)) zd_M_extension_41 hk) rfl ?_
      refine zg_v [3, 2, 0] rfl ?_
      exact zw_M_extension_44 X hR hF hret n s_9 a0 i_3 j_7 hf
set_option maxHeartbeats 4000000 in
theorem zw_M_readCertificate_227 {p : Program} {l : Launch} {e : Env} {R : Room} {s : State} {m : MethodId} {args : Array Value} {below : List Frame} {meth : Method} {c : Code} {Q : State → Prop} {h0 : Nat} {D : va_G} {dA : Nat → ClassId} {tb : Nat → Nat} {c0 k0 : Nat} {z : zh_S} (X : zg_X p s m args meth c ze_M_readCertificate 8 zr_M none h0 D dA tb) (hR : zg_R R c0 k0 z) (hF : 5 ≤ R.frames ∧ 131 ≤ R.locals) (hret : ∀ (pc : Nat) (lv : List (Nat × Value)), decode ze_M_readCertificate pc = .ok (.return_, 1) → zg_G p l e R s m args below meth c Q h0 D dA 8 c0 k0 z z pc lv []) (n : Nat) : ∀ (s0 : zh_S) (a0 : Nat) (i1 : Int32), zb_M_readCertificate_227 n s0 a0 i1 = some z → zg_G p l e R s m args below meth c Q h0 D dA 8 c0 k0 z s0 227 [(0, .ref (h0 + a0)), (1, .int i1)] [] := by
  obtain ⟨hx, hb, hml, hown, htT, hrt, hlk, x00, hIn⟩ := id X
  have hK := hIn.2.1
  have hT := hIn.2.2.1
  have hNe := hIn.2.2.2
  intro s0 a0 i1 hf
  rw [zb_M_readCertificate_227] at hf
  refine zg_1 (pc' := 228) (fun _ _ _ _ _ hl w => lv_aload_n hx hb zd_M_readCertificate_227 rfl (lv_at hl 0 rfl) w) ?_
  obtain ⟨h_1, hf⟩ := zx_ck hf
  obtain ⟨a_2, h_3, hf⟩ := zx_p hf
  refine zg_get (pc' := 231) (ci := 8) hx hb htT zi_M hown hK h_1 rfl rfl 11 (by decide) (htT _ zt_816) (fun _ h9 => h9) (zx_hv h_3) zd_M_readCertificate_228 rfl ?_
  refine zg_1 (pc' := 233) (fun _ _ _ _ _ hl w => lv_bipush (v := (7 : Int32)) hx hb zd_M_readCertificate_231 (by decide) w) ?_
  refine zg_1 (pc' := 234) (fun _ _ _ _ _ hl w => lv_aload_n hx hb zd_M_readCertificate_233 rfl (lv_at hl 0 rfl) w) ?_
  refine zg_1 (pc' := 235) (fun _ _ _ _ _ hl w => lv_iload_n hx hb zd_M_readCertificate_234 rfl (lv_at hl 1 rfl) w) ?_
  obtain ⟨j_5, s_4, hq, hf⟩ := zx_b hf
  refine zg_call (pc' := 238) (y := s_4) (rv := (some (.long j_5))) (rest := [.int (7 : Int32), .ref (h0 + a_2)]) X hR (zm_M_number hq) (fun H locs ls k j hsz hI hU hk => va_runV (As := [.int i1]) (rest := [.int (7 : Int32), .ref (h0 + a_2)]) ⟨hx, hb, hml, hown, htT⟩ (zc_M_number l h0 D dA tb n hq) (cwV 1 htT (zw_gV zt_1015 zt_1017 zt_42 zt_71 zt_1018) rfl rfl rfl (by decide +kernel) ⟨Nat.le_trans (Nat.le_of_ble_eq_true rfl) hF.1, Nat.le_trans (Nat.le_of_ble_eq_true rfl) hF.2⟩) ⟨(zg_pre hU).1, zg_recv hK hI h_1 rfl, (zg_pre hU).2⟩ rfl rfl hsz rfl (lv_room (Nat.le_of_ble_eq_true rfl)) zd_M_readCertificate_235 hk) rfl ?_
  obtain ⟨h_7, hf⟩ := zx_ck hf
  obtain ⟨s_6, e_s_6, hf⟩ := zx_l hf
  refine zg_last (pc' := 239) hx hb hK h_7 e_s_6 zd_M_readCertificate_238 rfl ?_
  refine zg_1 (pc' := 240) (fun _ _ _ _ _ hl w => lv_aload_n hx hb zd_M_readCertificate_239 rfl (lv_at hl 0 rfl) w) ?_
  refine zg_1 (pc' := 241) (fun _ _ _ _ _ hl w => lv_iload_n hx hb zd_M_readCertificate_240 rfl (lv_at hl 1 rfl) w) ?_
  obtain ⟨h_9, hf⟩ := zx_ck hf
  obtain ⟨s_8, hq, hf⟩ := zx_p hf
  refine zg_call (pc' := 244) (y := s_8) (rv := none) (rest := []) X hR (zm_M_done hq) (fun H locs ls k j hsz hI hU hk => va_runV (As := [.int i1]) (rest := []) ⟨hx, hb, hml, hown, htT⟩ (zc_M_done l h0 D dA tb n hq) (cwV 1 htT (zw_gV zt_1041 zt_1043 zt_48 zt_71 zt_1044) rfl rfl rfl (by decide +kernel) ⟨Nat.le_trans (Nat.le_of_ble_eq_true rfl) hF.1, Nat.le_trans (Nat.le_of_ble_eq_true rfl) hF.2⟩) ⟨(zg_pre hU).1, zg_recv hK hI h_9 rfl, (zg_pre hU).2⟩ rfl rfl hsz rfl (lv_room (Nat.le_of_ble_eq_true rfl)) zd_M_readCertificate_241 hk) rfl ?_
  refine zg_1 (pc' := 245) (fun _ _ _ _ _ hl w => lv_aload_n hx hb zd_M_readCertificate_244 rfl (lv_at hl 0 rfl) w) ?_
  refine zg_1 (pc' := 246) (fun _ _ _ _ _ hl w => lv_aload_n hx hb zd_M_readCertificate_245 rfl (lv_at hl 0 rfl) w) ?_
  obtain ⟨h_10, hf⟩ := zx_ck hf
  refine zg_get (pc' := 249) (ci := 8) hx hb htT zi_M hown hK h_10 rfl rfl 1 (by decide) (htT _ zt_806) (fun _ h9 => h9) rfl zd_M_readCertificate_246 rfl ?_
  obtain ⟨s_11, hq, hf⟩ := zx_p hf
  refine zg_call (pc' := 252) (y := s_11) (rv := none) (rest := []) X hR (zm_M_done hq) (fun H locs ls k j hsz hI hU hk => va_runV (As := [.int (zh_I s_8 a0 1)]) (rest := []) ⟨hx, hb, hml, hown, htT⟩ (zc_M_done l h0 D dA tb n hq) (cwV 1 htT (zw_gV zt_1041 zt_1043 zt_48 zt_71 zt_1044) rfl rfl rfl (by decide +kernel) ⟨Nat.le_trans (Nat.le_of_ble_eq_true rfl) hF.1, Nat.le_trans (Nat.le_of_ble_eq_true rfl) hF.2⟩) ⟨(zg_pre hU).1, zg_recv hK hI h_10 rfl, (zg_pre hU).2⟩ rfl rfl hsz rfl (lv_room (Nat.le_of_ble_eq_true rfl)) zd_M_readCertificate_249 hk) rfl ?_
  obtain rfl := zx_r1 hf
  exact hret _ _ zd_M_readCertificate_252
set_option maxHeartbeats 4000000 in
theorem zw_M_readCertificate_200 {p : Program} {l : Launch} {e : Env} {R : Room} {s : State} {m : MethodId} {args : Array Value} {below : List Frame} {meth : Method} {c : Code} {Q : State → Prop} {h0 : Nat} {D : va_G} {dA : Nat → ClassId} {tb : Nat → Nat} {c0 k0 : Nat} {z : zh_S} (X : zg_X p s m args meth c ze_M_readCertificate 8 zr_M none h0 D dA tb) (hR : zg_R R c0 k0 z) (hF : 5 ≤ R.frames ∧ 131 ≤ R.locals) (hret : ∀ (pc : Nat) (lv : List (Nat × Value)), decode ze_M_readCertificate pc = .ok (.return_, 1) → zg_G p l e R s m args below meth c Q h0 D dA 8 c0 k0 z z pc lv []) (n : Nat) : ∀ (s0 : zh_S) (a0 : Nat) (i1 : Int32) (i2 : Int32) (i3 : Int32) (i4 : Int32), zb_M_readCertificate_200 n s0 a0 i1 i2 i3 i4 = some z → zg_G p l e R s m args below meth c Q h0 D dA 8 c0 k0 z s0 200 [(0, .ref (h0 + a0)), (1, .int i1), (2, .int i2), (3, .int i3), (4, .int i4)] [] := by
  obtain ⟨hx, hb, hml, hown, htT, hrt, hlk, x00, hIn⟩ := id X
  have hK := hIn.2.1
  have hT := hIn.2.2.1
  have hNe := hIn.2.2.2
  intro s0 a0 i1 i2 i3 i4 hf
  rw [zb_M_readCertificate_200] at hf
  refine zg_1 (pc' := 201) (fun _ _ _ _ _ hl w => lv_aload_n hx hb zd_M_readCertificate_200 rfl (lv_at hl 0 rfl) w) ?_
  refine zg_1 (pc' := 202) (fun _ _ _ _ _ hl w => lv_iload_n hx hb zd_M_readCertificate_201 rfl (lv_at hl 3 rfl) w) ?_
  obtain ⟨h_2, hf⟩ := zx_ck hf
  obtain ⟨s_1, hq, hf⟩ := zx_p hf
  refine zg_call (pc' := 205) (y := s_1) (rv := none) (rest := []) X hR (zm_M_done hq) (fun H locs ls k j hsz hI hU hk => va_runV (As := [.int i3]) (rest := []) ⟨hx, hb, hml, hown, htT⟩ (zc_M_done l h0 D dA tb n hq) (cwV 1 htT (zw_gV zt_1041 zt_1043 zt_48 zt_71 zt_1044) rfl rfl rfl (by decide +kernel) ⟨Nat.le_trans (Nat.le_of_ble_eq_true rfl) hF.1, Nat.le_trans (Nat.le_of_ble_eq_true rfl) hF.2⟩) ⟨(zg_pre hU).1, zg_recv hK hI h_2 rfl, (zg_pre hU).2⟩ rfl rfl hsz rfl (lv_room (Nat.le_of_ble_eq_true rfl)) zd_M_readCertificate_202 hk) rfl ?_
  refine zg_1 (pc' := 206) (fun _ _ _ _ _ hl w => lv_aload_n hx hb zd_M_readCertificate_205 rfl (lv_at hl 0 rfl) w) ?_
  obtain ⟨h_3, hf⟩ := zx_ck hf
  refine zg_get (pc' := 209) (ci := 8) hx hb htT zi_M hown hK h_3 rfl rfl 10 (by decide) (htT _ zt_815) (fun _ h9 => h9) rfl zd_M_readCertificate_206 rfl ?_
  refine zg_2 (pc1 := 227) (pc2 := 212) (Classical.em _).symm (fun _ _ _ _ _ w1 w2 => lv_if_ne hx hb zd_M_readCertificate_209 (by decide) w1 w2) (fun hc => ?_) (fun hc => ?_)
  · rw [if_neg hc] at hf
    refine zg_v [0, 1] rfl ?_
    exact zw_M_readCertificate_227 X hR hF hret n s_1 a0 i1 hf
  · rw [if_pos hc] at hf
    refine zg_1 (pc' := 213) (fun _ _ _ _ _ hl w => lv_aload_n hx hb zd_M_readCertificate_212 rfl (lv_at hl 0 rfl) w) ?_
    obtain ⟨a_4, h_5, hf⟩ := zx_p hf
    refine zg_get (pc' := 216) (ci := 8) hx hb htT zi_M hown hK h_3 rfl rfl 11 (by decide) (htT _ zt_816) (fun _ h9 => h9) (zx_hv h_5) zd_M_readCertificate_213 rfl ?_
    refine zg_1 (pc' := 218) (fun _ _ _ _ _ hl w => lv_bipush (v := (8 : Int32)) hx hb zd_M_readCertificate_216 (by decide) w) ?_
    refine zg_1 (pc' := 219) (fun _ _ _ _ _ hl w => lv_aload_n hx hb zd_M_readCertificate_218 rfl (lv_at hl 0 rfl) w) ?_
    refine zg_1 (pc' := 220) (fun _ _ _ _ _ hl w => lv_iload_n hx hb zd_M_readCertificate_219 rfl (lv_at hl 2 rfl) w) ?_
    refine zg_1 (pc' := 222) (fun _ _ _ _ _ hl w => lv_iload hx hb zd_M_readCertificate_220 (lv_at hl 4 rfl) w) ?_
    obtain ⟨i_6, hq, hf⟩ := zx_p hf
    refine zg_call (pc' := 225) (y := s_1) (rv := (some (.int i_6))) (rest := [.int (8 : Int32), .ref (h0 + a_4)]) X hR ⟨Nat.le_refl _, Nat.le_refl _⟩ (fun H locs ls k j hsz hI hU hk => va_runV (As := [.int i2, .int i4]) (rest := [.int (8 : Int32), .ref (h0 + a_4)]) ⟨hx, hb, hml, hown, htT⟩ (zc_M_hash l h0 D dA tb n hq) (cwV 2 htT (zw_gV zt_988 zt_990 zt_38 zt_71 zt_991) rfl rfl rfl (by decide +kernel) ⟨Nat.le_trans (Nat.le_of_ble_eq_true rfl) hF.1, Nat.le_trans (Nat.le_of_ble_eq_true rfl) hF.2⟩) ⟨(zg_pre hU).1, zg_recv hK hI h_3 rfl, (zg_pre hU).2⟩ rfl rfl hsz rfl (lv_room (Nat.le_of_ble_eq_true rfl)) zd_M_readCertificate_222 hk) rfl ?_
    refine zg_1 (pc' := 226) (fun _ _ _ _ _ hl w => lv_i2l (v := i_6.toInt64) hx hb zd_M_readCertificate_225 rfl w) ?_
    obtain ⟨h_8, hf⟩ := zx_ck hf
    obtain ⟨s_7, e_s_7, hf⟩ := zx_l hf
    refine zg_last (pc' := 227) hx hb hK h_8 e_s_7 zd_M_readCertificate_226 rfl ?_
    refine zg_v [0, 1] rfl ?_
    exact zw_M_readCertificate_227 X hR hF hret n s_7 a0 i1 hf
set_option maxHeartbeats 4000000 in
theorem zw_M_readCertificate_170 {p : Program} {l : Launch} {e : Env} {R : Room} {s : State} {m : MethodId} {args : Array Value} {below : List Frame} {meth : Method} {c : Code} {Q : State → Prop} {h0 : Nat} {D : va_G} {dA : Nat → ClassId} {tb : Nat → Nat} {c0 k0 : Nat} {z : zh_S} (X : zg_X p s m args meth c ze_M_readCertificate 8 zr_M none h0 D dA tb) (hR : zg_R R c0 k0 z) (hF : 5 ≤ R.frames ∧ 131 ≤ R.locals) (hret : ∀ (pc : Nat) (lv : List (Nat × Value)), decode ze_M_readCertificate pc = .ok (.return_, 1) → zg_G p l e R s m args below meth c Q h0 D dA 8 c0 k0 z z pc lv []) (n : Nat) (k : Nat) : ∀ (s0 : zh_S) (a0 : Nat) (i1 : Int32) (i2 : Int32) (i3 : Int32) (i4 : Int32) (i5 : Int32) (j6 : Int64), zl_M_readCertificate_170 n k s0 a0 i1 i2 i3 i4 i5 j6 = some z → zg_G p l e R s m args below meth c Q h0 D dA 8 c0 k0 z s0 170 [(0, .ref (h0 + a0)), (1, .int i1), (2, .int i2), (3, .int i3), (4, .int i4), (5, .int i5), (6, .long j6)] [] := by
  obtain ⟨hx, hb, hml, hown, htT, hrt, hlk, x00, hIn⟩ := id X
  have hK := hIn.2.1
  have hT := hIn.2.2.1
  have hNe := hIn.2.2.2
  induction k with
  | zero => intro s0 a0 i1 i2 i3 i4 i5 j6 hf; cases hf
  | succ k ih =>
    intro s0 a0 i1 i2 i3 i4 i5 j6 hf
    rw [zl_M_readCertificate_170] at hf
    refine zg_1 (pc' := 171) (fun _ _ _ _ _ hl w => lv_aload_n hx hb zd_M_readCertificate_170 rfl (lv_at hl 0 rfl) w) ?_
    refine zg_1 (pc' := 173) (fun _ _ _ _ _ hl w => lv_bipush (v := (48 : Int32)) hx hb zd_M_readCertificate_171 (by decide) w) ?_
    refine zg_1 (pc' := 175) (fun _ _ _ _ _ hl w => lv_iload hx hb zd_M_readCertificate_173 (lv_at hl 5 rfl) w) ?_
    obtain ⟨h_1, hf⟩ := zx_ck hf
    obtain ⟨i_2, hq, hf⟩ := zx_p hf
    refine zg_call (pc' := 178) (y := s0) (rv := (some (.int i_2))) (rest := []) X hR ⟨Nat.le_refl _, Nat.le_refl _⟩ (fun H locs ls k j hsz hI hU hk => va_runV (As := [.int (48 : Int32), .int i5]) (rest := []) ⟨hx, hb, hml, hown, htT⟩ (zc_M_next l h0 D dA tb n hq) (cwV 2 htT (zw_gV zt_1024 zt_1026 zt_44 zt_71 zt_1027) rfl rfl rfl (by decide +kernel) ⟨Nat.le_trans (Nat.le_of_ble_eq_true rfl) hF.1, Nat.le_trans (Nat.le_of_ble_eq_true rfl) hF.2⟩) ⟨(zg_pre hU).1, zg_recv hK hI h_1 rfl, (zg_pre hU).2⟩ rfl rfl hsz rfl (lv_room (Nat.le_of_ble_eq_true rfl)) zd_M_readCertificate_175 hk) rfl ?_
    refine zg_2 (pc1 := 194) (pc2 := 181) (Classical.em _) (fun _ _ _ _ _ w1 w2 => lv_if_eq hx hb zd_M_readCertificate_178 (by decide) w1 w2) (fun hc => ?_) (fun hc => ?_)
    · rw [if_pos hc] at hf
      refine zg_1 (pc' := 195) (fun _ _ _ _ _ hl w => lv_aload_n hx hb zd_M_readCertificate_194 rfl (lv_at hl 0 rfl) w) ?_
      refine zg_1 (pc' := 197) (fun _ _ _ _ _ hl w => lv_iload hx hb zd_M_readCertificate_195 (lv_at hl 5 rfl) w) ?_
      obtain ⟨s_3, hq, hf⟩ := zx_p hf
      refine zg_call (pc' := 200) (y := s_3) (rv := none) (rest := []) X hR (zm_M_done hq) (fun H locs ls k j hsz hI hU hk => va_runV (As := [.int i5]) (rest := []) ⟨hx, hb, hml, hown, htT⟩ (zc_M_done l h0 D dA tb n hq) (cwV 1 htT (zw_gV zt_1041 zt_1043 zt_48 zt_71 zt_1044) rfl rfl rfl (by decide +kernel) ⟨Nat.le_trans (Nat.le_of_ble_eq_true rfl) hF.1, Nat.le_trans (Nat.le_of_ble_eq_true rfl) hF.2⟩) ⟨(zg_pre hU).1, zg_recv hK hI h_1 rfl, (zg_pre hU).2⟩ rfl rfl hsz rfl (lv_room (Nat.le_of_ble_eq_true rfl)) zd_M_readCertificate_197 hk) rfl ?_
      refine zg_v [0, 1, 2, 3, 4] rfl ?_
      exact zw_M_readCertificate_200 X hR hF hret n s_3 a0 i1 i2 i3 i4 hf
    · rw [if_neg hc] at hf
      refine zg_1 (pc' := 182) (fun _ _ _ _ _ hl w => lv_aload_n hx hb zd_M_readCertificate_181 rfl (lv_at hl 0 rfl) w) ?_
      refine zg_1 (pc' := 184) (fun _ _ _ _ _ hl w => lv_lload hx hb zd_M_readCertificate_182 (lv_at hl 6 rfl) w) ?_
      refine zg_1 (pc' := 186) (fun _ _ _ _ _ hl w => lv_iload hx hb zd_M_readCertificate_184 (lv_at hl 5 rfl) w) ?_
      obtain ⟨j_5, s_4, hq, hf⟩ := zx_b hf
      refine zg_call (pc' := 189) (y := s_4) (rv := (some (.long j_5))) (rest := []) X hR (zm_M_extension hq) (fun H locs ls k j hsz hI hU hk => va_runV (As := [.long j6, .int i5]) (rest := []) ⟨hx, hb, hml, hown, htT⟩ (zc_M_extension l h0 D dA tb n hq) (cwV 2 htT (zw_gV zt_1028 zt_1030 zt_45 zt_71 zt_1031) rfl rfl rfl (by decide +kernel) ⟨Nat.le_trans (Nat.le_of_ble_eq_true rfl) hF.1, Nat.le_trans (Nat.le_of_ble_eq_true rfl) hF.2⟩) ⟨(zg_pre hU).1, zg_recv hK hI h_1 rfl, (zg_pre hU).2⟩ rfl rfl hsz rfl (lv_room (Nat.le_of_ble_eq_true rfl)) zd_M_readCertificate_186 hk) rfl ?_
      refine zg_s (pc' := 191) (lv' := [(6, .long j_5), (0, .ref (h0 + a0)), (1, .int i1), (2, .int i2), (3, .int i3), (4, .int i4), (5, .int i5)]) (fun _ _ _ _ _ hl w => lv_lstore hx hb zd_M_readCertificate_189 hl (by decide) rfl w) ?_
      refine zg_1 (pc' := 170) (fun _ _ _ _ _ hl w => lv_goto hx hb zd_M_readCertificate_191 (by decide) w) ?_
      refine zg_v [1, 2, 3, 4, 5, 6, 0] rfl ?_
      exact ih s_4 a0 i1 i2 i3 i4 i5 j_5 hf
set_option maxHeartbeats 4000000 in
theorem zw_M_readCertificate_2 {p : Program} {l : Launch} {e : Env} {R : Room} {s : State} {m : MethodId} {args : Array Value} {below : List Frame} {meth : Method} {c : Code} {Q : State → Prop} {h0 : Nat} {D : va_G} {dA : Nat → ClassId} {tb : Nat → Nat} {c0 k0 : Nat} {z : zh_S} (X : zg_X p s m args meth c ze_M_readCertificate 8 zr_M none h0 D dA tb) (hR : zg_R R c0 k0 z) (hF : 5 ≤ R.frames ∧ 131 ≤ R.locals) (hret : ∀ (pc : Nat) (lv : List (Nat × Value)), decode ze_M_readCertificate pc = .ok (.return_, 1) → zg_G p l e R s m args below meth c Q h0 D dA 8 c0 k0 z z pc lv []) (n : Nat) (k : Nat) : ∀ (s0 : zh_S) (a0 : Nat) (i1 : Int32), zl_M_readCertificate_2 n k s0 a0 i1 = some z → zg_G p l e R s m args below meth c Q h0 D dA 8 c0 k0 z s0 2 [(0, .ref (h0 + a0)), (1, .int i1)] [] := by
  obtain ⟨hx, hb, hml, hown, htT, hrt, hlk, x00, hIn⟩ := id X
  have hK := hIn.2.1
  have hT := hIn.2.2.1
  have hNe := hIn.2.2.2
  induction k with
  | zero => intro s0 a0 i1 hf; cases hf
  | succ k ih =>
    intro s0 a0 i1 hf
    rw [zl_M_readCertificate_2] at hf
    refine zg_1 (pc' := 3) (fun _ _ _ _ _ hl w => lv_iload_n hx hb zd_M_readCertificate_2 rfl (lv_at hl 1 rfl) w) ?_
    refine zg_1 (pc' := 5) (fun _ _ _ _ _ hl w => lv_bipush (v := (15 : Int32)) hx hb zd_M_readCertificate_3 (by decide) w) ?_
    refine zg_2 (pc1 := 21) (pc2 := 8) (Classical.em _) (fun _ _ _ _ _ w1 w2 => lv_icmp_ge hx hb zd_M_readCertificate_5 (by decide) w1 w2) (fun hc => ?_) (fun hc => ?_)
    · rw [if_pos hc] at hf
      refine zg_1 (pc' := 22) (fun _ _ _ _ _ hl w => lv_aload_n hx hb zd_M_readCertificate_21 rfl (lv_at hl 0 rfl) w) ?_
      obtain ⟨h_1, hf⟩ := zx_ck hf
      obtain ⟨a_2, h_3, hf⟩ := zx_p hf
      refine zg_get (pc' := 25) (ci := 8) hx hb htT zi_M hown hK h_1 rfl rfl 11 (by decide) (htT _ zt_816) (fun _ h9 => h9) (zx_hv h_3) zd_M_readCertificate_22 rfl ?_
      refine zg_1 (pc' := 27) (fun _ _ _ _ _ hl w => lv_bipush (v := (9 : Int32)) hx hb zd_M_readCertificate_25 (by decide) w) ?_
      refine zg_1 (pc' := 30) (fun _ _ _ _ _ hl w => lv_ldc2 (v := (-1 : Int64)) hx hb hown (htT _ zt_804) zd_M_readCertificate_27 w) ?_
      obtain ⟨h_5, hf⟩ := zx_ck hf
      obtain ⟨s_4, e_s_4, hf⟩ := zx_l hf
      refine zg_last (pc' := 31) hx hb hK h_5 e_s_4 zd_M_readCertificate_30 rfl ?_
      refine zg_1 (pc' := 32) (fun _ _ _ _ _ hl w => lv_aload_n hx hb zd_M_readCertificate_31 rfl (lv_at hl 0 rfl) w) ?_
      refine zg_1 (pc' := 34) (fun _ _ _ _ _ hl w => lv_bipush (v := (48 : Int32)) hx hb zd_M_readCertificate_32 (by decide) w) ?_
      refine zg_1 (pc' := 35) (fun _ _ _ _ _ hl w => lv_aload_n hx hb zd_M_readCertificate_34 rfl (lv_at hl 0 rfl) w) ?_
      obtain ⟨h_6, hf⟩ := zx_ck hf
      refine zg_get (pc' := 38) (ci := 8) hx hb htT zi_M hown hK h_6 rfl rfl 1 (by decide) (htT _ zt_806) (fun _ h9 => h9) rfl zd_M_readCertificate_35 rfl ?_
      obtain ⟨i_8, s_7, hq, hf⟩ := zx_b hf
      refine zg_call (pc' := 41) (y := s_7) (rv := (some (.int i_8))) (rest := []) X hR (zm_M_head hq) (fun H locs ls k j hsz hI hU hk => va_runV (As := [.int (48 : Int32), .int (zh_I s_4 a0 1)]) (rest := []) ⟨hx, hb, hml, hown, htT⟩ (zc_M_head l h0 D dA tb n hq) (cwV 2 htT (zw_gV zt_1007 zt_1009 zt_40 zt_71 zt_1010) rfl rfl rfl (by decide +kernel) ⟨Nat.le_trans (Nat.le_of_ble_eq_true rfl) hF.1, Nat.le_trans (Nat.le_of_ble_eq_true rfl) hF.2⟩) ⟨(zg_pre hU).1, zg_recv hK hI h_6 rfl, (zg_pre hU).2⟩ rfl rfl hsz rfl (lv_room (Nat.le_of_ble_eq_true rfl)) zd_M_readCertificate_38 hk) rfl ?_
      refine zg_s (pc' := 42) (lv' := [(1, .int i_8), (0, .ref (h0 + a0))]) (fun _ _ _ _ _ hl w => lv_istore_n hx hb zd_M_readCertificate_41 rfl hl (by decide) rfl w) ?_
      refine zg_1 (pc' := 43) (fun _ _ _ _ _ hl w => lv_aload_n hx hb zd_M_readCertificate_42 rfl (lv_at hl 1 rfl) w) ?_
      obtain ⟨h_9, hf⟩ := zx_ck hf
      refine zg_get (pc' := 46) (ci := 8) hx hb htT zi_M hown hK h_9 rfl rfl 9 (by decide) (htT _ zt_814) (fun _ h9 => h9) rfl zd_M_readCertificate_43 rfl ?_
      obtain ⟨i_10, e_i_10, hf⟩ := zx_l hf
      refine zg_ti e_i_10 ?_
      refine zg_s (pc' := 47) (lv' := [(2, .int i_10), (1, .int i_8), (0, .ref (h0 + a0))]) (fun _ _ _ _ _ hl w => lv_istore_n hx hb zd_M_readCertificate_46 rfl hl (by decide) rfl w) ?_
      refine zg_1 (pc' := 48) (fun _ _ _ _ _ hl w => lv_aload_n hx hb zd_M_readCertificate_47 rfl (lv_at hl 2 rfl) w) ?_
      refine zg_1 (pc' := 50) (fun _ _ _ _ _ hl w => lv_bipush (v := (48 : Int32)) hx hb zd_M_readCertificate_48 (by decide) w) ?_
      refine zg_1 (pc' := 51) (fun _ _ _ _ _ hl w => lv_iload_n hx hb zd_M_readCertificate_50 rfl (lv_at hl 1 rfl) w) ?_
      obtain ⟨i_12, s_11, hq, hf⟩ := zx_b hf
      refine zg_call (pc' := 54) (y := s_11) (rv := (some (.int i_12))) (rest := []) X hR (zm_M_head hq) (fun H locs ls k j hsz hI hU hk => va_runV (As := [.int (48 : Int32), .int i_8]) (rest := []) ⟨hx, hb, hml, hown, htT⟩ (zc_M_head l h0 D dA tb n hq) (cwV 2 htT (zw_gV zt_1007 zt_1009 zt_40 zt_71 zt_1010) rfl rfl rfl (by decide +kernel) ⟨Nat.le_trans (Nat.le_of_ble_eq_true rfl) hF.1, Nat.le_trans (Nat.le_of_ble_eq_true rfl) hF.2⟩) ⟨(zg_pre hU).1, zg_recv hK hI h_9 rfl, (zg_pre hU).2⟩ rfl rfl hsz rfl (lv_room (Nat.le_of_ble_eq_true rfl)) zd_M_readCertificate_51 hk) rfl ?_
      refine zg_s (pc' := 55) (lv' := [(3, .int i_12), (2, .int i_10), (1, .int i_8), (0, .ref (h0 + a0))]) (fun _ _ _ _ _ hl w => lv_istore_n hx hb zd_M_readCertificate_54 rfl hl (by decide) rfl w) ?_
      refine zg_1 (pc' := 56) (fun _ _ _ _ _ hl w => lv_iload_n hx hb zd_M_readCertificate_55 rfl (lv_at hl 0 rfl) w) ?_
      refine zg_s (pc' := 58) (lv' := [(4, .int i_12), (3, .int i_12), (2, .int i_10), (1, .int i_8), (0, .ref (h0 + a0))]) (fun _ _ _ _ _ hl w => lv_istore hx hb zd_M_readCertificate_56 hl (by decide) rfl w) ?_
      refine zg_1 (pc' := 59) (fun _ _ _ _ _ hl w => lv_aload_n hx hb zd_M_readCertificate_58 rfl (lv_at hl 4 rfl) w) ?_
      obtain ⟨h_13, hf⟩ := zx_ck hf
      obtain ⟨a_14, h_15, hf⟩ := zx_p hf
      refine zg_get (pc' := 62) (ci := 8) hx hb htT zi_M hown hK h_13 rfl rfl 11 (by decide) (htT _ zt_816) (fun _ h9 => h9) (zx_hv h_15) zd_M_readCertificate_59 rfl ?_
      refine zg_1 (pc' := 63) (fun _ _ _ _ _ hl w => lv_iconst (v := (0 : Int32)) hx hb zd_M_readCertificate_62 (by decide) w) ?_
      refine zg_1 (pc' := 64) (fun _ _ _ _ _ hl w => lv_aload_n hx hb zd_M_readCertificate_63 rfl (lv_at hl 4 rfl) w) ?_
      refine zg_1 (pc' := 65) (fun _ _ _ _ _ hl w => lv_iload_n hx hb zd_M_readCertificate_64 rfl (lv_at hl 1 rfl) w) ?_
      obtain ⟨j_17, s_16, hq, hf⟩ := zx_b hf
      refine zg_call (pc' := 68) (y := s_16) (rv := (some (.long j_17))) (rest := [.int (0 : Int32), .ref (h0 + a_14)]) X hR (zm_M_number hq) (fun H locs ls k j hsz hI hU hk => va_runV (As := [.int i_12]) (rest := [.int (0 : Int32), .ref (h0 + a_14)]) ⟨hx, hb, hml, hown, htT⟩ (zc_M_number l h0 D dA tb n hq) (cwV 1 htT (zw_gV zt_1015 zt_1017 zt_42 zt_71 zt_1018) rfl rfl rfl (by decide +kernel) ⟨Nat.le_trans (Nat.le_of_ble_eq_true rfl) hF.1, Nat.le_trans (Nat.le_of_ble_eq_true rfl) hF.2⟩) ⟨(zg_pre hU).1, zg_recv hK hI h_13 rfl, (zg_pre hU).2⟩ rfl rfl hsz rfl (lv_room (Nat.le_of_ble_eq_true rfl)) zd_M_readCertificate_65 hk) rfl ?_
      obtain ⟨h_19, hf⟩ := zx_ck hf
      obtain ⟨s_18, e_s_18, hf⟩ := zx_l hf
      refine zg_last (pc' := 69) hx hb hK h_19 e_s_18 zd_M_readCertificate_68 rfl ?_
      refine zg_1 (pc' := 70) (fun _ _ _ _ _ hl w => lv_aload_n hx hb zd_M_readCertificate_69 rfl (lv_at hl 4 rfl) w) ?_
      obtain ⟨h_20, hf⟩ := zx_ck hf
      obtain ⟨a_21, h_22, hf⟩ := zx_p hf
      refine zg_get (pc' := 73) (ci := 8) hx hb htT zi_M hown hK h_20 rfl rfl 11 (by decide) (htT _ zt_816) (fun _ h9 => h9) (zx_hv h_22) zd_M_readCertificate_70 rfl ?_
      refine zg_1 (pc' := 74) (fun _ _ _ _ _ hl w => lv_iconst (v := (1 : Int32)) hx hb zd_M_readCertificate_73 (by decide) w) ?_
      refine zg_1 (pc' := 75) (fun _ _ _ _ _ hl w => lv_aload_n hx hb zd_M_readCertificate_74 rfl (lv_at hl 4 rfl) w) ?_
      refine zg_1 (pc' := 77) (fun _ _ _ _ _ hl w => lv_bipush (v := (19 : Int32)) hx hb zd_M_readCertificate_75 (by decide) w) ?_
      refine zg_1 (pc' := 78) (fun _ _ _ _ _ hl w => lv_iload_n hx hb zd_M_readCertificate_77 rfl (lv_at hl 1 rfl) w) ?_
      obtain ⟨j_24, s_23, hq, hf⟩ := zx_b hf
      refine zg_call (pc' := 81) (y := s_23) (rv := (some (.long j_24))) (rest := [.int (1 : Int32), .ref (h0 + a_21)]) X hR (zm_M_title hq) (fun H locs ls k j hsz hI hU hk => va_runV (As := [.int (19 : Int32), .int i_12]) (rest := [.int (1 : Int32), .ref (h0 + a_21)]) ⟨hx, hb, hml, hown, htT⟩ (zc_M_title l h0 D dA tb n hq) (cwV 2 htT (zw_gV zt_1020 zt_1022 zt_43 zt_71 zt_1023) rfl rfl rfl (by decide +kernel) ⟨Nat.le_trans (Nat.le_of_ble_eq_true rfl) hF.1, Nat.le_trans (Nat.le_of_ble_eq_true rfl) hF.2⟩) ⟨(zg_pre hU).1, zg_recv hK hI h_20 rfl, (zg_pre hU).2⟩ rfl rfl hsz rfl (lv_room (Nat.le_of_ble_eq_true rfl)) zd_M_readCertificate_78 hk) rfl ?_
      obtain ⟨h_26, hf⟩ := zx_ck hf
      obtain ⟨s_25, e_s_25, hf⟩ := zx_l hf
      refine zg_last (pc' := 82) hx hb hK h_26 e_s_25 zd_M_readCertificate_81 rfl ?_
      refine zg_1 (pc' := 83) (fun _ _ _ _ _ hl w => lv_aload_n hx hb zd_M_readCertificate_82 rfl (lv_at hl 4 rfl) w) ?_
      obtain ⟨h_27, hf⟩ := zx_ck hf
      obtain ⟨a_28, h_29, hf⟩ := zx_p hf
      refine zg_get (pc' := 86) (ci := 8) hx hb htT zi_M hown hK h_27 rfl rfl 11 (by decide) (htT _ zt_816) (fun _ h9 => h9) (zx_hv h_29) zd_M_readCertificate_83 rfl ?_
      refine zg_1 (pc' := 87) (fun _ _ _ _ _ hl w => lv_iconst (v := (2 : Int32)) hx hb zd_M_readCertificate_86 (by decide) w) ?_
      refine zg_1 (pc' := 88) (fun _ _ _ _ _ hl w => lv_aload_n hx hb zd_M_readCertificate_87 rfl (lv_at hl 4 rfl) w) ?_
      refine zg_1 (pc' := 89) (fun _ _ _ _ _ hl w => lv_iload_n hx hb zd_M_readCertificate_88 rfl (lv_at hl 1 rfl) w) ?_
      obtain ⟨j_31, s_30, hq, hf⟩ := zx_b hf
      refine zg_call (pc' := 92) (y := s_30) (rv := (some (.long j_31))) (rest := [.int (2 : Int32), .ref (h0 + a_28)]) X hR (zm_M_number hq) (fun H locs ls k j hsz hI hU hk => va_runV (As := [.int i_12]) (rest := [.int (2 : Int32), .ref (h0 + a_28)]) ⟨hx, hb, hml, hown, htT⟩ (zc_M_number l h0 D dA tb n hq) (cwV 1 htT (zw_gV zt_1015 zt_1017 zt_42 zt_71 zt_1018) rfl rfl rfl (by decide +kernel) ⟨Nat.le_trans (Nat.le_of_ble_eq_true rfl) hF.1, Nat.le_trans (Nat.le_of_ble_eq_true rfl) hF.2⟩) ⟨(zg_pre hU).1, zg_recv hK hI h_27 rfl, (zg_pre hU).2⟩ rfl rfl hsz rfl (lv_room (Nat.le_of_ble_eq_true rfl)) zd_M_readCertificate_89 hk) rfl ?_
      obtain ⟨h_33, hf⟩ := zx_ck hf
      obtain ⟨s_32, e_s_32, hf⟩ := zx_l hf
      refine zg_last (pc' := 93) hx hb hK h_33 e_s_32 zd_M_readCertificate_92 rfl ?_
      refine zg_1 (pc' := 94) (fun _ _ _ _ _ hl w => lv_aload_n hx hb zd_M_readCertificate_93 rfl (lv_at hl 4 rfl) w) ?_
      obtain ⟨h_34, hf⟩ := zx_ck hf
      obtain ⟨a_35, h_36, hf⟩ := zx_p hf
      refine zg_get (pc' := 97) (ci := 8) hx hb htT zi_M hown hK h_34 rfl rfl 11 (by decide) (htT _ zt_816) (fun _ h9 => h9) (zx_hv h_36) zd_M_readCertificate_94 rfl ?_
      refine zg_1 (pc' := 98) (fun _ _ _ _ _ hl w => lv_iconst (v := (3 : Int32)) hx hb zd_M_readCertificate_97 (by decide) w) ?_
      refine zg_1 (pc' := 99) (fun _ _ _ _ _ hl w => lv_aload_n hx hb zd_M_readCertificate_98 rfl (lv_at hl 4 rfl) w) ?_
      refine zg_1 (pc' := 100) (fun _ _ _ _ _ hl w => lv_iload_n hx hb zd_M_readCertificate_99 rfl (lv_at hl 1 rfl) w) ?_
      obtain ⟨j_38, s_37, hq, hf⟩ := zx_b hf
      refine zg_call (pc' := 103) (y := s_37) (rv := (some (.long j_38))) (rest := [.int (3 : Int32), .ref (h0 + a_35)]) X hR (zm_M_number hq) (fun H locs ls k j hsz hI hU hk => va_runV (As := [.int i_12]) (rest := [.int (3 : Int32), .ref (h0 + a_35)]) ⟨hx, hb, hml, hown, htT⟩ (zc_M_number l h0 D dA tb n hq) (cwV 1 htT (zw_gV zt_1015 zt_1017 zt_42 zt_71 zt_1018) rfl rfl rfl (by decide +kernel) ⟨Nat.le_trans (Nat.le_of_ble_eq_true rfl) hF.1, Nat.le_trans (Nat.le_of_ble_eq_true rfl) hF.2⟩) ⟨(zg_pre hU).1, zg_recv hK hI h_34 rfl, (zg_pre hU).2⟩ rfl rfl hsz rfl (lv_room (Nat.le_of_ble_eq_true rfl)) zd_M_readCertificate_100 hk) rfl ?_
      obtain ⟨h_40, hf⟩ := zx_ck hf
      obtain ⟨s_39, e_s_39, hf⟩ := zx_l hf
      refine zg_last (pc' := 104) hx hb hK h_40 e_s_39 zd_M_readCertificate_103 rfl ?_
      refine zg_1 (pc' := 105) (fun _ _ _ _ _ hl w => lv_aload_n hx hb zd_M_readCertificate_104 rfl (lv_at hl 4 rfl) w) ?_
      obtain ⟨h_41, hf⟩ := zx_ck hf
      obtain ⟨a_42, h_43, hf⟩ := zx_p hf
      refine zg_get (pc' := 108) (ci := 8) hx hb htT zi_M hown hK h_41 rfl rfl 11 (by decide) (htT _ zt_816) (fun _ h9 => h9) (zx_hv h_43) zd_M_readCertificate_105 rfl ?_
      refine zg_1 (pc' := 109) (fun _ _ _ _ _ hl w => lv_iconst (v := (4 : Int32)) hx hb zd_M_readCertificate_108 (by decide) w) ?_
      refine zg_1 (pc' := 110) (fun _ _ _ _ _ hl w => lv_aload_n hx hb zd_M_readCertificate_109 rfl (lv_at hl 4 rfl) w) ?_
      refine zg_1 (pc' := 112) (fun _ _ _ _ _ hl w => lv_bipush (v := (19 : Int32)) hx hb zd_M_readCertificate_110 (by decide) w) ?_
      refine zg_1 (pc' := 113) (fun _ _ _ _ _ hl w => lv_iload_n hx hb zd_M_readCertificate_112 rfl (lv_at hl 1 rfl) w) ?_
      obtain ⟨j_45, s_44, hq, hf⟩ := zx_b hf
      refine zg_call (pc' := 116) (y := s_44) (rv := (some (.long j_45))) (rest := [.int (4 : Int32), .ref (h0 + a_42)]) X hR (zm_M_title hq) (fun H locs ls k j hsz hI hU hk => va_runV (As := [.int (19 : Int32), .int i_12]) (rest := [.int (4 : Int32), .ref (h0 + a_42)]) ⟨hx, hb, hml, hown, htT⟩ (zc_M_title l h0 D dA tb n hq) (cwV 2 htT (zw_gV zt_1020 zt_1022 zt_43 zt_71 zt_1023) rfl rfl rfl (by decide +kernel) ⟨Nat.le_trans (Nat.le_of_ble_eq_true rfl) hF.1, Nat.le_trans (Nat.le_of_ble_eq_true rfl) hF.2⟩) ⟨(zg_pre hU).1, zg_recv hK hI h_41 rfl, (zg_pre hU).2⟩ rfl rfl hsz rfl (lv_room (Nat.le_of_ble_eq_true rfl)) zd_M_readCertificate_113 hk) rfl ?_
      obtain ⟨h_47, hf⟩ := zx_ck hf
      obtain ⟨s_46, e_s_46, hf⟩ := zx_l hf
      refine zg_last (pc' := 117) hx hb hK h_47 e_s_46 zd_M_readCertificate_116 rfl ?_
      refine zg_1 (pc' := 118) (fun _ _ _ _ _ hl w => lv_aload_n hx hb zd_M_readCertificate_117 rfl (lv_at hl 4 rfl) w) ?_
      obtain ⟨h_48, hf⟩ := zx_ck hf
      obtain ⟨a_49, h_50, hf⟩ := zx_p hf
      refine zg_get (pc' := 121) (ci := 8) hx hb htT zi_M hown hK h_48 rfl rfl 11 (by decide) (htT _ zt_816) (fun _ h9 => h9) (zx_hv h_50) zd_M_readCertificate_118 rfl ?_
      refine zg_1 (pc' := 122) (fun _ _ _ _ _ hl w => lv_iconst (v := (5 : Int32)) hx hb zd_M_readCertificate_121 (by decide) w) ?_
      refine zg_1 (pc' := 123) (fun _ _ _ _ _ hl w => lv_aload_n hx hb zd_M_readCertificate_122 rfl (lv_at hl 4 rfl) w) ?_
      refine zg_1 (pc' := 124) (fun _ _ _ _ _ hl w => lv_iload_n hx hb zd_M_readCertificate_123 rfl (lv_at hl 1 rfl) w) ?_
      obtain ⟨j_52, s_51, hq, hf⟩ := zx_b hf
      refine zg_call (pc' := 127) (y := s_51) (rv := (some (.long j_52))) (rest := [.int (5 : Int32), .ref (h0 + a_49)]) X hR (zm_M_number hq) (fun H locs ls k j hsz hI hU hk => va_runV (As := [.int i_12]) (rest := [.int (5 : Int32), .ref (h0 + a_49)]) ⟨hx, hb, hml, hown, htT⟩ (zc_M_number l h0 D dA tb n hq) (cwV 1 htT (zw_gV zt_1015 zt_1017 zt_42 zt_71 zt_1018) rfl rfl rfl (by decide +kernel) ⟨Nat.le_trans (Nat.le_of_ble_eq_true rfl) hF.1, Nat.le_trans (Nat.le_of_ble_eq_true rfl) hF.2⟩) ⟨(zg_pre hU).1, zg_recv hK hI h_48 rfl, (zg_pre hU).2⟩ rfl rfl hsz rfl (lv_room (Nat.le_of_ble_eq_true rfl)) zd_M_readCertificate_124 hk) rfl ?_
      obtain ⟨h_54, hf⟩ := zx_ck hf
      obtain ⟨s_53, e_s_53, hf⟩ := zx_l hf
      refine zg_last (pc' := 128) hx hb hK h_54 e_s_53 zd_M_readCertificate_127 rfl ?_
      refine zg_1 (pc' := 129) (fun _ _ _ _ _ hl w => lv_aload_n hx hb zd_M_readCertificate_128 rfl (lv_at hl 4 rfl) w) ?_
      obtain ⟨h_55, hf⟩ := zx_ck hf
      obtain ⟨a_56, h_57, hf⟩ := zx_p hf
      refine zg_get (pc' := 132) (ci := 8) hx hb htT zi_M hown hK h_55 rfl rfl 11 (by decide) (htT _ zt_816) (fun _ h9 => h9) (zx_hv h_57) zd_M_readCertificate_129 rfl ?_
      refine zg_1 (pc' := 134) (fun _ _ _ _ _ hl w => lv_bipush (v := (6 : Int32)) hx hb zd_M_readCertificate_132 (by decide) w) ?_
      refine zg_1 (pc' := 135) (fun _ _ _ _ _ hl w => lv_aload_n hx hb zd_M_readCertificate_134 rfl (lv_at hl 4 rfl) w) ?_
      refine zg_1 (pc' := 136) (fun _ _ _ _ _ hl w => lv_iload_n hx hb zd_M_readCertificate_135 rfl (lv_at hl 1 rfl) w) ?_
      obtain ⟨j_59, s_58, hq, hf⟩ := zx_b hf
      refine zg_call (pc' := 139) (y := s_58) (rv := (some (.long j_59))) (rest := [.int (6 : Int32), .ref (h0 + a_56)]) X hR (zm_M_number hq) (fun H locs ls k j hsz hI hU hk => va_runV (As := [.int i_12]) (rest := [.int (6 : Int32), .ref (h0 + a_56)]) ⟨hx, hb, hml, hown, htT⟩ (zc_M_number l h0 D dA tb n hq) (cwV 1 htT (zw_gV zt_1015 zt_1017 zt_42 zt_71 zt_1018) rfl rfl rfl (by decide +kernel) ⟨Nat.le_trans (Nat.le_of_ble_eq_true rfl) hF.1, Nat.le_trans (Nat.le_of_ble_eq_true rfl) hF.2⟩) ⟨(zg_pre hU).1, zg_recv hK hI h_55 rfl, (zg_pre hU).2⟩ rfl rfl hsz rfl (lv_room (Nat.le_of_ble_eq_true rfl)) zd_M_readCertificate_136 hk) rfl ?_
      obtain ⟨h_61, hf⟩ := zx_ck hf
      obtain ⟨s_60, e_s_60, hf⟩ := zx_l hf
      refine zg_last (pc' := 140) hx hb hK h_61 e_s_60 zd_M_readCertificate_139 rfl ?_
      refine zg_1 (pc' := 141) (fun _ _ _ _ _ hl w => lv_aload_n hx hb zd_M_readCertificate_140 rfl (lv_at hl 4 rfl) w) ?_
      refine zg_1 (pc' := 143) (fun _ _ _ _ _ hl w => lv_bipush (v := (48 : Int32)) hx hb zd_M_readCertificate_141 (by decide) w) ?_
      refine zg_1 (pc' := 144) (fun _ _ _ _ _ hl w => lv_iload_n hx hb zd_M_readCertificate_143 rfl (lv_at hl 1 rfl) w) ?_
      obtain ⟨h_62, hf⟩ := zx_ck hf
      obtain ⟨i_63, hq, hf⟩ := zx_p hf
      refine zg_call (pc' := 147) (y := s_60) (rv := (some (.int i_63))) (rest := []) X hR ⟨Nat.le_refl _, Nat.le_refl _⟩ (fun H locs ls k j hsz hI hU hk => va_runV (As := [.int (48 : Int32), .int i_12]) (rest := []) ⟨hx, hb, hml, hown, htT⟩ (zc_M_next l h0 D dA tb n hq) (cwV 2 htT (zw_gV zt_1024 zt_1026 zt_44 zt_71 zt_1027) rfl rfl rfl (by decide +kernel) ⟨Nat.le_trans (Nat.le_of_ble_eq_true rfl) hF.1, Nat.le_trans (Nat.le_of_ble_eq_true rfl) hF.2⟩) ⟨(zg_pre hU).1, zg_recv hK hI h_62 rfl, (zg_pre hU).2⟩ rfl rfl hsz rfl (lv_room (Nat.le_of_ble_eq_true rfl)) zd_M_readCertificate_144 hk) rfl ?_
      refine zg_2 (pc1 := 200) (pc2 := 150) (Classical.em _) (fun _ _ _ _ _ w1 w2 => lv_if_eq hx hb zd_M_readCertificate_147 (by decide) w1 w2) (fun hc => ?_) (fun hc => ?_)
      · rw [if_pos hc] at hf
        refine zg_v [4, 3, 2, 1, 0] rfl ?_
        exact zw_M_readCertificate_200 X hR hF hret n s_60 a0 i_8 i_10 i_12 i_12 hf
      · rw [if_neg hc] at hf
        refine zg_1 (pc' := 151) (fun _ _ _ _ _ hl w => lv_aload_n hx hb zd_M_readCertificate_150 rfl (lv_at hl 4 rfl) w) ?_
        refine zg_1 (pc' := 153) (fun _ _ _ _ _ hl w => lv_bipush (v := (48 : Int32)) hx hb zd_M_readCertificate_151 (by decide) w) ?_
        refine zg_1 (pc' := 154) (fun _ _ _ _ _ hl w => lv_iload_n hx hb zd_M_readCertificate_153 rfl (lv_at hl 1 rfl) w) ?_
        obtain ⟨i_65, s_64, hq, hf⟩ := zx_b hf
        refine zg_call (pc' := 157) (y := s_64) (rv := (some (.int i_65))) (rest := []) X hR (zm_M_head hq) (fun H locs ls k j hsz hI hU hk => va_runV (As := [.int (48 : Int32), .int i_12]) (rest := []) ⟨hx, hb, hml, hown, htT⟩ (zc_M_head l h0 D dA tb n hq) (cwV 2 htT (zw_gV zt_1007 zt_1009 zt_40 zt_71 zt_1010) rfl rfl rfl (by decide +kernel) ⟨Nat.le_trans (Nat.le_of_ble_eq_true rfl) hF.1, Nat.le_trans (Nat.le_of_ble_eq_true rfl) hF.2⟩) ⟨(zg_pre hU).1, zg_recv hK hI h_62 rfl, (zg_pre hU).2⟩ rfl rfl hsz rfl (lv_room (Nat.le_of_ble_eq_true rfl)) zd_M_readCertificate_154 hk) rfl ?_
        refine zg_s (pc' := 159) (lv' := [(5, .int i_65), (4, .int i_12), (3, .int i_12), (2, .int i_10), (1, .int i_8), (0, .ref (h0 + a0))]) (fun _ _ _ _ _ hl w => lv_istore hx hb zd_M_readCertificate_157 hl (by decide) rfl w) ?_
        refine zg_1 (pc' := 160) (fun _ _ _ _ _ hl w => lv_aload_n hx hb zd_M_readCertificate_159 rfl (lv_at hl 5 rfl) w) ?_
        refine zg_1 (pc' := 163) (fun _ _ _ _ _ hl w => lv_ldc2 (v := (-1 : Int64)) hx hb hown (htT _ zt_804) zd_M_readCertificate_160 w) ?_
        refine zg_1 (pc' := 165) (fun _ _ _ _ _ hl w => lv_iload hx hb zd_M_readCertificate_163 (lv_at hl 0 rfl) w) ?_
        obtain ⟨h_67, hf⟩ := zx_ck hf
        obtain ⟨j_68, s_66, hq, hf⟩ := zx_b hf
        refine zg_call (pc' := 168) (y := s_66) (rv := (some (.long j_68))) (rest := []) X hR (zm_M_extension hq) (fun H locs ls k j hsz hI hU hk => va_runV (As := [.long (-1 : Int64), .int i_65]) (rest := []) ⟨hx, hb, hml, hown, htT⟩ (zc_M_extension l h0 D dA tb n hq) (cwV 2 htT (zw_gV zt_1028 zt_1030 zt_45 zt_71 zt_1031) rfl rfl rfl (by decide +kernel) ⟨Nat.le_trans (Nat.le_of_ble_eq_true rfl) hF.1, Nat.le_trans (Nat.le_of_ble_eq_true rfl) hF.2⟩) ⟨(zg_pre hU).1, zg_recv hK hI h_67 rfl, (zg_pre hU).2⟩ rfl rfl hsz rfl (lv_room (Nat.le_of_ble_eq_true rfl)) zd_M_readCertificate_165 hk) rfl ?_
        refine zg_s (pc' := 170) (lv' := [(6, .long j_68), (5, .int i_65), (4, .int i_12), (3, .int i_12), (2, .int i_10), (1, .int i_8), (0, .ref (h0 + a0))]) (fun _ _ _ _ _ hl w => lv_lstore hx hb zd_M_readCertificate_168 hl (by decide) rfl w) ?_
        refine zg_v [6, 5, 4, 3, 2, 1, 0] rfl ?_
        exact zw_M_readCertificate_170 X hR hF hret n n s_66 a0 i_8 i_10 i_12 i_12 i_65 j_68 hf
    · rw [if_neg hc] at hf
      refine zg_1 (pc' := 9) (fun _ _ _ _ _ hl w => lv_aload_n hx hb zd_M_readCertificate_8 rfl (lv_at hl 0 rfl) w) ?_
      obtain ⟨h_69, hf⟩ := zx_ck hf
      obtain ⟨a_70, h_71, hf⟩ := zx_p hf
      refine zg_get (pc' := 12) (ci := 8) hx hb htT zi_M hown hK h_69 rfl rfl 11 (by decide) (htT _ zt_816) (fun _ h9 => h9) (zx_hv h_71) zd_M_readCertificate_9 rfl ?_
      refine zg_1 (pc' := 13) (fun _ _ _ _ _ hl w => lv_iload_n hx hb zd_M_readCertificate_12 rfl (lv_at hl 1 rfl) w) ?_
      refine zg_1 (pc' := 14) (fun _ _ _ _ _ hl w => lv_lconst (v := (0 : Int64)) hx hb zd_M_readCertificate_13 (by decide) w) ?_
      obtain ⟨h_73, hf⟩ := zx_ck hf
      obtain ⟨s_72, e_s_72, hf⟩ := zx_l hf
      refine zg_last (pc' := 15) hx hb hK h_73 e_s_72 zd_M_readCertificate_14 rfl ?_
      obtain ⟨i_74, e_i_74, hf⟩ := zx_l hf
      refine zg_s (pc' := 18) (lv' := [(1, .int i_74), (0, .ref (h0 + a0))]) (fun _ _ _ _ _ hl w => lv_iinc (k := 1) (v := i_74) hx hb zd_M_readCertificate_15 hl rfl (by rw [e_i_74]; rfl) (by decide) rfl w) ?_
      refine zg_1 (pc' := 2) (fun _ _ _ _ _ hl w => lv_goto hx hb zd_M_readCertificate_18 (by decide) w) ?_
      refine zg_v [1, 0] rfl ?_
      exact ih s_72 a0 i_74 hf
set_option maxHeartbeats 4000000 in
theorem zc_M_readCertificate (l : Launch) (h0 : Nat) (D : va_G) (dA : Nat → ClassId) (tb : Nat → Nat) (n : Nat) {s0 : zh_S} {a0 : Nat} {z : zh_S} (hf : zf_M_readCertificate n s0 a0 = some z) : zc_M l zn_M_readCertificate zs_M_readCertificate 5 131 h0 D dA tb [.ref (h0 + a0)] s0 none z := by
  rw [zf_M_readCertificate] at hf
  refine zc_of (cc := ze_M_readCertificate) (maxL := 8) (ret := none) (lv := [(0, .ref (h0 + a0))]) (by decide) rfl (Nat.le_of_ble_eq_true rfl) rfl ?_
  intro p e s m args below meth c X hnm
  obtain ⟨hx, hb, hml, hown, htT, hrt, hlk, x00, hIn⟩ := id X
  have hK := hIn.2.1
  have hT := hIn.2.2.1
  have hNe := hIn.2.2.2
  have hR : zg_R { frames := 5, cells := zh_N z - zh_N s0, slots := zh_M z - zh_M s0, locals := 131 } (zh_N s0) (zh_M s0) z := ⟨by show zh_N z ≤ zh_N s0 + (zh_N z - zh_N s0); omega, by show zh_M z ≤ zh_M s0 + (zh_M z - zh_M s0); omega⟩
  have hF : 5 ≤ ({ frames := 5, cells := zh_N z - zh_N s0, slots := zh_M z - zh_M s0, locals := 131 } : Room).frames ∧ 131 ≤ ({ frames := 5, cells := zh_N z - zh_N s0, slots := zh_M z - zh_M s0, locals := 131 } : Room).locals := ⟨Nat.le_refl _, Nat.le_refl _⟩
  have hret := fun (pc : Nat) (lv : List (Nat × Value)) (hd : decode ze_M_readCertificate pc = .ok (.return_, 1)) => zg_vret (R := { frames := 5, cells := zh_N z - zh_N s0, slots := zh_M z - zh_M s0, locals := 131 }) (l := l) (e := e) (below := below) (c0 := zh_N s0) (s0 := zh_M s0) (z := z) (lv := lv) X hd
  refine zg_1 (pc' := 1) (fun _ _ _ _ _ hl w => lv_iconst (v := (0 : Int32)) hx hb zd_M_readCertificate_0 (by decide) w) ?_
  refine zg_s (pc' := 2) (lv' := [(1, .int (0 : Int32)), (0, .ref (h0 + a0))]) (fun _ _ _ _ _ hl w => lv_istore_n hx hb zd_M_readCertificate_1 rfl hl (by decide) rfl w) ?_
  refine zg_v [1, 0] rfl ?_
  exact zw_M_readCertificate_2 X hR hF hret n n s0 a0 (0 : Int32) hf
set_option maxHeartbeats 4000000 in
theorem zc_M_check (l : Launch) (h0 : Nat) (D : va_G) (dA : Nat → ClassId) (tb : Nat → Nat) (n : Nat) {s0 : zh_S} {a0 : Nat} {i1 : Int32} {r : Int32} {z : zh_S} (hf : zf_M_check n s0 a0 i1 = some (r, z)) : zc_M l zn_M_check zs_M_check 6 158 h0 D dA tb [.ref (h0 + a0), .int i1] s0 (some (.int r)) z := by
  rw [zf_M_check] at hf
  refine zc_of (cc := ze_M_check) (maxL := 2) (ret := (some .int)) (lv := [(0, .ref (h0 + a0)), (1, .int i1)]) (by decide) rfl (Nat.le_of_ble_eq_true rfl) rfl ?_
  intro p e s m args below meth c X hnm
  obtain ⟨hx, hb, hml, hown, htT, hrt, hlk, x00, hIn⟩ := id X
  have hK := hIn.2.1
  have hT := hIn.2.2.1
  have hNe := hIn.2.2.2
  have hR : zg_R { frames := 6, cells := zh_N z - zh_N s0, slots := zh_M z - zh_M s0, locals := 158 } (zh_N s0) (zh_M s0) z := ⟨by show zh_N z ≤ zh_N s0 + (zh_N z - zh_N s0); omega, by show zh_M z ≤ zh_M s0 + (zh_M z - zh_M s0); omega⟩
  have hF : 6 ≤ ({ frames := 6, cells := zh_N z - zh_N s0, slots := zh_M z - zh_M s0, locals := 158 } : Room).frames ∧ 158 ≤ ({ frames := 6, cells := zh_N z - zh_N s0, slots := zh_M z - zh_M s0, locals := 158 } : Room).locals := ⟨Nat.le_refl _, Nat.le_refl _⟩
  have hret := fun (pc : Nat) (lv : List (Nat × Value)) (hd : decode ze_M_check pc = .ok (.ireturn, 1)) => zg_iret (R := { frames := 6, cells := zh_N z - zh_N s0, slots := zh_M z - zh_M s0, locals := 158 }) (l := l) (e := e) (below := below) (c0 := zh_N s0) (s0 := zh_M s0) (z := z) (lv := lv) (v := r) X rfl hd
  refine zg_1 (pc' := 1) (fun _ _ _ _ _ hl w => lv_aload_n hx hb zd_M_check_0 rfl (lv_at hl 0 rfl) w) ?_
  refine zg_1 (pc' := 2) (fun _ _ _ _ _ hl w => lv_iconst (v := (0 : Int32)) hx hb zd_M_check_1 (by decide) w) ?_
  obtain ⟨h_2, hf⟩ := zx_ck hf
  obtain ⟨s_1, e_s_1, hf⟩ := zx_l hf
  refine zg_putI (pc' := 5) (ci := 8) (ty := .int) hx hb htT zi_M zy_M zo_M zj_M hown hK h_2 rfl rfl 9 (by decide) (htT _ zt_814) (fun _ h9 => h9) (Or.inl rfl) (by decide +kernel) rfl rfl rfl e_s_1 zd_M_check_2 rfl ?_
  refine zg_1 (pc' := 6) (fun _ _ _ _ _ hl w => lv_aload_n hx hb zd_M_check_5 rfl (lv_at hl 0 rfl) w) ?_
  refine zg_1 (pc' := 7) (fun _ _ _ _ _ hl w => lv_iconst (v := (0 : Int32)) hx hb zd_M_check_6 (by decide) w) ?_
  obtain ⟨s_3, e_s_3, hf⟩ := zx_l hf
  refine zg_putI (pc' := 10) (ci := 8) (ty := .int) hx hb htT zi_M zy_M zo_M zj_M hown hK (zx_oI e_s_1 h_2) rfl rfl 10 (by decide) (htT _ zt_815) (fun _ h9 => h9) (Or.inl rfl) (by decide +kernel) rfl rfl rfl e_s_3 zd_M_check_7 rfl ?_
  refine zg_1 (pc' := 11) (fun _ _ _ _ _ hl w => lv_iload_n hx hb zd_M_check_10 rfl (lv_at hl 1 rfl) w) ?_
  refine zg_2 (pc1 := 21) (pc2 := 14) (Classical.em _) (fun _ _ _ _ _ w1 w2 => lv_if_eq hx hb zd_M_check_11 (by decide) w1 w2) (fun hc => ?_) (fun hc => ?_)
  · rw [if_pos hc] at hf
    refine zg_1 (pc' := 22) (fun _ _ _ _ _ hl w => lv_aload_n hx hb zd_M_check_21 rfl (lv_at hl 0 rfl) w) ?_
    obtain ⟨s_4, hq, hf⟩ := zx_p hf
    refine zg_call (pc' := 25) (y := s_4) (rv := none) (rest := []) X hR (zm_M_readList hq) (fun H locs ls k j hsz hI hU hk => va_runV (As := []) (rest := []) ⟨hx, hb, hml, hown, htT⟩ (zc_M_readList l h0 D dA tb n hq) (cwV 0 htT (zw_gV zt_1049 zt_1051 zt_50 zt_71 zt_1052) rfl rfl rfl (by decide +kernel) ⟨Nat.le_trans (Nat.le_of_ble_eq_true rfl) hF.1, Nat.le_trans (Nat.le_of_ble_eq_true rfl) hF.2⟩) ⟨(zg_pre hU).1, zg_recv hK hI (zx_oI e_s_3 (zx_oI e_s_1 h_2)) rfl, (zg_pre hU).2⟩ rfl rfl hsz rfl (lv_room (Nat.le_of_ble_eq_true rfl)) zd_M_check_22 hk) rfl ?_
    refine zg_1 (pc' := 26) (fun _ _ _ _ _ hl w => lv_aload_n hx hb zd_M_check_25 rfl (lv_at hl 0 rfl) w) ?_
    obtain ⟨h_5, hf⟩ := zx_ck hf
    refine zg_get (pc' := 29) (ci := 8) hx hb htT zi_M hown hK h_5 rfl rfl 10 (by decide) (htT _ zt_815) (fun _ h9 => h9) rfl zd_M_check_26 rfl ?_
    obtain ⟨rfl, rfl⟩ := zx_r2 hf
    exact hret _ _ zd_M_check_29
  · rw [if_neg hc] at hf
    refine zg_1 (pc' := 15) (fun _ _ _ _ _ hl w => lv_aload_n hx hb zd_M_check_14 rfl (lv_at hl 0 rfl) w) ?_
    obtain ⟨s_6, hq, hf⟩ := zx_p hf
    refine zg_call (pc' := 18) (y := s_6) (rv := none) (rest := []) X hR (zm_M_readCertificate hq) (fun H locs ls k j hsz hI hU hk => va_runV (As := []) (rest := []) ⟨hx, hb, hml, hown, htT⟩ (zc_M_readCertificate l h0 D dA tb n hq) (cwV 0 htT (zw_gV zt_1003 zt_1005 zt_39 zt_71 zt_1006) rfl rfl rfl (by decide +kernel) ⟨Nat.le_trans (Nat.le_of_ble_eq_true rfl) hF.1, Nat.le_trans (Nat.le_of_ble_eq_true rfl) hF.2⟩) ⟨(zg_pre hU).1, zg_recv hK hI (zx_oI e_s_3 (zx_oI e_s_1 h_2)) rfl, (zg_pre hU).2⟩ rfl rfl hsz rfl (lv_room (Nat.le_of_ble_eq_true rfl)) zd_M_check_15 hk) rfl ?_
    refine zg_1 (pc' := 25) (fun _ _ _ _ _ hl w => lv_goto hx hb zd_M_check_18 (by decide) w) ?_
    refine zg_1 (pc' := 26) (fun _ _ _ _ _ hl w => lv_aload_n hx hb zd_M_check_25 rfl (lv_at hl 0 rfl) w) ?_
    obtain ⟨h_7, hf⟩ := zx_ck hf
    refine zg_get (pc' := 29) (ci := 8) hx hb htT zi_M hown hK h_7 rfl rfl 10 (by decide) (htT _ zt_815) (fun _ h9 => h9) rfl zd_M_check_26 rfl ?_
    obtain ⟨rfl, rfl⟩ := zx_r2 hf
    exact hret _ _ zd_M_check_29
set_option maxHeartbeats 4000000 in
theorem zw_M_storeList_108 {p : Program} {l : Launch} {e : Env} {R : Room} {s : State} {m : MethodId} {args : Array Value} {below : List Frame} {meth : Method} {c : Code} {Q : State → Prop} {h0 : Nat} {D : va_G} {dA : Nat → ClassId} {tb : Nat → Nat} {c0 k0 : Nat} {z : zh_S} {r : Int32} (X : zg_X p s m args meth c ze_M_storeList 3 zr_M (some .int) h0 D dA tb) (hR : zg_R R c0 k0 z) (hF : 0 ≤ R.frames ∧ 0 ≤ R.locals) (hret : ∀ (pc : Nat) (lv : List (Nat × Value)), decode ze_M_storeList pc = .ok (.ireturn, 1) → zg_G p l e R s m args below meth c Q h0 D dA 3 c0 k0 z z pc lv [.int r]) (n : Nat) (k : Nat) : ∀ (s0 : zh_S) (a0 : Nat) (i1 : Int32) (i2 : Int32), zl_M_storeList_108 n k s0 a0 i1 i2 = some (r, z) → zg_G p l e R s m args below meth c Q h0 D dA 3 c0 k0 z s0 108 [(0, .ref (h0 + a0)), (1, .int i1), (2, .int i2)] [] := by
  obtain ⟨hx, hb, hml, hown, htT, hrt, hlk, x00, hIn⟩ := id X
  have hK := hIn.2.1
  have hT := hIn.2.2.1
  have hNe := hIn.2.2.2
  induction k with
  | zero => intro s0 a0 i1 i2 hf; cases hf
  | succ k ih =>
    intro s0 a0 i1 i2 hf
    rw [zl_M_storeList_108] at hf
    refine zg_1 (pc' := 109) (fun _ _ _ _ _ hl w => lv_iload_n hx hb zd_M_storeList_108 rfl (lv_at hl 2 rfl) w) ?_
    refine zg_1 (pc' := 110) (fun _ _ _ _ _ hl w => lv_aload_n hx hb zd_M_storeList_109 rfl (lv_at hl 0 rfl) w) ?_
    obtain ⟨h_1, hf⟩ := zx_ck hf
    refine zg_get (pc' := 113) (ci := 8) hx hb htT zi_M hown hK h_1 rfl rfl 12 (by decide) (htT _ zt_817) (fun _ h9 => h9) rfl zd_M_storeList_110 rfl ?_
    refine zg_2 (pc1 := 154) (pc2 := 116) (Classical.em _) (fun _ _ _ _ _ w1 w2 => lv_icmp_ge hx hb zd_M_storeList_113 (by decide) w1 w2) (fun hc => ?_) (fun hc => ?_)
    · rw [if_pos hc] at hf
      refine zg_1 (pc' := 155) (fun _ _ _ _ _ hl w => lv_aload_n hx hb zd_M_storeList_154 rfl (lv_at hl 0 rfl) w) ?_
      refine zg_1 (pc' := 156) (fun _ _ _ _ _ hl w => lv_dup hx hb zd_M_storeList_155 rfl w) ?_
      refine zg_get (pc' := 159) (ci := 8) hx hb htT zi_M hown hK h_1 rfl rfl 17 (by decide) (htT _ zt_822) (fun _ h9 => h9) rfl zd_M_storeList_156 rfl ?_
      refine zg_1 (pc' := 160) (fun _ _ _ _ _ hl w => lv_iconst (v := (1 : Int32)) hx hb zd_M_storeList_159 (by decide) w) ?_
      refine zg_1 (pc' := 161) (fun _ _ _ _ _ hl w => lv_iadd hx hb zd_M_storeList_160 w) ?_
      obtain ⟨s_2, e_s_2, hf⟩ := zx_l hf
      refine zg_putI (pc' := 164) (ci := 8) (ty := .int) hx hb htT zi_M zy_M zo_M zj_M hown hK h_1 rfl rfl 17 (by decide) (htT _ zt_822) (fun _ h9 => h9) (Or.inl rfl) (by decide +kernel) rfl rfl rfl e_s_2 zd_M_storeList_161 rfl ?_
      refine zg_1 (pc' := 165) (fun _ _ _ _ _ hl w => lv_iload_n hx hb zd_M_storeList_164 rfl (lv_at hl 1 rfl) w) ?_
      obtain ⟨rfl, rfl⟩ := zx_r2 hf
      exact hret _ _ zd_M_storeList_165
    · rw [if_neg hc] at hf
      refine zg_1 (pc' := 117) (fun _ _ _ _ _ hl w => lv_aload_n hx hb zd_M_storeList_116 rfl (lv_at hl 0 rfl) w) ?_
      obtain ⟨a_3, h_4, hf⟩ := zx_p hf
      refine zg_get (pc' := 120) (ci := 8) hx hb htT zi_M hown hK h_1 rfl rfl 19 (by decide) (htT _ zt_824) (fun _ h9 => h9) (zx_hv h_4) zd_M_storeList_117 rfl ?_
      refine zg_1 (pc' := 121) (fun _ _ _ _ _ hl w => lv_iconst (v := (4 : Int32)) hx hb zd_M_storeList_120 (by decide) w) ?_
      refine zg_1 (pc' := 122) (fun _ _ _ _ _ hl w => lv_iload_n hx hb zd_M_storeList_121 rfl (lv_at hl 1 rfl) w) ?_
      refine zg_1 (pc' := 123) (fun _ _ _ _ _ hl w => lv_imul hx hb zd_M_storeList_122 w) ?_
      refine zg_1 (pc' := 124) (fun _ _ _ _ _ hl w => lv_iload_n hx hb zd_M_storeList_123 rfl (lv_at hl 2 rfl) w) ?_
      refine zg_1 (pc' := 125) (fun _ _ _ _ _ hl w => lv_iadd hx hb zd_M_storeList_124 w) ?_
      refine zg_1 (pc' := 126) (fun _ _ _ _ _ hl w => lv_aload_n hx hb zd_M_storeList_125 rfl (lv_at hl 0 rfl) w) ?_
      obtain ⟨a_5, h_6, hf⟩ := zx_p hf
      refine zg_get (pc' := 129) (ci := 8) hx hb htT zi_M hown hK h_1 rfl rfl 13 (by decide) (htT _ zt_818) (fun _ h9 => h9) (zx_hv h_6) zd_M_storeList_126 rfl ?_
      refine zg_1 (pc' := 130) (fun _ _ _ _ _ hl w => lv_iload_n hx hb zd_M_storeList_129 rfl (lv_at hl 2 rfl) w) ?_
      obtain ⟨h_7, hf⟩ := zx_ck hf
      refine zg_lald (pc' := 131) hx hb hK h_7 zd_M_storeList_130 rfl ?_
      obtain ⟨h_9, hf⟩ := zx_ck hf
      obtain ⟨s_8, e_s_8, hf⟩ := zx_l hf
      refine zg_last (pc' := 132) hx hb hK h_9 e_s_8 zd_M_storeList_131 rfl ?_
      refine zg_1 (pc' := 133) (fun _ _ _ _ _ hl w => lv_aload_n hx hb zd_M_storeList_132 rfl (lv_at hl 0 rfl) w) ?_
      obtain ⟨h_10, hf⟩ := zx_ck hf
      obtain ⟨a_11, h_12, hf⟩ := zx_p hf
      refine zg_get (pc' := 136) (ci := 8) hx hb htT zi_M hown hK h_10 rfl rfl 20 (by decide) (htT _ zt_825) (fun _ h9 => h9) (zx_hv h_12) zd_M_storeList_133 rfl ?_
      refine zg_1 (pc' := 137) (fun _ _ _ _ _ hl w => lv_iconst (v := (4 : Int32)) hx hb zd_M_storeList_136 (by decide) w) ?_
      refine zg_1 (pc' := 138) (fun _ _ _ _ _ hl w => lv_iload_n hx hb zd_M_storeList_137 rfl (lv_at hl 1 rfl) w) ?_
      refine zg_1 (pc' := 139) (fun _ _ _ _ _ hl w => lv_imul hx hb zd_M_storeList_138 w) ?_
      refine zg_1 (pc' := 140) (fun _ _ _ _ _ hl w => lv_iload_n hx hb zd_M_storeList_139 rfl (lv_at hl 2 rfl) w) ?_
      refine zg_1 (pc' := 141) (fun _ _ _ _ _ hl w => lv_iadd hx hb zd_M_storeList_140 w) ?_
      refine zg_1 (pc' := 142) (fun _ _ _ _ _ hl w => lv_aload_n hx hb zd_M_storeList_141 rfl (lv_at hl 0 rfl) w) ?_
      obtain ⟨a_13, h_14, hf⟩ := zx_p hf
      refine zg_get (pc' := 145) (ci := 8) hx hb htT zi_M hown hK h_10 rfl rfl 14 (by decide) (htT _ zt_819) (fun _ h9 => h9) (zx_hv h_14) zd_M_storeList_142 rfl ?_
      refine zg_1 (pc' := 146) (fun _ _ _ _ _ hl w => lv_iload_n hx hb zd_M_storeList_145 rfl (lv_at hl 2 rfl) w) ?_
      obtain ⟨h_15, hf⟩ := zx_ck hf
      refine zg_lald (pc' := 147) hx hb hK h_15 zd_M_storeList_146 rfl ?_
      obtain ⟨h_17, hf⟩ := zx_ck hf
      obtain ⟨s_16, e_s_16, hf⟩ := zx_l hf
      refine zg_last (pc' := 148) hx hb hK h_17 e_s_16 zd_M_storeList_147 rfl ?_
      obtain ⟨i_18, e_i_18, hf⟩ := zx_l hf
      refine zg_s (pc' := 151) (lv' := [(2, .int i_18), (0, .ref (h0 + a0)), (1, .int i1)]) (fun _ _ _ _ _ hl w => lv_iinc (k := 2) (v := i_18) hx hb zd_M_storeList_148 hl rfl (by rw [e_i_18]; rfl) (by decide) rfl w) ?_
      refine zg_1 (pc' := 108) (fun _ _ _ _ _ hl w => lv_goto hx hb zd_M_storeList_151 (by decide) w) ?_
      refine zg_v [1, 2, 0] rfl ?_
      exact ih s_16 a0 i1 i_18 hf
set_option maxHeartbeats 4000000 in
theorem zc_M_storeList (l : Launch) (h0 : Nat) (D : va_G) (dA : Nat → ClassId) (tb : Nat → Nat) (n : Nat) {s0 : zh_S} {a0 : Nat} {r : Int32} {z : zh_S} (hf : zf_M_storeList n s0 a0 = some (r, z)) : zc_M l zn_M_storeList zs_M_storeList 0 0 h0 D dA tb [.ref (h0 + a0)] s0 (some (.int r)) z := by
  rw [zf_M_storeList] at hf
  refine zc_of (cc := ze_M_storeList) (maxL := 3) (ret := (some .int)) (lv := [(0, .ref (h0 + a0))]) (by decide) rfl (Nat.le_of_ble_eq_true rfl) rfl ?_
  intro p e s m args below meth c X hnm
  obtain ⟨hx, hb, hml, hown, htT, hrt, hlk, x00, hIn⟩ := id X
  have hK := hIn.2.1
  have hT := hIn.2.2.1
  have hNe := hIn.2.2.2
  have hR : zg_R { frames := 0, cells := zh_N z - zh_N s0, slots := zh_M z - zh_M s0, locals := 0 } (zh_N s0) (zh_M s0) z := ⟨by show zh_N z ≤ zh_N s0 + (zh_N z - zh_N s0); omega, by show zh_M z ≤ zh_M s0 + (zh_M z - zh_M s0); omega⟩
  have hF : 0 ≤ ({ frames := 0, cells := zh_N z - zh_N s0, slots := zh_M z - zh_M s0, locals := 0 } : Room).frames ∧ 0 ≤ ({ frames := 0, cells := zh_N z - zh_N s0, slots := zh_M z - zh_M s0, locals := 0 } : Room).locals := ⟨Nat.le_refl _, Nat.le_refl _⟩
  have hret := fun (pc : Nat) (lv : List (Nat × Value)) (hd : decode ze_M_storeList pc = .ok (.ireturn, 1)) => zg_iret (R := { frames := 0, cells := zh_N z - zh_N s0, slots := zh_M z - zh_M s0, locals := 0 }) (l := l) (e := e) (below := below) (c0 := zh_N s0) (s0 := zh_M s0) (z := z) (lv := lv) (v := r) X rfl hd
  refine zg_1 (pc' := 1) (fun _ _ _ _ _ hl w => lv_aload_n hx hb zd_M_storeList_0 rfl (lv_at hl 0 rfl) w) ?_
  obtain ⟨h_1, hf⟩ := zx_ck hf
  refine zg_get (pc' := 4) (ci := 8) hx hb htT zi_M hown hK h_1 rfl rfl 17 (by decide) (htT _ zt_822) (fun _ h9 => h9) rfl zd_M_storeList_1 rfl ?_
  obtain ⟨i_2, e_i_2, hf⟩ := zx_l hf
  refine zg_ti e_i_2 ?_
  refine zg_s (pc' := 5) (lv' := [(1, .int i_2), (0, .ref (h0 + a0))]) (fun _ _ _ _ _ hl w => lv_istore_n hx hb zd_M_storeList_4 rfl hl (by decide) rfl w) ?_
  refine zg_1 (pc' := 6) (fun _ _ _ _ _ hl w => lv_aload_n hx hb zd_M_storeList_5 rfl (lv_at hl 1 rfl) w) ?_
  obtain ⟨a_3, h_4, hf⟩ := zx_p hf
  refine zg_get (pc' := 9) (ci := 8) hx hb htT zi_M hown hK h_1 rfl rfl 18 (by decide) (htT _ zt_823) (fun _ h9 => h9) (zx_hv h_4) zd_M_storeList_6 rfl ?_
  refine zg_1 (pc' := 11) (fun _ _ _ _ _ hl w => lv_bipush (v := (6 : Int32)) hx hb zd_M_storeList_9 (by decide) w) ?_
  refine zg_1 (pc' := 12) (fun _ _ _ _ _ hl w => lv_iload_n hx hb zd_M_storeList_11 rfl (lv_at hl 0 rfl) w) ?_
  refine zg_1 (pc' := 13) (fun _ _ _ _ _ hl w => lv_imul hx hb zd_M_storeList_12 w) ?_
  refine zg_1 (pc' := 14) (fun _ _ _ _ _ hl w => lv_aload_n hx hb zd_M_storeList_13 rfl (lv_at hl 1 rfl) w) ?_
  obtain ⟨a_5, h_6, hf⟩ := zx_p hf
  refine zg_get (pc' := 17) (ci := 8) hx hb htT zi_M hown hK h_1 rfl rfl 11 (by decide) (htT _ zt_816) (fun _ h9 => h9) (zx_hv h_6) zd_M_storeList_14 rfl ?_
  refine zg_1 (pc' := 18) (fun _ _ _ _ _ hl w => lv_iconst (v := (1 : Int32)) hx hb zd_M_storeList_17 (by decide) w) ?_
  obtain ⟨h_7, hf⟩ := zx_ck hf
  refine zg_lald (pc' := 19) hx hb hK h_7 zd_M_storeList_18 rfl ?_
  obtain ⟨h_9, hf⟩ := zx_ck hf
  obtain ⟨s_8, e_s_8, hf⟩ := zx_l hf
  refine zg_last (pc' := 20) hx hb hK h_9 e_s_8 zd_M_storeList_19 rfl ?_
  refine zg_1 (pc' := 21) (fun _ _ _ _ _ hl w => lv_aload_n hx hb zd_M_storeList_20 rfl (lv_at hl 1 rfl) w) ?_
  obtain ⟨h_10, hf⟩ := zx_ck hf
  obtain ⟨a_11, h_12, hf⟩ := zx_p hf
  refine zg_get (pc' := 24) (ci := 8) hx hb htT zi_M hown hK h_10 rfl rfl 18 (by decide) (htT _ zt_823) (fun _ h9 => h9) (zx_hv h_12) zd_M_storeList_21 rfl ?_
  refine zg_1 (pc' := 26) (fun _ _ _ _ _ hl w => lv_bipush (v := (6 : Int32)) hx hb zd_M_storeList_24 (by decide) w) ?_
  refine zg_1 (pc' := 27) (fun _ _ _ _ _ hl w => lv_iload_n hx hb zd_M_storeList_26 rfl (lv_at hl 0 rfl) w) ?_
  refine zg_1 (pc' := 28) (fun _ _ _ _ _ hl w => lv_imul hx hb zd_M_storeList_27 w) ?_
  refine zg_1 (pc' := 29) (fun _ _ _ _ _ hl w => lv_iconst (v := (1 : Int32)) hx hb zd_M_storeList_28 (by decide) w) ?_
  refine zg_1 (pc' := 30) (fun _ _ _ _ _ hl w => lv_iadd hx hb zd_M_storeList_29 w) ?_
  refine zg_1 (pc' := 31) (fun _ _ _ _ _ hl w => lv_aload_n hx hb zd_M_storeList_30 rfl (lv_at hl 1 rfl) w) ?_
  obtain ⟨a_13, h_14, hf⟩ := zx_p hf
  refine zg_get (pc' := 34) (ci := 8) hx hb htT zi_M hown hK h_10 rfl rfl 11 (by decide) (htT _ zt_816) (fun _ h9 => h9) (zx_hv h_14) zd_M_storeList_31 rfl ?_
  refine zg_1 (pc' := 35) (fun _ _ _ _ _ hl w => lv_iconst (v := (2 : Int32)) hx hb zd_M_storeList_34 (by decide) w) ?_
  obtain ⟨h_15, hf⟩ := zx_ck hf
  refine zg_lald (pc' := 36) hx hb hK h_15 zd_M_storeList_35 rfl ?_
  obtain ⟨h_17, hf⟩ := zx_ck hf
  obtain ⟨s_16, e_s_16, hf⟩ := zx_l hf
  refine zg_last (pc' := 37) hx hb hK h_17 e_s_16 zd_M_storeList_36 rfl ?_
  refine zg_1 (pc' := 38) (fun _ _ _ _ _ hl w => lv_aload_n hx hb zd_M_storeList_37 rfl (lv_at hl 1 rfl) w) ?_
  obtain ⟨h_18, hf⟩ := zx_ck hf
  obtain ⟨a_19, h_20, hf⟩ := zx_p hf
  refine zg_get (pc' := 41) (ci := 8) hx hb htT zi_M hown hK h_18 rfl rfl 18 (by decide) (htT _ zt_823) (fun _ h9 => h9) (zx_hv h_20) zd_M_storeList_38 rfl ?_
  refine zg_1 (pc' := 43) (fun _ _ _ _ _ hl w => lv_bipush (v := (6 : Int32)) hx hb zd_M_storeList_41 (by decide) w) ?_
  refine zg_1 (pc' := 44) (fun _ _ _ _ _ hl w => lv_iload_n hx hb zd_M_storeList_43 rfl (lv_at hl 0 rfl) w) ?_
  refine zg_1 (pc' := 45) (fun _ _ _ _ _ hl w => lv_imul hx hb zd_M_storeList_44 w) ?_
  refine zg_1 (pc' := 46) (fun _ _ _ _ _ hl w => lv_iconst (v := (2 : Int32)) hx hb zd_M_storeList_45 (by decide) w) ?_
  refine zg_1 (pc' := 47) (fun _ _ _ _ _ hl w => lv_iadd hx hb zd_M_storeList_46 w) ?_
  refine zg_1 (pc' := 48) (fun _ _ _ _ _ hl w => lv_aload_n hx hb zd_M_storeList_47 rfl (lv_at hl 1 rfl) w) ?_
  obtain ⟨a_21, h_22, hf⟩ := zx_p hf
  refine zg_get (pc' := 51) (ci := 8) hx hb htT zi_M hown hK h_18 rfl rfl 11 (by decide) (htT _ zt_816) (fun _ h9 => h9) (zx_hv h_22) zd_M_storeList_48 rfl ?_
  refine zg_1 (pc' := 52) (fun _ _ _ _ _ hl w => lv_iconst (v := (3 : Int32)) hx hb zd_M_storeList_51 (by decide) w) ?_
  obtain ⟨h_23, hf⟩ := zx_ck hf
  refine zg_lald (pc' := 53) hx hb hK h_23 zd_M_storeList_52 rfl ?_
  obtain ⟨h_25, hf⟩ := zx_ck hf
  obtain ⟨s_24, e_s_24, hf⟩ := zx_l hf
  refine zg_last (pc' := 54) hx hb hK h_25 e_s_24 zd_M_storeList_53 rfl ?_
  refine zg_1 (pc' := 55) (fun _ _ _ _ _ hl w => lv_aload_n hx hb zd_M_storeList_54 rfl (lv_at hl 1 rfl) w) ?_
  obtain ⟨h_26, hf⟩ := zx_ck hf
  obtain ⟨a_27, h_28, hf⟩ := zx_p hf
  refine zg_get (pc' := 58) (ci := 8) hx hb htT zi_M hown hK h_26 rfl rfl 18 (by decide) (htT _ zt_823) (fun _ h9 => h9) (zx_hv h_28) zd_M_storeList_55 rfl ?_
  refine zg_1 (pc' := 60) (fun _ _ _ _ _ hl w => lv_bipush (v := (6 : Int32)) hx hb zd_M_storeList_58 (by decide) w) ?_
  refine zg_1 (pc' := 61) (fun _ _ _ _ _ hl w => lv_iload_n hx hb zd_M_storeList_60 rfl (lv_at hl 0 rfl) w) ?_
  refine zg_1 (pc' := 62) (fun _ _ _ _ _ hl w => lv_imul hx hb zd_M_storeList_61 w) ?_
  refine zg_1 (pc' := 63) (fun _ _ _ _ _ hl w => lv_iconst (v := (3 : Int32)) hx hb zd_M_storeList_62 (by decide) w) ?_
  refine zg_1 (pc' := 64) (fun _ _ _ _ _ hl w => lv_iadd hx hb zd_M_storeList_63 w) ?_
  refine zg_1 (pc' := 65) (fun _ _ _ _ _ hl w => lv_aload_n hx hb zd_M_storeList_64 rfl (lv_at hl 1 rfl) w) ?_
  refine zg_get (pc' := 68) (ci := 8) hx hb htT zi_M hown hK h_26 rfl rfl 12 (by decide) (htT _ zt_817) (fun _ h9 => h9) rfl zd_M_storeList_65 rfl ?_
  refine zg_1 (pc' := 69) (fun _ _ _ _ _ hl w => lv_i2l (v := (zh_I s_24 a0 12).toInt64) hx hb zd_M_storeList_68 rfl w) ?_
  obtain ⟨h_30, hf⟩ := zx_ck hf
  obtain ⟨s_29, e_s_29, hf⟩ := zx_l hf
  refine zg_last (pc' := 70) hx hb hK h_30 e_s_29 zd_M_storeList_69 rfl ?_
  refine zg_1 (pc' := 71) (fun _ _ _ _ _ hl w => lv_aload_n hx hb zd_M_storeList_70 rfl (lv_at hl 1 rfl) w) ?_
  obtain ⟨h_31, hf⟩ := zx_ck hf
  obtain ⟨a_32, h_33, hf⟩ := zx_p hf
  refine zg_get (pc' := 74) (ci := 8) hx hb htT zi_M hown hK h_31 rfl rfl 18 (by decide) (htT _ zt_823) (fun _ h9 => h9) (zx_hv h_33) zd_M_storeList_71 rfl ?_
  refine zg_1 (pc' := 76) (fun _ _ _ _ _ hl w => lv_bipush (v := (6 : Int32)) hx hb zd_M_storeList_74 (by decide) w) ?_
  refine zg_1 (pc' := 77) (fun _ _ _ _ _ hl w => lv_iload_n hx hb zd_M_storeList_76 rfl (lv_at hl 0 rfl) w) ?_
  refine zg_1 (pc' := 78) (fun _ _ _ _ _ hl w => lv_imul hx hb zd_M_storeList_77 w) ?_
  refine zg_1 (pc' := 79) (fun _ _ _ _ _ hl w => lv_iconst (v := (4 : Int32)) hx hb zd_M_storeList_78 (by decide) w) ?_
  refine zg_1 (pc' := 80) (fun _ _ _ _ _ hl w => lv_iadd hx hb zd_M_storeList_79 w) ?_
  refine zg_1 (pc' := 81) (fun _ _ _ _ _ hl w => lv_aload_n hx hb zd_M_storeList_80 rfl (lv_at hl 1 rfl) w) ?_
  obtain ⟨a_34, h_35, hf⟩ := zx_p hf
  refine zg_get (pc' := 84) (ci := 8) hx hb htT zi_M hown hK h_31 rfl rfl 11 (by decide) (htT _ zt_816) (fun _ h9 => h9) (zx_hv h_35) zd_M_storeList_81 rfl ?_
  refine zg_1 (pc' := 86) (fun _ _ _ _ _ hl w => lv_bipush (v := (7 : Int32)) hx hb zd_M_storeList_84 (by decide) w) ?_
  obtain ⟨h_36, hf⟩ := zx_ck hf
  refine zg_lald (pc' := 87) hx hb hK h_36 zd_M_storeList_86 rfl ?_
  obtain ⟨h_38, hf⟩ := zx_ck hf
  obtain ⟨s_37, e_s_37, hf⟩ := zx_l hf
  refine zg_last (pc' := 88) hx hb hK h_38 e_s_37 zd_M_storeList_87 rfl ?_
  refine zg_1 (pc' := 89) (fun _ _ _ _ _ hl w => lv_aload_n hx hb zd_M_storeList_88 rfl (lv_at hl 1 rfl) w) ?_
  obtain ⟨h_39, hf⟩ := zx_ck hf
  obtain ⟨a_40, h_41, hf⟩ := zx_p hf
  refine zg_get (pc' := 92) (ci := 8) hx hb htT zi_M hown hK h_39 rfl rfl 18 (by decide) (htT _ zt_823) (fun _ h9 => h9) (zx_hv h_41) zd_M_storeList_89 rfl ?_
  refine zg_1 (pc' := 94) (fun _ _ _ _ _ hl w => lv_bipush (v := (6 : Int32)) hx hb zd_M_storeList_92 (by decide) w) ?_
  refine zg_1 (pc' := 95) (fun _ _ _ _ _ hl w => lv_iload_n hx hb zd_M_storeList_94 rfl (lv_at hl 0 rfl) w) ?_
  refine zg_1 (pc' := 96) (fun _ _ _ _ _ hl w => lv_imul hx hb zd_M_storeList_95 w) ?_
  refine zg_1 (pc' := 97) (fun _ _ _ _ _ hl w => lv_iconst (v := (5 : Int32)) hx hb zd_M_storeList_96 (by decide) w) ?_
  refine zg_1 (pc' := 98) (fun _ _ _ _ _ hl w => lv_iadd hx hb zd_M_storeList_97 w) ?_
  refine zg_1 (pc' := 99) (fun _ _ _ _ _ hl w => lv_aload_n hx hb zd_M_storeList_98 rfl (lv_at hl 1 rfl) w) ?_
  obtain ⟨a_42, h_43, hf⟩ := zx_p hf
  refine zg_get (pc' := 102) (ci := 8) hx hb htT zi_M hown hK h_39 rfl rfl 11 (by decide) (htT _ zt_816) (fun _ h9 => h9) (zx_hv h_43) zd_M_storeList_99 rfl ?_
  refine zg_1 (pc' := 104) (fun _ _ _ _ _ hl w => lv_bipush (v := (8 : Int32)) hx hb zd_M_storeList_102 (by decide) w) ?_
  obtain ⟨h_44, hf⟩ := zx_ck hf
  refine zg_lald (pc' := 105) hx hb hK h_44 zd_M_storeList_104 rfl ?_
  obtain ⟨h_46, hf⟩ := zx_ck hf
  obtain ⟨s_45, e_s_45, hf⟩ := zx_l hf
  refine zg_last (pc' := 106) hx hb hK h_46 e_s_45 zd_M_storeList_105 rfl ?_
  refine zg_1 (pc' := 107) (fun _ _ _ _ _ hl w => lv_iconst (v := (0 : Int32)) hx hb zd_M_storeList_106 (by decide) w) ?_
  refine zg_s (pc' := 108) (lv' := [(2, .int (0 : Int32)), (1, .int i_2), (0, .ref (h0 + a0))]) (fun _ _ _ _ _ hl w => lv_istore_n hx hb zd_M_storeList_107 rfl hl (by decide) rfl w) ?_
  refine zg_v [2, 1, 0] rfl ?_
  exact zw_M_storeList_108 X hR hF hret n n s_45 a0 i_2 (0 : Int32) hf
set_option maxHeartbeats 4000000 in
theorem zw_M_store_131 {p : Program} {l : Launch} {e : Env} {R : Room} {s : State} {m : MethodId} {args : Array Value} {below : List Frame} {meth : Method} {c : Code} {Q : State → Prop} {h0 : Nat} {D : va_G} {dA : Nat → ClassId} {tb : Nat → Nat} {c0 k0 : Nat} {z : zh_S} {r : Int32} (X : zg_X p s m args meth c ze_M_store 3 zr_M (some .int) h0 D dA tb) (hR : zg_R R c0 k0 z) (hF : 7 ≤ R.frames ∧ 179 ≤ R.locals) (hret : ∀ (pc : Nat) (lv : List (Nat × Value)), decode ze_M_store pc = .ok (.ireturn, 1) → zg_G p l e R s m args below meth c Q h0 D dA 3 c0 k0 z z pc lv [.int r]) (n : Nat) : ∀ (s0 : zh_S) (a0 : Nat) (at0 : Nat) (it1 : Int32) (jt2 : Int64) (jt3 : Int64), zb_M_store_131 n s0 a0 at0 it1 jt2 jt3 = some (r, z) → zg_G p l e R s m args below meth c Q h0 D dA 3 c0 k0 z s0 131 [(0, .ref (h0 + a0))] [.long jt3, .long jt2, .int it1, .ref (h0 + at0)] := by
  obtain ⟨hx, hb, hml, hown, htT, hrt, hlk, x00, hIn⟩ := id X
  have hK := hIn.2.1
  have hT := hIn.2.2.1
  have hNe := hIn.2.2.2
  intro s0 a0 at0 it1 jt2 jt3 hf
  rw [zb_M_store_131] at hf
  refine zg_1 (pc' := 132) (fun _ _ _ _ _ hl w => lv_lor hx hb zd_M_store_131 w) ?_
  obtain ⟨h_2, hf⟩ := zx_ck hf
  obtain ⟨s_1, e_s_1, hf⟩ := zx_l hf
  refine zg_last (pc' := 133) hx hb hK h_2 e_s_1 zd_M_store_132 rfl ?_
  refine zg_1 (pc' := 134) (fun _ _ _ _ _ hl w => lv_aload_n hx hb zd_M_store_133 rfl (lv_at hl 0 rfl) w) ?_
  refine zg_1 (pc' := 135) (fun _ _ _ _ _ hl w => lv_dup hx hb zd_M_store_134 rfl w) ?_
  obtain ⟨h_3, hf⟩ := zx_ck hf
  refine zg_get (pc' := 138) (ci := 8) hx hb htT zi_M hown hK h_3 rfl rfl 15 (by decide) (htT _ zt_820) (fun _ h9 => h9) rfl zd_M_store_135 rfl ?_
  refine zg_1 (pc' := 139) (fun _ _ _ _ _ hl w => lv_iconst (v := (1 : Int32)) hx hb zd_M_store_138 (by decide) w) ?_
  refine zg_1 (pc' := 140) (fun _ _ _ _ _ hl w => lv_iadd hx hb zd_M_store_139 w) ?_
  obtain ⟨s_4, e_s_4, hf⟩ := zx_l hf
  refine zg_putI (pc' := 143) (ci := 8) (ty := .int) hx hb htT zi_M zy_M zo_M zj_M hown hK h_3 rfl rfl 15 (by decide) (htT _ zt_820) (fun _ h9 => h9) (Or.inl rfl) (by decide +kernel) rfl rfl rfl e_s_4 zd_M_store_140 rfl ?_
  refine zg_1 (pc' := 144) (fun _ _ _ _ _ hl w => lv_aload_n hx hb zd_M_store_143 rfl (lv_at hl 0 rfl) w) ?_
  refine zg_get (pc' := 147) (ci := 8) hx hb htT zi_M hown hK (zx_oI e_s_4 h_3) rfl rfl 15 (by decide) (htT _ zt_820) (fun _ h9 => h9) rfl zd_M_store_144 rfl ?_
  refine zg_1 (pc' := 148) (fun _ _ _ _ _ hl w => lv_iconst (v := (1 : Int32)) hx hb zd_M_store_147 (by decide) w) ?_
  refine zg_1 (pc' := 149) (fun _ _ _ _ _ hl w => lv_isub hx hb zd_M_store_148 w) ?_
  obtain ⟨rfl, rfl⟩ := zx_r2 hf
  exact hret _ _ zd_M_store_149
set_option maxHeartbeats 4000000 in
theorem zw_M_store_69 {p : Program} {l : Launch} {e : Env} {R : Room} {s : State} {m : MethodId} {args : Array Value} {below : List Frame} {meth : Method} {c : Code} {Q : State → Prop} {h0 : Nat} {D : va_G} {dA : Nat → ClassId} {tb : Nat → Nat} {c0 k0 : Nat} {z : zh_S} {r : Int32} (X : zg_X p s m args meth c ze_M_store 3 zr_M (some .int) h0 D dA tb) (hR : zg_R R c0 k0 z) (hF : 7 ≤ R.frames ∧ 179 ≤ R.locals) (hret : ∀ (pc : Nat) (lv : List (Nat × Value)), decode ze_M_store pc = .ok (.ireturn, 1) → zg_G p l e R s m args below meth c Q h0 D dA 3 c0 k0 z z pc lv [.int r]) (n : Nat) (k : Nat) : ∀ (s0 : zh_S) (a0 : Nat) (i1 : Int32) (i2 : Int32), zl_M_store_69 n k s0 a0 i1 i2 = some (r, z) → zg_G p l e R s m args below meth c Q h0 D dA 3 c0 k0 z s0 69 [(0, .ref (h0 + a0)), (1, .int i1), (2, .int i2)] [] := by
  obtain ⟨hx, hb, hml, hown, htT, hrt, hlk, x00, hIn⟩ := id X
  have hK := hIn.2.1
  have hT := hIn.2.2.1
  have hNe := hIn.2.2.2
  induction k with
  | zero => intro s0 a0 i1 i2 hf; cases hf
  | succ k ih =>
    intro s0 a0 i1 i2 hf
    rw [zl_M_store_69] at hf
    refine zg_1 (pc' := 70) (fun _ _ _ _ _ hl w => lv_iload_n hx hb zd_M_store_69 rfl (lv_at hl 2 rfl) w) ?_
    refine zg_1 (pc' := 72) (fun _ _ _ _ _ hl w => lv_bipush (v := (15 : Int32)) hx hb zd_M_store_70 (by decide) w) ?_
    refine zg_2 (pc1 := 101) (pc2 := 75) (Classical.em _) (fun _ _ _ _ _ w1 w2 => lv_icmp_ge hx hb zd_M_store_72 (by decide) w1 w2) (fun hc => ?_) (fun hc => ?_)
    · rw [if_pos hc] at hf
      refine zg_1 (pc' := 102) (fun _ _ _ _ _ hl w => lv_aload_n hx hb zd_M_store_101 rfl (lv_at hl 0 rfl) w) ?_
      obtain ⟨h_1, hf⟩ := zx_ck hf
      obtain ⟨a_2, h_3, hf⟩ := zx_p hf
      refine zg_get (pc' := 105) (ci := 8) hx hb htT zi_M hown hK h_1 rfl rfl 16 (by decide) (htT _ zt_821) (fun _ h9 => h9) (zx_hv h_3) zd_M_store_102 rfl ?_
      refine zg_1 (pc' := 107) (fun _ _ _ _ _ hl w => lv_bipush (v := (15 : Int32)) hx hb zd_M_store_105 (by decide) w) ?_
      refine zg_1 (pc' := 108) (fun _ _ _ _ _ hl w => lv_aload_n hx hb zd_M_store_107 rfl (lv_at hl 0 rfl) w) ?_
      refine zg_get (pc' := 111) (ci := 8) hx hb htT zi_M hown hK h_1 rfl rfl 15 (by decide) (htT _ zt_820) (fun _ h9 => h9) rfl zd_M_store_108 rfl ?_
      refine zg_1 (pc' := 112) (fun _ _ _ _ _ hl w => lv_imul hx hb zd_M_store_111 w) ?_
      refine zg_1 (pc' := 114) (fun _ _ _ _ _ hl w => lv_bipush (v := (14 : Int32)) hx hb zd_M_store_112 (by decide) w) ?_
      refine zg_1 (pc' := 115) (fun _ _ _ _ _ hl w => lv_iadd hx hb zd_M_store_114 w) ?_
      refine zg_1 (pc' := 116) (fun _ _ _ _ _ hl w => lv_aload_n hx hb zd_M_store_115 rfl (lv_at hl 0 rfl) w) ?_
      obtain ⟨a_4, h_5, hf⟩ := zx_p hf
      refine zg_get (pc' := 119) (ci := 8) hx hb htT zi_M hown hK h_1 rfl rfl 11 (by decide) (htT _ zt_816) (fun _ h9 => h9) (zx_hv h_5) zd_M_store_116 rfl ?_
      refine zg_1 (pc' := 121) (fun _ _ _ _ _ hl w => lv_bipush (v := (14 : Int32)) hx hb zd_M_store_119 (by decide) w) ?_
      obtain ⟨h_6, hf⟩ := zx_ck hf
      refine zg_lald (pc' := 122) hx hb hK h_6 zd_M_store_121 rfl ?_
      refine zg_1 (pc' := 123) (fun _ _ _ _ _ hl w => lv_iload_n hx hb zd_M_store_122 rfl (lv_at hl 1 rfl) w) ?_
      refine zg_2 (pc1 := 130) (pc2 := 126) (Classical.em _).symm (fun _ _ _ _ _ w1 w2 => lv_if_ne hx hb zd_M_store_123 (by decide) w1 w2) (fun hc => ?_) (fun hc => ?_)
      · rw [if_neg hc] at hf
        refine zg_1 (pc' := 131) (fun _ _ _ _ _ hl w => lv_lconst (v := (0 : Int64)) hx hb zd_M_store_130 (by decide) w) ?_
        refine zg_v [0] rfl ?_
        exact zw_M_store_131 X hR hF hret n s0 a0 a_2 (((15 : Int32) * (zh_I s0 a0 15)) + (14 : Int32)) (zh_J s0 a_4 ((14 : Int32).toNatClampNeg)) (0 : Int64) hf
      · rw [if_pos hc] at hf
        refine zg_1 (pc' := 127) (fun _ _ _ _ _ hl w => lv_lconst (v := (1 : Int64)) hx hb zd_M_store_126 (by decide) w) ?_
        refine zg_1 (pc' := 131) (fun _ _ _ _ _ hl w => lv_goto hx hb zd_M_store_127 (by decide) w) ?_
        refine zg_v [0] rfl ?_
        exact zw_M_store_131 X hR hF hret n s0 a0 a_2 (((15 : Int32) * (zh_I s0 a0 15)) + (14 : Int32)) (zh_J s0 a_4 ((14 : Int32).toNatClampNeg)) (1 : Int64) hf
    · rw [if_neg hc] at hf
      refine zg_1 (pc' := 76) (fun _ _ _ _ _ hl w => lv_aload_n hx hb zd_M_store_75 rfl (lv_at hl 0 rfl) w) ?_
      obtain ⟨h_7, hf⟩ := zx_ck hf
      obtain ⟨a_8, h_9, hf⟩ := zx_p hf
      refine zg_get (pc' := 79) (ci := 8) hx hb htT zi_M hown hK h_7 rfl rfl 16 (by decide) (htT _ zt_821) (fun _ h9 => h9) (zx_hv h_9) zd_M_store_76 rfl ?_
      refine zg_1 (pc' := 81) (fun _ _ _ _ _ hl w => lv_bipush (v := (15 : Int32)) hx hb zd_M_store_79 (by decide) w) ?_
      refine zg_1 (pc' := 82) (fun _ _ _ _ _ hl w => lv_aload_n hx hb zd_M_store_81 rfl (lv_at hl 0 rfl) w) ?_
      refine zg_get (pc' := 85) (ci := 8) hx hb htT zi_M hown hK h_7 rfl rfl 15 (by decide) (htT _ zt_820) (fun _ h9 => h9) rfl zd_M_store_82 rfl ?_
      refine zg_1 (pc' := 86) (fun _ _ _ _ _ hl w => lv_imul hx hb zd_M_store_85 w) ?_
      refine zg_1 (pc' := 87) (fun _ _ _ _ _ hl w => lv_iload_n hx hb zd_M_store_86 rfl (lv_at hl 2 rfl) w) ?_
      refine zg_1 (pc' := 88) (fun _ _ _ _ _ hl w => lv_iadd hx hb zd_M_store_87 w) ?_
      refine zg_1 (pc' := 89) (fun _ _ _ _ _ hl w => lv_aload_n hx hb zd_M_store_88 rfl (lv_at hl 0 rfl) w) ?_
      obtain ⟨a_10, h_11, hf⟩ := zx_p hf
      refine zg_get (pc' := 92) (ci := 8) hx hb htT zi_M hown hK h_7 rfl rfl 11 (by decide) (htT _ zt_816) (fun _ h9 => h9) (zx_hv h_11) zd_M_store_89 rfl ?_
      refine zg_1 (pc' := 93) (fun _ _ _ _ _ hl w => lv_iload_n hx hb zd_M_store_92 rfl (lv_at hl 2 rfl) w) ?_
      obtain ⟨h_12, hf⟩ := zx_ck hf
      refine zg_lald (pc' := 94) hx hb hK h_12 zd_M_store_93 rfl ?_
      obtain ⟨h_14, hf⟩ := zx_ck hf
      obtain ⟨s_13, e_s_13, hf⟩ := zx_l hf
      refine zg_last (pc' := 95) hx hb hK h_14 e_s_13 zd_M_store_94 rfl ?_
      obtain ⟨i_15, e_i_15, hf⟩ := zx_l hf
      refine zg_s (pc' := 98) (lv' := [(2, .int i_15), (0, .ref (h0 + a0)), (1, .int i1)]) (fun _ _ _ _ _ hl w => lv_iinc (k := 2) (v := i_15) hx hb zd_M_store_95 hl rfl (by rw [e_i_15]; rfl) (by decide) rfl w) ?_
      refine zg_1 (pc' := 69) (fun _ _ _ _ _ hl w => lv_goto hx hb zd_M_store_98 (by decide) w) ?_
      refine zg_v [1, 2, 0] rfl ?_
      exact ih s_13 a0 i1 i_15 hf
set_option maxHeartbeats 4000000 in
theorem zw_M_store_48 {p : Program} {l : Launch} {e : Env} {R : Room} {s : State} {m : MethodId} {args : Array Value} {below : List Frame} {meth : Method} {c : Code} {Q : State → Prop} {h0 : Nat} {D : va_G} {dA : Nat → ClassId} {tb : Nat → Nat} {c0 k0 : Nat} {z : zh_S} {r : Int32} (X : zg_X p s m args meth c ze_M_store 3 zr_M (some .int) h0 D dA tb) (hR : zg_R R c0 k0 z) (hF : 7 ≤ R.frames ∧ 179 ≤ R.locals) (hret : ∀ (pc : Nat) (lv : List (Nat × Value)), decode ze_M_store pc = .ok (.ireturn, 1) → zg_G p l e R s m args below meth c Q h0 D dA 3 c0 k0 z z pc lv [.int r]) (n : Nat) : ∀ (s0 : zh_S) (a0 : Nat) (i1 : Int32) (at0 : Nat) (it1 : Int32), zb_M_store_48 n s0 a0 i1 at0 it1 = some (r, z) → zg_G p l e R s m args below meth c Q h0 D dA 3 c0 k0 z s0 48 [(0, .ref (h0 + a0)), (1, .int i1)] [.int it1, .ref (h0 + at0)] := by
  obtain ⟨hx, hb, hml, hown, htT, hrt, hlk, x00, hIn⟩ := id X
  have hK := hIn.2.1
  have hT := hIn.2.2.1
  have hNe := hIn.2.2.2
  intro s0 a0 i1 at0 it1 hf
  rw [zb_M_store_48] at hf
  obtain ⟨h_2, hf⟩ := zx_ck hf
  obtain ⟨i_3, s_1, hq, hf⟩ := zx_b hf
  refine zg_call (pc' := 51) (y := s_1) (rv := (some (.int i_3))) (rest := []) X hR (zm_M_check hq) (fun H locs ls k j hsz hI hU hk => va_runV (As := [.int it1]) (rest := []) ⟨hx, hb, hml, hown, htT⟩ (zc_M_check l h0 D dA tb n hq) (cwV 1 htT (zw_gV zt_1057 zt_1000 zt_1001 zt_71 zt_1002) rfl rfl rfl (by decide +kernel) ⟨Nat.le_trans (Nat.le_of_ble_eq_true rfl) hF.1, Nat.le_trans (Nat.le_of_ble_eq_true rfl) hF.2⟩) ⟨(zg_pre hU).1, zg_recv hK hI h_2 rfl, (zg_pre hU).2⟩ rfl rfl hsz rfl (lv_room (Nat.le_of_ble_eq_true rfl)) zd_M_store_48 hk) rfl ?_
  refine zg_2 (pc1 := 57) (pc2 := 54) (Classical.em _) (fun _ _ _ _ _ w1 w2 => lv_if_eq hx hb zd_M_store_51 (by decide) w1 w2) (fun hc => ?_) (fun hc => ?_)
  · rw [if_pos hc] at hf
    refine zg_1 (pc' := 58) (fun _ _ _ _ _ hl w => lv_iload_n hx hb zd_M_store_57 rfl (lv_at hl 1 rfl) w) ?_
    refine zg_1 (pc' := 59) (fun _ _ _ _ _ hl w => lv_iconst (v := (2 : Int32)) hx hb zd_M_store_58 (by decide) w) ?_
    refine zg_2 (pc1 := 67) (pc2 := 62) (Classical.em _).symm (fun _ _ _ _ _ w1 w2 => lv_icmp_ne hx hb zd_M_store_59 (by decide) w1 w2) (fun hc => ?_) (fun hc => ?_)
    · rw [if_neg hc] at hf
      refine zg_1 (pc' := 68) (fun _ _ _ _ _ hl w => lv_iconst (v := (0 : Int32)) hx hb zd_M_store_67 (by decide) w) ?_
      refine zg_s (pc' := 69) (lv' := [(2, .int (0 : Int32)), (0, .ref (h0 + a0)), (1, .int i1)]) (fun _ _ _ _ _ hl w => lv_istore_n hx hb zd_M_store_68 rfl hl (by decide) rfl w) ?_
      refine zg_v [1, 2, 0] rfl ?_
      exact zw_M_store_69 X hR hF hret n n s_1 a0 i1 (0 : Int32) hf
    · rw [if_pos hc] at hf
      refine zg_1 (pc' := 63) (fun _ _ _ _ _ hl w => lv_aload_n hx hb zd_M_store_62 rfl (lv_at hl 0 rfl) w) ?_
      obtain ⟨h_5, hf⟩ := zx_ck hf
      obtain ⟨i_6, s_4, hq, hf⟩ := zx_b hf
      refine zg_call (pc' := 66) (y := s_4) (rv := (some (.int i_6))) (rest := []) X hR (zm_M_storeList hq) (fun H locs ls k j hsz hI hU hk => va_runV (As := []) (rest := []) ⟨hx, hb, hml, hown, htT⟩ (zc_M_storeList l h0 D dA tb n hq) (cwV 0 htT (zw_gV zt_1058 zt_1060 zt_51 zt_71 zt_1061) rfl rfl rfl (by decide +kernel) ⟨Nat.le_trans (Nat.le_of_ble_eq_true rfl) hF.1, Nat.le_trans (Nat.le_of_ble_eq_true rfl) hF.2⟩) ⟨(zg_pre hU).1, zg_recv hK hI h_5 rfl, (zg_pre hU).2⟩ rfl rfl hsz rfl (lv_room (Nat.le_of_ble_eq_true rfl)) zd_M_store_63 hk) rfl ?_
      obtain ⟨rfl, rfl⟩ := zx_r2 hf
      exact hret _ _ zd_M_store_66
  · rw [if_neg hc] at hf
    refine zg_1 (pc' := 56) (fun _ _ _ _ _ hl w => lv_bipush (v := (-2 : Int32)) hx hb zd_M_store_54 (by decide) w) ?_
    obtain ⟨rfl, rfl⟩ := zx_r2 hf
    exact hret _ _ zd_M_store_56
set_option maxHeartbeats 4000000 in
theorem zw_M_store_37 {p : Program} {l : Launch} {e : Env} {R : Room} {s : State} {m : MethodId} {args : Array Value} {below : List Frame} {meth : Method} {c : Code} {Q : State → Prop} {h0 : Nat} {D : va_G} {dA : Nat → ClassId} {tb : Nat → Nat} {c0 k0 : Nat} {z : zh_S} {r : Int32} (X : zg_X p s m args meth c ze_M_store 3 zr_M (some .int) h0 D dA tb) (hR : zg_R R c0 k0 z) (hF : 7 ≤ R.frames ∧ 179 ≤ R.locals) (hret : ∀ (pc : Nat) (lv : List (Nat × Value)), decode ze_M_store pc = .ok (.ireturn, 1) → zg_G p l e R s m args below meth c Q h0 D dA 3 c0 k0 z z pc lv [.int r]) (n : Nat) : ∀ (s0 : zh_S) (a0 : Nat) (i1 : Int32), zb_M_store_37 n s0 a0 i1 = some (r, z) → zg_G p l e R s m args below meth c Q h0 D dA 3 c0 k0 z s0 37 [(0, .ref (h0 + a0)), (1, .int i1)] [] := by
  obtain ⟨hx, hb, hml, hown, htT, hrt, hlk, x00, hIn⟩ := id X
  have hK := hIn.2.1
  have hT := hIn.2.2.1
  have hNe := hIn.2.2.2
  intro s0 a0 i1 hf
  rw [zb_M_store_37] at hf
  refine zg_1 (pc' := 38) (fun _ _ _ _ _ hl w => lv_aload_n hx hb zd_M_store_37 rfl (lv_at hl 0 rfl) w) ?_
  refine zg_1 (pc' := 39) (fun _ _ _ _ _ hl w => lv_iload_n hx hb zd_M_store_38 rfl (lv_at hl 1 rfl) w) ?_
  refine zg_1 (pc' := 40) (fun _ _ _ _ _ hl w => lv_iconst (v := (2 : Int32)) hx hb zd_M_store_39 (by decide) w) ?_
  refine zg_2 (pc1 := 47) (pc2 := 43) (Classical.em _) (fun _ _ _ _ _ w1 w2 => lv_icmp_ge hx hb zd_M_store_40 (by decide) w1 w2) (fun hc => ?_) (fun hc => ?_)
  · rw [if_pos hc] at hf
    refine zg_1 (pc' := 48) (fun _ _ _ _ _ hl w => lv_iconst (v := (0 : Int32)) hx hb zd_M_store_47 (by decide) w) ?_
    exact zw_M_store_48 X hR hF hret n s0 a0 i1 a0 (0 : Int32) hf
  · rw [if_neg hc] at hf
    refine zg_1 (pc' := 44) (fun _ _ _ _ _ hl w => lv_iconst (v := (1 : Int32)) hx hb zd_M_store_43 (by decide) w) ?_
    refine zg_1 (pc' := 48) (fun _ _ _ _ _ hl w => lv_goto hx hb zd_M_store_44 (by decide) w) ?_
    exact zw_M_store_48 X hR hF hret n s0 a0 i1 a0 (1 : Int32) hf
set_option maxHeartbeats 4000000 in
theorem zc_M_store (l : Launch) (h0 : Nat) (D : va_G) (dA : Nat → ClassId) (tb : Nat → Nat) (n : Nat) {s0 : zh_S} {a0 : Nat} {i1 : Int32} {r : Int32} {z : zh_S} (hf : zf_M_store n s0 a0 i1 = some (r, z)) : zc_M l zn_M_store zs_M_store 7 179 h0 D dA tb [.ref (h0 + a0), .int i1] s0 (some (.int r)) z := by
  rw [zf_M_store] at hf
  refine zc_of (cc := ze_M_store) (maxL := 3) (ret := (some .int)) (lv := [(0, .ref (h0 + a0)), (1, .int i1)]) (by decide) rfl (Nat.le_of_ble_eq_true rfl) rfl ?_
  intro p e s m args below meth c X hnm
  obtain ⟨hx, hb, hml, hown, htT, hrt, hlk, x00, hIn⟩ := id X
  have hK := hIn.2.1
  have hT := hIn.2.2.1
  have hNe := hIn.2.2.2
  have hR : zg_R { frames := 7, cells := zh_N z - zh_N s0, slots := zh_M z - zh_M s0, locals := 179 } (zh_N s0) (zh_M s0) z := ⟨by show zh_N z ≤ zh_N s0 + (zh_N z - zh_N s0); omega, by show zh_M z ≤ zh_M s0 + (zh_M z - zh_M s0); omega⟩
  have hF : 7 ≤ ({ frames := 7, cells := zh_N z - zh_N s0, slots := zh_M z - zh_M s0, locals := 179 } : Room).frames ∧ 179 ≤ ({ frames := 7, cells := zh_N z - zh_N s0, slots := zh_M z - zh_M s0, locals := 179 } : Room).locals := ⟨Nat.le_refl _, Nat.le_refl _⟩
  have hret := fun (pc : Nat) (lv : List (Nat × Value)) (hd : decode ze_M_store pc = .ok (.ireturn, 1)) => zg_iret (R := { frames := 7, cells := zh_N z - zh_N s0, slots := zh_M z - zh_M s0, locals := 179 }) (l := l) (e := e) (below := below) (c0 := zh_N s0) (s0 := zh_M s0) (z := z) (lv := lv) (v := r) X rfl hd
  refine zg_1 (pc' := 1) (fun _ _ _ _ _ hl w => lv_iload_n hx hb zd_M_store_0 rfl (lv_at hl 1 rfl) w) ?_
  refine zg_2 (pc1 := 35) (pc2 := 4) (Classical.em _) (fun _ _ _ _ _ w1 w2 => lv_if_lt hx hb zd_M_store_1 (by decide) w1 w2) (fun hc => ?_) (fun hc => ?_)
  · rw [if_pos hc] at hf
    refine zg_1 (pc' := 36) (fun _ _ _ _ _ hl w => lv_iconst (v := (-1 : Int32)) hx hb zd_M_store_35 (by decide) w) ?_
    obtain ⟨rfl, rfl⟩ := zx_r2 hf
    exact hret _ _ zd_M_store_36
  · rw [if_neg hc] at hf
    refine zg_1 (pc' := 5) (fun _ _ _ _ _ hl w => lv_iload_n hx hb zd_M_store_4 rfl (lv_at hl 1 rfl) w) ?_
    refine zg_1 (pc' := 6) (fun _ _ _ _ _ hl w => lv_iconst (v := (2 : Int32)) hx hb zd_M_store_5 (by decide) w) ?_
    refine zg_2 (pc1 := 35) (pc2 := 9) (Classical.em _) (fun _ _ _ _ _ w1 w2 => lv_icmp_gt hx hb zd_M_store_6 (by decide) w1 w2) (fun hc => ?_) (fun hc => ?_)
    · rw [if_pos hc] at hf
      refine zg_1 (pc' := 36) (fun _ _ _ _ _ hl w => lv_iconst (v := (-1 : Int32)) hx hb zd_M_store_35 (by decide) w) ?_
      obtain ⟨rfl, rfl⟩ := zx_r2 hf
      exact hret _ _ zd_M_store_36
    · rw [if_neg hc] at hf
      refine zg_1 (pc' := 10) (fun _ _ _ _ _ hl w => lv_iload_n hx hb zd_M_store_9 rfl (lv_at hl 1 rfl) w) ?_
      refine zg_1 (pc' := 11) (fun _ _ _ _ _ hl w => lv_iconst (v := (2 : Int32)) hx hb zd_M_store_10 (by decide) w) ?_
      refine zg_2 (pc1 := 26) (pc2 := 14) (Classical.em _).symm (fun _ _ _ _ _ w1 w2 => lv_icmp_ne hx hb zd_M_store_11 (by decide) w1 w2) (fun hc => ?_) (fun hc => ?_)
      · rw [if_neg hc] at hf
        refine zg_1 (pc' := 27) (fun _ _ _ _ _ hl w => lv_aload_n hx hb zd_M_store_26 rfl (lv_at hl 0 rfl) w) ?_
        obtain ⟨h_1, hf⟩ := zx_ck hf
        refine zg_get (pc' := 30) (ci := 8) hx hb htT zi_M hown hK h_1 rfl rfl 15 (by decide) (htT _ zt_820) (fun _ h9 => h9) rfl zd_M_store_27 rfl ?_
        refine zg_1 (pc' := 32) (fun _ _ _ _ _ hl w => lv_bipush (v := (12 : Int32)) hx hb zd_M_store_30 (by decide) w) ?_
        refine zg_2 (pc1 := 37) (pc2 := 35) (Classical.em _).symm (fun _ _ _ _ _ w1 w2 => lv_icmp_ne hx hb zd_M_store_32 (by decide) w1 w2) (fun hc => ?_) (fun hc => ?_)
        · rw [if_neg hc] at hf
          exact zw_M_store_37 X hR hF hret n s0 a0 i1 hf
        · rw [if_pos hc] at hf
          refine zg_1 (pc' := 36) (fun _ _ _ _ _ hl w => lv_iconst (v := (-1 : Int32)) hx hb zd_M_store_35 (by decide) w) ?_
          obtain ⟨rfl, rfl⟩ := zx_r2 hf
          exact hret _ _ zd_M_store_36
      · rw [if_pos hc] at hf
        refine zg_1 (pc' := 15) (fun _ _ _ _ _ hl w => lv_aload_n hx hb zd_M_store_14 rfl (lv_at hl 0 rfl) w) ?_
        obtain ⟨h_2, hf⟩ := zx_ck hf
        refine zg_get (pc' := 18) (ci := 8) hx hb htT zi_M hown hK h_2 rfl rfl 17 (by decide) (htT _ zt_822) (fun _ h9 => h9) rfl zd_M_store_15 rfl ?_
        refine zg_1 (pc' := 20) (fun _ _ _ _ _ hl w => lv_bipush (v := (6 : Int32)) hx hb zd_M_store_18 (by decide) w) ?_
        refine zg_2 (pc1 := 37) (pc2 := 23) (Classical.em _).symm (fun _ _ _ _ _ w1 w2 => lv_icmp_ne hx hb zd_M_store_20 (by decide) w1 w2) (fun hc => ?_) (fun hc => ?_)
        · rw [if_neg hc] at hf
          exact zw_M_store_37 X hR hF hret n s0 a0 i1 hf
        · rw [if_pos hc] at hf
          refine zg_1 (pc' := 35) (fun _ _ _ _ _ hl w => lv_goto hx hb zd_M_store_23 (by decide) w) ?_
          refine zg_1 (pc' := 36) (fun _ _ _ _ _ hl w => lv_iconst (v := (-1 : Int32)) hx hb zd_M_store_35 (by decide) w) ?_
          obtain ⟨rfl, rfl⟩ := zx_r2 hf
          exact hret _ _ zd_M_store_36
set_option maxHeartbeats 4000000 in
theorem zc_V_check (l : Launch) (h0 : Nat) (D : va_G) (dA : Nat → ClassId) (tb : Nat → Nat) (n : Nat) {s0 : zh_S} {a0 : Nat} {i1 : Int32} {r : Int32} {z : zh_S} (hf : zf_V_check n s0 a0 i1 = some (r, z)) : zc_M l zn_V_check zs_V_check 7 176 h0 D dA tb [.ref (h0 + a0), .int i1] s0 (some (.int r)) z := by
  rw [zf_V_check] at hf
  refine zc_of (cc := ze_V_check) (maxL := 3) (ret := (some .int)) (lv := [(0, .ref (h0 + a0)), (1, .int i1)]) (by decide) rfl (Nat.le_of_ble_eq_true rfl) rfl ?_
  intro p e s m args below meth c X hnm
  obtain ⟨hx, hb, hml, hown, htT, hrt, hlk, x00, hIn⟩ := id X
  have hK := hIn.2.1
  have hT := hIn.2.2.1
  have hNe := hIn.2.2.2
  have hR : zg_R { frames := 7, cells := zh_N z - zh_N s0, slots := zh_M z - zh_M s0, locals := 176 } (zh_N s0) (zh_M s0) z := ⟨by show zh_N z ≤ zh_N s0 + (zh_N z - zh_N s0); omega, by show zh_M z ≤ zh_M s0 + (zh_M z - zh_M s0); omega⟩
  have hF : 7 ≤ ({ frames := 7, cells := zh_N z - zh_N s0, slots := zh_M z - zh_M s0, locals := 176 } : Room).frames ∧ 176 ≤ ({ frames := 7, cells := zh_N z - zh_N s0, slots := zh_M z - zh_M s0, locals := 176 } : Room).locals := ⟨Nat.le_refl _, Nat.le_refl _⟩
  have hret := fun (pc : Nat) (lv : List (Nat × Value)) (hd : decode ze_V_check pc = .ok (.ireturn, 1)) => zg_iret (R := { frames := 7, cells := zh_N z - zh_N s0, slots := zh_M z - zh_M s0, locals := 176 }) (l := l) (e := e) (below := below) (c0 := zh_N s0) (s0 := zh_M s0) (z := z) (lv := lv) (v := r) X rfl hd
  obtain ⟨a_2, e_a_2, hf⟩ := zx_l hf
  obtain ⟨s_1, e_s_1, hf⟩ := zx_l hf
  refine zg_new (pc' := 3) (ci := 2) hx hb htT zi_Reader zy_Reader zo_Reader hown (htT _ zt_490) (htT _ zt_491) (htT _ zt_75) hK rfl rfl (fun j hj => by rcases (show j = 0 ∨ j = 1 ∨ j = 2 by omega) with rfl | rfl | rfl <;> rfl) hR e_s_1 e_a_2 zd_V_check_0 rfl ?_
  have ho_a_2 : zh_oo s_1 a_2 2 := zx_on e_s_1 e_a_2
  refine zg_1 (pc' := 4) (fun _ _ _ _ _ hl w => lv_dup hx hb zd_V_check_3 rfl w) ?_
  refine zg_1 (pc' := 5) (fun _ _ _ _ _ hl w => lv_aload_n hx hb zd_V_check_4 rfl (lv_at hl 0 rfl) w) ?_
  obtain ⟨h_3, hf⟩ := zx_ck hf
  obtain ⟨a_4, h_5, hf⟩ := zx_p hf
  refine zg_get (pc' := 8) (ci := 7) hx hb htT zi_V hown hK h_3 rfl rfl 0 (by decide) (htT _ zt_302) (fun _ h9 => h9) (zx_hv h_5) zd_V_check_5 rfl ?_
  obtain ⟨s_6, hq, hf⟩ := zx_p hf
  refine zg_call (pc' := 11) (y := s_6) (rv := none) (rest := [.ref (h0 + a_2)]) X hR (zm_Reader_init hq) (fun H locs ls k j hsz hI hU hk => va_runI (As := [.ref (h0 + a_4)]) (rest := [.ref (h0 + a_2)]) ⟨hx, hb, hml, hown, htT⟩ (zc_Reader_init l h0 D dA tb n hq) (cwI 1 htT (zw_g zt_494) rfl rfl rfl (htT _ zt_75) (htT _ zt_492) (htT _ zt_493) rfl (by decide +kernel) ⟨Nat.le_trans (Nat.le_of_ble_eq_true rfl) hF.1, Nat.le_trans (Nat.le_of_ble_eq_true rfl) hF.2⟩) (zg_pre hU) rfl rfl hsz rfl (lv_room (Nat.le_of_ble_eq_true rfl)) zd_V_check_8 hk) rfl ?_
  refine zg_s (pc' := 12) (lv' := [(2, .ref (h0 + a_2)), (0, .ref (h0 + a0)), (1, .int i1)]) (fun _ _ _ _ _ hl w => lv_astore_n hx hb zd_V_check_11 rfl hl (by decide) rfl w) ?_
  refine zg_1 (pc' := 13) (fun _ _ _ _ _ hl w => lv_iload_n hx hb zd_V_check_12 rfl (lv_at hl 2 rfl) w) ?_
  refine zg_2 (pc1 := 30) (pc2 := 16) (Classical.em _) (fun _ _ _ _ _ w1 w2 => lv_if_eq hx hb zd_V_check_13 (by decide) w1 w2) (fun hc => ?_) (fun hc => ?_)
  · rw [if_pos hc] at hf
    refine zg_1 (pc' := 31) (fun _ _ _ _ _ hl w => lv_aload_n hx hb zd_V_check_30 rfl (lv_at hl 0 rfl) w) ?_
    refine zg_1 (pc' := 32) (fun _ _ _ _ _ hl w => lv_aload_n hx hb zd_V_check_31 rfl (lv_at hl 1 rfl) w) ?_
    obtain ⟨h_7, hf⟩ := zx_ck hf
    obtain ⟨a_8, h_9, hf⟩ := zx_p hf
    refine zg_get (pc' := 35) (ci := 7) hx hb htT zi_V hown hK h_7 rfl rfl 2 (by decide) (htT _ zt_304) (fun _ h9 => h9) (zx_hv h_9) zd_V_check_32 rfl ?_
    obtain ⟨h_10, hf⟩ := zx_ck hf
    obtain ⟨a_11, hq, hf⟩ := zx_p hf
    refine zg_call (pc' := 38) (y := s_6) (rv := (some (.ref (h0 + a_11)))) (rest := [.ref (h0 + a_2)]) X hR ⟨Nat.le_refl _, Nat.le_refl _⟩ (fun H locs ls k j hsz hI hU hk => va_runV (As := []) (rest := [.ref (h0 + a_2)]) ⟨hx, hb, hml, hown, htT⟩ (zc_Shelf_nextList l h0 D dA tb n hq) (cwV 0 htT (zw_gV zt_588 zt_589 zt_590 zt_67 zt_591) rfl rfl rfl (by decide +kernel) ⟨Nat.le_trans (Nat.le_of_ble_eq_true rfl) hF.1, Nat.le_trans (Nat.le_of_ble_eq_true rfl) hF.2⟩) ⟨(zg_pre hU).1, zg_recv hK hI h_10 rfl, (zg_pre hU).2⟩ rfl rfl hsz rfl (lv_room (Nat.le_of_ble_eq_true rfl)) zd_V_check_35 hk) rfl ?_
    obtain ⟨h_13, hf⟩ := zx_ck hf
    obtain ⟨i_14, s_12, hq, hf⟩ := zx_b hf
    refine zg_call (pc' := 41) (y := s_12) (rv := (some (.int i_14))) (rest := []) X hR (zm_Reader_readList hq) (fun H locs ls k j hsz hI hU hk => va_runV (As := [.ref (h0 + a_11)]) (rest := []) ⟨hx, hb, hml, hown, htT⟩ (zc_Reader_readList l h0 D dA tb n hq) (cwV 1 htT (zw_gV zt_592 zt_593 zt_594 zt_75 zt_595) rfl rfl rfl (by decide +kernel) ⟨Nat.le_trans (Nat.le_of_ble_eq_true rfl) hF.1, Nat.le_trans (Nat.le_of_ble_eq_true rfl) hF.2⟩) ⟨(zg_pre hU).1, zg_recv hK hI h_13 rfl, (zg_pre hU).2⟩ rfl rfl hsz rfl (lv_room (Nat.le_of_ble_eq_true rfl)) zd_V_check_38 hk) rfl ?_
    obtain ⟨rfl, rfl⟩ := zx_r2 hf
    exact hret _ _ zd_V_check_41
  · rw [if_neg hc] at hf
    refine zg_1 (pc' := 17) (fun _ _ _ _ _ hl w => lv_aload_n hx hb zd_V_check_16 rfl (lv_at hl 0 rfl) w) ?_
    refine zg_1 (pc' := 18) (fun _ _ _ _ _ hl w => lv_aload_n hx hb zd_V_check_17 rfl (lv_at hl 1 rfl) w) ?_
    obtain ⟨h_15, hf⟩ := zx_ck hf
    obtain ⟨a_16, h_17, hf⟩ := zx_p hf
    refine zg_get (pc' := 21) (ci := 7) hx hb htT zi_V hown hK h_15 rfl rfl 2 (by decide) (htT _ zt_304) (fun _ h9 => h9) (zx_hv h_17) zd_V_check_18 rfl ?_
    obtain ⟨h_18, hf⟩ := zx_ck hf
    obtain ⟨a_19, hq, hf⟩ := zx_p hf
    refine zg_call (pc' := 24) (y := s_6) (rv := (some (.ref (h0 + a_19)))) (rest := [.ref (h0 + a_2)]) X hR ⟨Nat.le_refl _, Nat.le_refl _⟩ (fun H locs ls k j hsz hI hU hk => va_runV (As := []) (rest := [.ref (h0 + a_2)]) ⟨hx, hb, hml, hown, htT⟩ (zc_Shelf_nextCertificate l h0 D dA tb n hq) (cwV 0 htT (zw_gV zt_506 zt_507 zt_508 zt_67 zt_509) rfl rfl rfl (by decide +kernel) ⟨Nat.le_trans (Nat.le_of_ble_eq_true rfl) hF.1, Nat.le_trans (Nat.le_of_ble_eq_true rfl) hF.2⟩) ⟨(zg_pre hU).1, zg_recv hK hI h_18 rfl, (zg_pre hU).2⟩ rfl rfl hsz rfl (lv_room (Nat.le_of_ble_eq_true rfl)) zd_V_check_21 hk) rfl ?_
    obtain ⟨h_21, hf⟩ := zx_ck hf
    obtain ⟨i_22, s_20, hq, hf⟩ := zx_b hf
    refine zg_call (pc' := 27) (y := s_20) (rv := (some (.int i_22))) (rest := []) X hR (zm_Reader_readCertificate hq) (fun H locs ls k j hsz hI hU hk => va_runV (As := [.ref (h0 + a_19)]) (rest := []) ⟨hx, hb, hml, hown, htT⟩ (zc_Reader_readCertificate l h0 D dA tb n hq) (cwV 1 htT (zw_gV zt_510 zt_511 zt_512 zt_75 zt_513) rfl rfl rfl (by decide +kernel) ⟨Nat.le_trans (Nat.le_of_ble_eq_true rfl) hF.1, Nat.le_trans (Nat.le_of_ble_eq_true rfl) hF.2⟩) ⟨(zg_pre hU).1, zg_recv hK hI h_21 rfl, (zg_pre hU).2⟩ rfl rfl hsz rfl (lv_room (Nat.le_of_ble_eq_true rfl)) zd_V_check_24 hk) rfl ?_
    refine zg_1 (pc' := 41) (fun _ _ _ _ _ hl w => lv_goto hx hb zd_V_check_27 (by decide) w) ?_
    obtain ⟨rfl, rfl⟩ := zx_r2 hf
    exact hret _ _ zd_V_check_41
set_option maxHeartbeats 4000000 in
theorem zc_Draft_empty (l : Launch) (h0 : Nat) (D : va_G) (dA : Nat → ClassId) (tb : Nat → Nat) (n : Nat) {s0 : zh_S} {a0 : Nat} {z : zh_S} (hf : zf_Draft_empty n s0 a0 = some z) : zc_M l zn_Draft_empty zs_Draft_empty 0 0 h0 D dA tb [.ref (h0 + a0)] s0 none z := by
  rw [zf_Draft_empty] at hf
  refine zc_of (cc := ze_Draft_empty) (maxL := 1) (ret := none) (lv := [(0, .ref (h0 + a0))]) (by decide) rfl (Nat.le_of_ble_eq_true rfl) rfl ?_
  intro p e s m args below meth c X hnm
  obtain ⟨hx, hb, hml, hown, htT, hrt, hlk, x00, hIn⟩ := id X
  have hK := hIn.2.1
  have hT := hIn.2.2.1
  have hNe := hIn.2.2.2
  have hR : zg_R { frames := 0, cells := zh_N z - zh_N s0, slots := zh_M z - zh_M s0, locals := 0 } (zh_N s0) (zh_M s0) z := ⟨by show zh_N z ≤ zh_N s0 + (zh_N z - zh_N s0); omega, by show zh_M z ≤ zh_M s0 + (zh_M z - zh_M s0); omega⟩
  have hF : 0 ≤ ({ frames := 0, cells := zh_N z - zh_N s0, slots := zh_M z - zh_M s0, locals := 0 } : Room).frames ∧ 0 ≤ ({ frames := 0, cells := zh_N z - zh_N s0, slots := zh_M z - zh_M s0, locals := 0 } : Room).locals := ⟨Nat.le_refl _, Nat.le_refl _⟩
  have hret := fun (pc : Nat) (lv : List (Nat × Value)) (hd : decode ze_Draft_empty pc = .ok (.return_, 1)) => zg_vret (R := { frames := 0, cells := zh_N z - zh_N s0, slots := zh_M z - zh_M s0, locals := 0 }) (l := l) (e := e) (below := below) (c0 := zh_N s0) (s0 := zh_M s0) (z := z) (lv := lv) X hd
  refine zg_1 (pc' := 1) (fun _ _ _ _ _ hl w => lv_aload_n hx hb zd_Draft_empty_0 rfl (lv_at hl 0 rfl) w) ?_
  refine zg_1 (pc' := 2) (fun _ _ _ _ _ hl w => lv_iconst (v := (0 : Int32)) hx hb zd_Draft_empty_1 (by decide) w) ?_
  obtain ⟨h_2, hf⟩ := zx_ck hf
  obtain ⟨s_1, e_s_1, hf⟩ := zx_l hf
  refine zg_putI (pc' := 5) (ci := 1) (ty := .int) hx hb htT zi_Draft zy_Draft zo_Draft zj_Draft hown hK h_2 rfl rfl 1 (by decide) (htT _ zt_94) (fun _ h9 => h9) (Or.inl rfl) (by decide +kernel) rfl rfl rfl e_s_1 zd_Draft_empty_2 rfl ?_
  obtain rfl := zx_r1 hf
  exact hret _ _ zd_Draft_empty_5
set_option maxHeartbeats 4000000 in
theorem zc_Draft_isByte (l : Launch) (h0 : Nat) (D : va_G) (dA : Nat → ClassId) (tb : Nat → Nat) (n : Nat) {s0 : zh_S} {i0 : Int32} {r : Int32} (hf : zf_Draft_isByte n i0 = some r) : zc_M l zn_Draft_isByte zs_Draft_isByte 0 0 h0 D dA tb [.int i0] s0 (some (.int r)) s0 := by
  rw [zf_Draft_isByte] at hf
  refine zc_of (cc := ze_Draft_isByte) (maxL := 1) (ret := (some .boolean)) (lv := [(0, .int i0)]) (by decide) rfl (Nat.le_of_ble_eq_true rfl) rfl ?_
  intro p e s m args below meth c X hnm
  obtain ⟨hx, hb, hml, hown, htT, hrt, hlk, x00, hIn⟩ := id X
  have hK := hIn.2.1
  have hT := hIn.2.2.1
  have hNe := hIn.2.2.2
  have hR : zg_R { frames := 0, cells := zh_N s0 - zh_N s0, slots := zh_M s0 - zh_M s0, locals := 0 } (zh_N s0) (zh_M s0) s0 := ⟨by show zh_N s0 ≤ zh_N s0 + (zh_N s0 - zh_N s0); omega, by show zh_M s0 ≤ zh_M s0 + (zh_M s0 - zh_M s0); omega⟩
  have hF : 0 ≤ ({ frames := 0, cells := zh_N s0 - zh_N s0, slots := zh_M s0 - zh_M s0, locals := 0 } : Room).frames ∧ 0 ≤ ({ frames := 0, cells := zh_N s0 - zh_N s0, slots := zh_M s0 - zh_M s0, locals := 0 } : Room).locals := ⟨Nat.le_refl _, Nat.le_refl _⟩
  have hret := fun (hz : r = 0 ∨ r = 1) (pc : Nat) (lv : List (Nat × Value)) (hd : decode ze_Draft_isByte pc = .ok (.ireturn, 1)) => zg_iret (R := { frames := 0, cells := zh_N s0 - zh_N s0, slots := zh_M s0 - zh_M s0, locals := 0 }) (l := l) (e := e) (below := below) (c0 := zh_N s0) (s0 := zh_M s0) (z := s0) (lv := lv) (v := r) X (zx_nz hz) hd
  refine zg_1 (pc' := 1) (fun _ _ _ _ _ hl w => lv_iload_n hx hb zd_Draft_isByte_0 rfl (lv_at hl 0 rfl) w) ?_
  refine zg_2 (pc1 := 15) (pc2 := 4) (Classical.em _) (fun _ _ _ _ _ w1 w2 => lv_if_lt hx hb zd_Draft_isByte_1 (by decide) w1 w2) (fun hc => ?_) (fun hc => ?_)
  · rw [if_pos hc] at hf
    refine zg_1 (pc' := 16) (fun _ _ _ _ _ hl w => lv_iconst (v := (0 : Int32)) hx hb zd_Draft_isByte_15 (by decide) w) ?_
    obtain rfl := zx_r1 hf
    exact hret (Or.inl rfl) _ _ zd_Draft_isByte_16
  · rw [if_neg hc] at hf
    refine zg_1 (pc' := 5) (fun _ _ _ _ _ hl w => lv_iload_n hx hb zd_Draft_isByte_4 rfl (lv_at hl 0 rfl) w) ?_
    refine zg_1 (pc' := 8) (fun _ _ _ _ _ hl w => lv_sipush (v := (255 : Int32)) hx hb zd_Draft_isByte_5 (by decide) w) ?_
    refine zg_2 (pc1 := 15) (pc2 := 11) (Classical.em _) (fun _ _ _ _ _ w1 w2 => lv_icmp_gt hx hb zd_Draft_isByte_8 (by decide) w1 w2) (fun hc => ?_) (fun hc => ?_)
    · rw [if_pos hc] at hf
      refine zg_1 (pc' := 16) (fun _ _ _ _ _ hl w => lv_iconst (v := (0 : Int32)) hx hb zd_Draft_isByte_15 (by decide) w) ?_
      obtain rfl := zx_r1 hf
      exact hret (Or.inl rfl) _ _ zd_Draft_isByte_16
    · rw [if_neg hc] at hf
      refine zg_1 (pc' := 12) (fun _ _ _ _ _ hl w => lv_iconst (v := (1 : Int32)) hx hb zd_Draft_isByte_11 (by decide) w) ?_
      refine zg_1 (pc' := 16) (fun _ _ _ _ _ hl w => lv_goto hx hb zd_Draft_isByte_12 (by decide) w) ?_
      obtain rfl := zx_r1 hf
      exact hret (Or.inr rfl) _ _ zd_Draft_isByte_16
set_option maxHeartbeats 4000000 in
theorem zc_Draft_append (l : Launch) (h0 : Nat) (D : va_G) (dA : Nat → ClassId) (tb : Nat → Nat) (n : Nat) {s0 : zh_S} {a0 : Nat} {i1 : Int32} {r : Int32} {z : zh_S} (hf : zf_Draft_append n s0 a0 i1 = some (r, z)) : zc_M l zn_Draft_append zs_Draft_append 1 20 h0 D dA tb [.ref (h0 + a0), .int i1] s0 (some (.int r)) z := by
  rw [zf_Draft_append] at hf
  refine zc_of (cc := ze_Draft_append) (maxL := 2) (ret := (some .boolean)) (lv := [(0, .ref (h0 + a0)), (1, .int i1)]) (by decide) rfl (Nat.le_of_ble_eq_true rfl) rfl ?_
  intro p e s m args below meth c X hnm
  obtain ⟨hx, hb, hml, hown, htT, hrt, hlk, x00, hIn⟩ := id X
  have hK := hIn.2.1
  have hT := hIn.2.2.1
  have hNe := hIn.2.2.2
  have hR : zg_R { frames := 1, cells := zh_N z - zh_N s0, slots := zh_M z - zh_M s0, locals := 20 } (zh_N s0) (zh_M s0) z := ⟨by show zh_N z ≤ zh_N s0 + (zh_N z - zh_N s0); omega, by show zh_M z ≤ zh_M s0 + (zh_M z - zh_M s0); omega⟩
  have hF : 1 ≤ ({ frames := 1, cells := zh_N z - zh_N s0, slots := zh_M z - zh_M s0, locals := 20 } : Room).frames ∧ 20 ≤ ({ frames := 1, cells := zh_N z - zh_N s0, slots := zh_M z - zh_M s0, locals := 20 } : Room).locals := ⟨Nat.le_refl _, Nat.le_refl _⟩
  have hret := fun (hz : r = 0 ∨ r = 1) (pc : Nat) (lv : List (Nat × Value)) (hd : decode ze_Draft_append pc = .ok (.ireturn, 1)) => zg_iret (R := { frames := 1, cells := zh_N z - zh_N s0, slots := zh_M z - zh_M s0, locals := 20 }) (l := l) (e := e) (below := below) (c0 := zh_N s0) (s0 := zh_M s0) (z := z) (lv := lv) (v := r) X (zx_nz hz) hd
  refine zg_1 (pc' := 1) (fun _ _ _ _ _ hl w => lv_iload_n hx hb zd_Draft_append_0 rfl (lv_at hl 1 rfl) w) ?_
  obtain ⟨i_1, hq, hf⟩ := zx_p hf
  refine zg_call (pc' := 4) (y := s0) (rv := (some (.int i_1))) (rest := []) X hR ⟨Nat.le_refl _, Nat.le_refl _⟩ (fun H locs ls k j hsz hI hU hk => va_runS (As := [.int i1]) (rest := []) ⟨hx, hb, hml, hown, htT⟩ (zc_Draft_isByte l h0 D dA tb n hq) (va_cwS 1 htT (zw_gS zt_323 zt_324 zt_65 zt_325) rfl rfl rfl (by decide +kernel) ⟨Nat.le_trans (Nat.le_of_ble_eq_true rfl) hF.1, Nat.le_trans (Nat.le_of_ble_eq_true rfl) hF.2⟩) (zg_pre hU) rfl rfl hsz rfl (lv_room (Nat.le_of_ble_eq_true rfl)) zd_Draft_append_1 hk) rfl ?_
  refine zg_2 (pc1 := 17) (pc2 := 7) (Classical.em _) (fun _ _ _ _ _ w1 w2 => lv_if_eq hx hb zd_Draft_append_4 (by decide) w1 w2) (fun hc => ?_) (fun hc => ?_)
  · rw [if_pos hc] at hf
    refine zg_1 (pc' := 18) (fun _ _ _ _ _ hl w => lv_iconst (v := (0 : Int32)) hx hb zd_Draft_append_17 (by decide) w) ?_
    obtain ⟨rfl, rfl⟩ := zx_r2 hf
    exact hret (Or.inl rfl) _ _ zd_Draft_append_18
  · rw [if_neg hc] at hf
    refine zg_1 (pc' := 8) (fun _ _ _ _ _ hl w => lv_aload_n hx hb zd_Draft_append_7 rfl (lv_at hl 0 rfl) w) ?_
    obtain ⟨h_2, hf⟩ := zx_ck hf
    refine zg_get (pc' := 11) (ci := 1) hx hb htT zi_Draft hown hK h_2 rfl rfl 1 (by decide) (htT _ zt_94) (fun _ h9 => h9) rfl zd_Draft_append_8 rfl ?_
    refine zg_1 (pc' := 14) (fun _ _ _ _ _ hl w => lv_sipush (v := (200 : Int32)) hx hb zd_Draft_append_11 (by decide) w) ?_
    refine zg_2 (pc1 := 19) (pc2 := 17) (Classical.em _) (fun _ _ _ _ _ w1 w2 => lv_icmp_lt hx hb zd_Draft_append_14 (by decide) w1 w2) (fun hc => ?_) (fun hc => ?_)
    · rw [if_pos hc] at hf
      refine zg_1 (pc' := 20) (fun _ _ _ _ _ hl w => lv_aload_n hx hb zd_Draft_append_19 rfl (lv_at hl 0 rfl) w) ?_
      obtain ⟨a_3, h_4, hf⟩ := zx_p hf
      refine zg_get (pc' := 23) (ci := 1) hx hb htT zi_Draft hown hK h_2 rfl rfl 0 (by decide) (htT _ zt_91) (fun _ h9 => h9) (zx_hv h_4) zd_Draft_append_20 rfl ?_
      refine zg_1 (pc' := 24) (fun _ _ _ _ _ hl w => lv_aload_n hx hb zd_Draft_append_23 rfl (lv_at hl 0 rfl) w) ?_
      refine zg_get (pc' := 27) (ci := 1) hx hb htT zi_Draft hown hK h_2 rfl rfl 1 (by decide) (htT _ zt_94) (fun _ h9 => h9) rfl zd_Draft_append_24 rfl ?_
      refine zg_1 (pc' := 28) (fun _ _ _ _ _ hl w => lv_iload_n hx hb zd_Draft_append_27 rfl (lv_at hl 1 rfl) w) ?_
      obtain ⟨h_6, hf⟩ := zx_ck hf
      obtain ⟨s_5, e_s_5, hf⟩ := zx_l hf
      refine zg_iast (pc' := 29) hx hb hK h_6 e_s_5 zd_Draft_append_28 rfl ?_
      refine zg_1 (pc' := 30) (fun _ _ _ _ _ hl w => lv_aload_n hx hb zd_Draft_append_29 rfl (lv_at hl 0 rfl) w) ?_
      refine zg_1 (pc' := 31) (fun _ _ _ _ _ hl w => lv_dup hx hb zd_Draft_append_30 rfl w) ?_
      obtain ⟨h_7, hf⟩ := zx_ck hf
      refine zg_get (pc' := 34) (ci := 1) hx hb htT zi_Draft hown hK h_7 rfl rfl 1 (by decide) (htT _ zt_94) (fun _ h9 => h9) rfl zd_Draft_append_31 rfl ?_
      refine zg_1 (pc' := 35) (fun _ _ _ _ _ hl w => lv_iconst (v := (1 : Int32)) hx hb zd_Draft_append_34 (by decide) w) ?_
      refine zg_1 (pc' := 36) (fun _ _ _ _ _ hl w => lv_iadd hx hb zd_Draft_append_35 w) ?_
      obtain ⟨s_8, e_s_8, hf⟩ := zx_l hf
      refine zg_putI (pc' := 39) (ci := 1) (ty := .int) hx hb htT zi_Draft zy_Draft zo_Draft zj_Draft hown hK h_7 rfl rfl 1 (by decide) (htT _ zt_94) (fun _ h9 => h9) (Or.inl rfl) (by decide +kernel) rfl rfl rfl e_s_8 zd_Draft_append_36 rfl ?_
      refine zg_1 (pc' := 40) (fun _ _ _ _ _ hl w => lv_iconst (v := (1 : Int32)) hx hb zd_Draft_append_39 (by decide) w) ?_
      obtain ⟨rfl, rfl⟩ := zx_r2 hf
      exact hret (Or.inr rfl) _ _ zd_Draft_append_40
    · rw [if_neg hc] at hf
      refine zg_1 (pc' := 18) (fun _ _ _ _ _ hl w => lv_iconst (v := (0 : Int32)) hx hb zd_Draft_append_17 (by decide) w) ?_
      obtain ⟨rfl, rfl⟩ := zx_r2 hf
      exact hret (Or.inl rfl) _ _ zd_Draft_append_18
