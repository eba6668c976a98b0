set_option maxHeartbeats 4000000 in
theorem zc_Signed_isSignedBy_C (l : Launch) (h0 : Nat) (D : va_G) (dA : Nat → ClassId) (tb : Nat → Nat) (n : Nat) {s0 : zh_S} {a0 : Nat} {i1 : Int32} {r : Int32} (hf : zf_Signed_isSignedBy_C n s0 a0 i1 = some r) : zc_M l zn_Signed_isSignedBy zs_Signed_isSignedBy 0 0 h0 D dA tb [.ref (h0 + a0), .int i1] s0 (some (.int r)) s0 := by
  rw [zf_Signed_isSignedBy_C] at hf
  refine zc_of (cc := ze_Signed_isSignedBy) (maxL := 2) (ret := (some .boolean)) (lv := [(0, .ref (h0 + a0)), (1, .int i1)]) (by decide) rfl (Nat.le_of_ble_eq_true rfl) rfl ?_
  intro p e s m args below meth c X hnm
  obtain ⟨hx, hb, hml, hown, htT, hrt, hlk, x00, hIn⟩ := id X
  have hK := hIn.2.1
  have hT := hIn.2.2.1
  have hNe := hIn.2.2.2
  have hR : zg_R { frames := 0, cells := zh_N s0 - zh_N s0, slots := zh_M s0 - zh_M s0, locals := 0 } (zh_N s0) (zh_M s0) s0 := ⟨by show zh_N s0 ≤ zh_N s0 + (zh_N s0 - zh_N s0); omega, by show zh_M s0 ≤ zh_M s0 + (zh_M s0 - zh_M s0); omega⟩
  have hF : 0 ≤ ({ frames := 0, cells := zh_N s0 - zh_N s0, slots := zh_M s0 - zh_M s0, locals := 0 } : Room).frames ∧ 0 ≤ ({ frames := 0, cells := zh_N s0 - zh_N s0, slots := zh_M s0 - zh_M s0, locals := 0 } : Room).locals := ⟨Nat.le_refl _, Nat.le_refl _⟩
  have hret := fun (hz : r = 0 ∨ r = 1) (pc : Nat) (lv : List (Nat × Value)) (hd : decode ze_Signed_isSignedBy pc = .ok (.ireturn, 1)) => zg_iret (R := { frames := 0, cells := zh_N s0 - zh_N s0, slots := zh_M s0 - zh_M s0, locals := 0 }) (l := l) (e := e) (below := below) (c0 := zh_N s0) (s0 := zh_M s0) (z := s0) (lv := lv) (v := r) X (zx_nz hz) hd
  refine zg_1 (pc' := 1) (fun _ _ _ _ _ hl w => lv_aload_n hx hb zd_Signed_isSignedBy_0 rfl (lv_at hl 0 rfl) w) ?_
  obtain ⟨h_1, hf⟩ := zx_ck hf
  refine zg_get (pc' := 4) (ci := 0) hx hb htT zi_Certificate hown hK h_1 rfl rfl 5 (by decide) (htT _ zt_217) (fun _ h9 => h9) rfl zd_Signed_isSignedBy_1 rfl ?_
  refine zg_1 (pc' := 5) (fun _ _ _ _ _ hl w => lv_iload_n hx hb zd_Signed_isSignedBy_4 rfl (lv_at hl 1 rfl) w) ?_
  refine zg_1 (pc' := 6) (fun _ _ _ _ _ hl w => lv_ishr hx hb zd_Signed_isSignedBy_5 w) ?_
  refine zg_1 (pc' := 7) (fun _ _ _ _ _ hl w => lv_iconst (v := (1 : Int32)) hx hb zd_Signed_isSignedBy_6 (by decide) w) ?_
  refine zg_1 (pc' := 8) (fun _ _ _ _ _ hl w => lv_iand hx hb zd_Signed_isSignedBy_7 w) ?_
  refine zg_1 (pc' := 9) (fun _ _ _ _ _ hl w => lv_iconst (v := (1 : Int32)) hx hb zd_Signed_isSignedBy_8 (by decide) w) ?_
  refine zg_2 (pc1 := 16) (pc2 := 12) (Classical.em _).symm (fun _ _ _ _ _ w1 w2 => lv_icmp_ne hx hb zd_Signed_isSignedBy_9 (by decide) w1 w2) (fun hc => ?_) (fun hc => ?_)
  · rw [if_neg hc] at hf
    refine zg_1 (pc' := 17) (fun _ _ _ _ _ hl w => lv_iconst (v := (0 : Int32)) hx hb zd_Signed_isSignedBy_16 (by decide) w) ?_
    obtain rfl := zx_r1 hf
    exact hret (Or.inl rfl) _ _ zd_Signed_isSignedBy_17
  · rw [if_pos hc] at hf
    refine zg_1 (pc' := 13) (fun _ _ _ _ _ hl w => lv_iconst (v := (1 : Int32)) hx hb zd_Signed_isSignedBy_12 (by decide) w) ?_
    refine zg_1 (pc' := 17) (fun _ _ _ _ _ hl w => lv_goto hx hb zd_Signed_isSignedBy_13 (by decide) w) ?_
    obtain rfl := zx_r1 hf
    exact hret (Or.inr rfl) _ _ zd_Signed_isSignedBy_17
set_option maxHeartbeats 4000000 in
theorem zc_Signed_isTimely_C (l : Launch) (h0 : Nat) (D : va_G) (dA : Nat → ClassId) (tb : Nat → Nat) (n : Nat) {s0 : zh_S} {a0 : Nat} {j1 : Int64} {r : Int32} (hf : zf_Signed_isTimely_C n s0 a0 j1 = some r) : zc_M l zn_Signed_isTimely zs_Signed_isTimely 0 0 h0 D dA tb [.ref (h0 + a0), .long j1] s0 (some (.int r)) s0 := by
  rw [zf_Signed_isTimely_C] at hf
  refine zc_of (cc := ze_Signed_isTimely) (maxL := 3) (ret := (some .boolean)) (lv := [(0, .ref (h0 + a0)), (1, .long j1)]) (by decide) rfl (Nat.le_of_ble_eq_true rfl) rfl ?_
  intro p e s m args below meth c X hnm
  obtain ⟨hx, hb, hml, hown, htT, hrt, hlk, x00, hIn⟩ := id X
  have hK := hIn.2.1
  have hT := hIn.2.2.1
  have hNe := hIn.2.2.2
  have hR : zg_R { frames := 0, cells := zh_N s0 - zh_N s0, slots := zh_M s0 - zh_M s0, locals := 0 } (zh_N s0) (zh_M s0) s0 := ⟨by show zh_N s0 ≤ zh_N s0 + (zh_N s0 - zh_N s0); omega, by show zh_M s0 ≤ zh_M s0 + (zh_M s0 - zh_M s0); omega⟩
  have hF : 0 ≤ ({ frames := 0, cells := zh_N s0 - zh_N s0, slots := zh_M s0 - zh_M s0, locals := 0 } : Room).frames ∧ 0 ≤ ({ frames := 0, cells := zh_N s0 - zh_N s0, slots := zh_M s0 - zh_M s0, locals := 0 } : Room).locals := ⟨Nat.le_refl _, Nat.le_refl _⟩
  have hret := fun (hz : r = 0 ∨ r = 1) (pc : Nat) (lv : List (Nat × Value)) (hd : decode ze_Signed_isTimely pc = .ok (.ireturn, 1)) => zg_iret (R := { frames := 0, cells := zh_N s0 - zh_N s0, slots := zh_M s0 - zh_M s0, locals := 0 }) (l := l) (e := e) (below := below) (c0 := zh_N s0) (s0 := zh_M s0) (z := s0) (lv := lv) (v := r) X (zx_nz hz) hd
  refine zg_1 (pc' := 1) (fun _ _ _ _ _ hl w => lv_aload_n hx hb zd_Signed_isTimely_0 rfl (lv_at hl 0 rfl) w) ?_
  obtain ⟨h_1, hf⟩ := zx_ck hf
  refine zg_get (pc' := 4) (ci := 0) hx hb htT zi_Certificate hown hK h_1 rfl rfl 1 (by decide) (htT _ zt_190) (fun _ h9 => h9) rfl zd_Signed_isTimely_1 rfl ?_
  refine zg_1 (pc' := 5) (fun _ _ _ _ _ hl w => lv_lload_n hx hb zd_Signed_isTimely_4 rfl (lv_at hl 1 rfl) w) ?_
  refine zg_1 (pc' := 6) (fun _ _ _ _ _ hl w => W.lcmp hx hb zd_Signed_isTimely_5 w) ?_
  refine zg_2 (pc1 := 22) (pc2 := 9) (Classical.em _) (fun _ _ _ _ _ w1 w2 => lv_if_gt hx hb zd_Signed_isTimely_6 (by decide) w1 w2) (fun hc => ?_) (fun hc => ?_)
  · rw [if_pos hc] at hf
    refine zg_1 (pc' := 23) (fun _ _ _ _ _ hl w => lv_iconst (v := (0 : Int32)) hx hb zd_Signed_isTimely_22 (by decide) w) ?_
    obtain rfl := zx_r1 hf
    exact hret (Or.inl rfl) _ _ zd_Signed_isTimely_23
  · rw [if_neg hc] at hf
    refine zg_1 (pc' := 10) (fun _ _ _ _ _ hl w => lv_lload_n hx hb zd_Signed_isTimely_9 rfl (lv_at hl 1 rfl) w) ?_
    refine zg_1 (pc' := 11) (fun _ _ _ _ _ hl w => lv_aload_n hx hb zd_Signed_isTimely_10 rfl (lv_at hl 0 rfl) w) ?_
    refine zg_get (pc' := 14) (ci := 0) hx hb htT zi_Certificate hown hK h_1 rfl rfl 2 (by decide) (htT _ zt_198) (fun _ h9 => h9) rfl zd_Signed_isTimely_11 rfl ?_
    refine zg_1 (pc' := 15) (fun _ _ _ _ _ hl w => W.lcmp hx hb zd_Signed_isTimely_14 w) ?_
    refine zg_2 (pc1 := 22) (pc2 := 18) (Classical.em _) (fun _ _ _ _ _ w1 w2 => lv_if_gt hx hb zd_Signed_isTimely_15 (by decide) w1 w2) (fun hc => ?_) (fun hc => ?_)
    · rw [if_pos hc] at hf
      refine zg_1 (pc' := 23) (fun _ _ _ _ _ hl w => lv_iconst (v := (0 : Int32)) hx hb zd_Signed_isTimely_22 (by decide) w) ?_
      obtain rfl := zx_r1 hf
      exact hret (Or.inl rfl) _ _ zd_Signed_isTimely_23
    · rw [if_neg hc] at hf
      refine zg_1 (pc' := 19) (fun _ _ _ _ _ hl w => lv_iconst (v := (1 : Int32)) hx hb zd_Signed_isTimely_18 (by decide) w) ?_
      refine zg_1 (pc' := 23) (fun _ _ _ _ _ hl w => lv_goto hx hb zd_Signed_isTimely_19 (by decide) w) ?_
      obtain rfl := zx_r1 hf
      exact hret (Or.inr rfl) _ _ zd_Signed_isTimely_23
set_option maxHeartbeats 4000000 in
theorem zc_Certificate_isFitFor (l : Launch) (h0 : Nat) (D : va_G) (dA : Nat → ClassId) (tb : Nat → Nat) (n : Nat) {s0 : zh_S} {a0 : Nat} {i1 : Int32} {r : Int32} (hf : zf_Certificate_isFitFor n s0 a0 i1 = some r) : zc_M l zn_Certificate_isFitFor zs_Certificate_isFitFor 0 0 h0 D dA tb [.ref (h0 + a0), .int i1] s0 (some (.int r)) s0 := by
  rw [zf_Certificate_isFitFor] at hf
  refine zc_of (cc := ze_Certificate_isFitFor) (maxL := 2) (ret := (some .boolean)) (lv := [(0, .ref (h0 + a0)), (1, .int i1)]) (by decide) rfl (Nat.le_of_ble_eq_true rfl) rfl ?_
  intro p e s m args below meth c X hnm
  obtain ⟨hx, hb, hml, hown, htT, hrt, hlk, x00, hIn⟩ := id X
  have hK := hIn.2.1
  have hT := hIn.2.2.1
  have hNe := hIn.2.2.2
  have hR : zg_R { frames := 0, cells := zh_N s0 - zh_N s0, slots := zh_M s0 - zh_M s0, locals := 0 } (zh_N s0) (zh_M s0) s0 := ⟨by show zh_N s0 ≤ zh_N s0 + (zh_N s0 - zh_N s0); omega, by show zh_M s0 ≤ zh_M s0 + (zh_M s0 - zh_M s0); omega⟩
  have hF : 0 ≤ ({ frames := 0, cells := zh_N s0 - zh_N s0, slots := zh_M s0 - zh_M s0, locals := 0 } : Room).frames ∧ 0 ≤ ({ frames := 0, cells := zh_N s0 - zh_N s0, slots := zh_M s0 - zh_M s0, locals := 0 } : Room).locals := ⟨Nat.le_refl _, Nat.le_refl _⟩
  have hret := fun (hz : r = 0 ∨ r = 1) (pc : Nat) (lv : List (Nat × Value)) (hd : decode ze_Certificate_isFitFor pc = .ok (.ireturn, 1)) => zg_iret (R := { frames := 0, cells := zh_N s0 - zh_N s0, slots := zh_M s0 - zh_M s0, locals := 0 }) (l := l) (e := e) (below := below) (c0 := zh_N s0) (s0 := zh_M s0) (z := s0) (lv := lv) (v := r) X (zx_nz hz) hd
  refine zg_1 (pc' := 1) (fun _ _ _ _ _ hl w => lv_aload_n hx hb zd_Certificate_isFitFor_0 rfl (lv_at hl 0 rfl) w) ?_
  obtain ⟨h_1, hf⟩ := zx_ck hf
  refine zg_get (pc' := 4) (ci := 0) hx hb htT zi_Certificate hown hK h_1 rfl rfl 11 (by decide) (htT _ zt_160) (fun _ h9 => h9) rfl zd_Certificate_isFitFor_1 rfl ?_
  refine zg_1 (pc' := 5) (fun _ _ _ _ _ hl w => lv_lconst (v := (0 : Int64)) hx hb zd_Certificate_isFitFor_4 (by decide) w) ?_
  refine zg_1 (pc' := 6) (fun _ _ _ _ _ hl w => W.lcmp hx hb zd_Certificate_isFitFor_5 w) ?_
  refine zg_2 (pc1 := 21) (pc2 := 9) (Classical.em _) (fun _ _ _ _ _ w1 w2 => lv_if_eq hx hb zd_Certificate_isFitFor_6 (by decide) w1 w2) (fun hc => ?_) (fun hc => ?_)
  · rw [if_pos hc] at hf
    refine zg_1 (pc' := 22) (fun _ _ _ _ _ hl w => lv_iconst (v := (1 : Int32)) hx hb zd_Certificate_isFitFor_21 (by decide) w) ?_
    refine zg_1 (pc' := 26) (fun _ _ _ _ _ hl w => lv_goto hx hb zd_Certificate_isFitFor_22 (by decide) w) ?_
    obtain rfl := zx_r1 hf
    exact hret (Or.inr rfl) _ _ zd_Certificate_isFitFor_26
  · rw [if_neg hc] at hf
    refine zg_1 (pc' := 10) (fun _ _ _ _ _ hl w => lv_aload_n hx hb zd_Certificate_isFitFor_9 rfl (lv_at hl 0 rfl) w) ?_
    refine zg_get (pc' := 13) (ci := 0) hx hb htT zi_Certificate hown hK h_1 rfl rfl 11 (by decide) (htT _ zt_160) (fun _ h9 => h9) rfl zd_Certificate_isFitFor_10 rfl ?_
    refine zg_1 (pc' := 14) (fun _ _ _ _ _ hl w => lv_iload_n hx hb zd_Certificate_isFitFor_13 rfl (lv_at hl 1 rfl) w) ?_
    refine zg_1 (pc' := 15) (fun _ _ _ _ _ hl w => lv_i2l (v := i1.toInt64) hx hb zd_Certificate_isFitFor_14 rfl w) ?_
    refine zg_1 (pc' := 16) (fun _ _ _ _ _ hl w => lv_land hx hb zd_Certificate_isFitFor_15 w) ?_
    refine zg_1 (pc' := 17) (fun _ _ _ _ _ hl w => lv_lconst (v := (0 : Int64)) hx hb zd_Certificate_isFitFor_16 (by decide) w) ?_
    refine zg_1 (pc' := 18) (fun _ _ _ _ _ hl w => W.lcmp hx hb zd_Certificate_isFitFor_17 w) ?_
    refine zg_2 (pc1 := 25) (pc2 := 21) (Classical.em _) (fun _ _ _ _ _ w1 w2 => lv_if_eq hx hb zd_Certificate_isFitFor_18 (by decide) w1 w2) (fun hc => ?_) (fun hc => ?_)
    · rw [if_pos hc] at hf
      refine zg_1 (pc' := 26) (fun _ _ _ _ _ hl w => lv_iconst (v := (0 : Int32)) hx hb zd_Certificate_isFitFor_25 (by decide) w) ?_
      obtain rfl := zx_r1 hf
      exact hret (Or.inl rfl) _ _ zd_Certificate_isFitFor_26
    · rw [if_neg hc] at hf
      refine zg_1 (pc' := 22) (fun _ _ _ _ _ hl w => lv_iconst (v := (1 : Int32)) hx hb zd_Certificate_isFitFor_21 (by decide) w) ?_
      refine zg_1 (pc' := 26) (fun _ _ _ _ _ hl w => lv_goto hx hb zd_Certificate_isFitFor_22 (by decide) w) ?_
      obtain rfl := zx_r1 hf
      exact hret (Or.inr rfl) _ _ zd_Certificate_isFitFor_26
set_option maxHeartbeats 4000000 in
theorem zc_Signed_isTimely_R (l : Launch) (h0 : Nat) (D : va_G) (dA : Nat → ClassId) (tb : Nat → Nat) (n : Nat) {s0 : zh_S} {a0 : Nat} {j1 : Int64} {r : Int32} (hf : zf_Signed_isTimely_R n s0 a0 j1 = some r) : zc_M l zn_Signed_isTimely zs_Signed_isTimely 0 0 h0 D dA tb [.ref (h0 + a0), .long j1] s0 (some (.int r)) s0 := by
  rw [zf_Signed_isTimely_R] at hf
  refine zc_of (cc := ze_Signed_isTimely) (maxL := 3) (ret := (some .boolean)) (lv := [(0, .ref (h0 + a0)), (1, .long j1)]) (by decide) rfl (Nat.le_of_ble_eq_true rfl) rfl ?_
  intro p e s m args below meth c X hnm
  obtain ⟨hx, hb, hml, hown, htT, hrt, hlk, x00, hIn⟩ := id X
  have hK := hIn.2.1
  have hT := hIn.2.2.1
  have hNe := hIn.2.2.2
  have hR : zg_R { frames := 0, cells := zh_N s0 - zh_N s0, slots := zh_M s0 - zh_M s0, locals := 0 } (zh_N s0) (zh_M s0) s0 := ⟨by show zh_N s0 ≤ zh_N s0 + (zh_N s0 - zh_N s0); omega, by show zh_M s0 ≤ zh_M s0 + (zh_M s0 - zh_M s0); omega⟩
  have hF : 0 ≤ ({ frames := 0, cells := zh_N s0 - zh_N s0, slots := zh_M s0 - zh_M s0, locals := 0 } : Room).frames ∧ 0 ≤ ({ frames := 0, cells := zh_N s0 - zh_N s0, slots := zh_M s0 - zh_M s0, locals := 0 } : Room).locals := ⟨Nat.le_refl _, Nat.le_refl _⟩
  have hret := fun (hz : r = 0 ∨ r = 1) (pc : Nat) (lv : List (Nat × Value)) (hd : decode ze_Signed_isTimely pc = .ok (.ireturn, 1)) => zg_iret (R := { frames := 0, cells := zh_N s0 - zh_N s0, slots := zh_M s0 - zh_M s0, locals := 0 }) (l := l) (e := e) (below := below) (c0 := zh_N s0) (s0 := zh_M s0) (z := s0) (lv := lv) (v := r) X (zx_nz hz) hd
  refine zg_1 (pc' := 1) (fun _ _ _ _ _ hl w => lv_aload_n hx hb zd_Signed_isTimely_0 rfl (lv_at hl 0 rfl) w) ?_
  obtain ⟨h_1, hf⟩ := zx_ck hf
  refine zg_get (pc' := 4) (ci := 3) hx hb htT zi_RevokedList hown hK h_1 rfl rfl 1 (by decide) (htT _ zt_190) (fun _ h9 => h9) rfl zd_Signed_isTimely_1 rfl ?_
  refine zg_1 (pc' := 5) (fun _ _ _ _ _ hl w => lv_lload_n hx hb zd_Signed_isTimely_4 rfl (lv_at hl 1 rfl) w) ?_
  refine zg_1 (pc' := 6) (fun _ _ _ _ _ hl w => W.lcmp hx hb zd_Signed_isTimely_5 w) ?_
  refine zg_2 (pc1 := 22) (pc2 := 9) (Classical.em _) (fun _ _ _ _ _ w1 w2 => lv_if_gt hx hb zd_Signed_isTimely_6 (by decide) w1 w2) (fun hc => ?_) (fun hc => ?_)
  · rw [if_pos hc] at hf
    refine zg_1 (pc' := 23) (fun _ _ _ _ _ hl w => lv_iconst (v := (0 : Int32)) hx hb zd_Signed_isTimely_22 (by decide) w) ?_
    obtain rfl := zx_r1 hf
    exact hret (Or.inl rfl) _ _ zd_Signed_isTimely_23
  · rw [if_neg hc] at hf
    refine zg_1 (pc' := 10) (fun _ _ _ _ _ hl w => lv_lload_n hx hb zd_Signed_isTimely_9 rfl (lv_at hl 1 rfl) w) ?_
    refine zg_1 (pc' := 11) (fun _ _ _ _ _ hl w => lv_aload_n hx hb zd_Signed_isTimely_10 rfl (lv_at hl 0 rfl) w) ?_
    refine zg_get (pc' := 14) (ci := 3) hx hb htT zi_RevokedList hown hK h_1 rfl rfl 2 (by decide) (htT _ zt_198) (fun _ h9 => h9) rfl zd_Signed_isTimely_11 rfl ?_
    refine zg_1 (pc' := 15) (fun _ _ _ _ _ hl w => W.lcmp hx hb zd_Signed_isTimely_14 w) ?_
    refine zg_2 (pc1 := 22) (pc2 := 18) (Classical.em _) (fun _ _ _ _ _ w1 w2 => lv_if_gt hx hb zd_Signed_isTimely_15 (by decide) w1 w2) (fun hc => ?_) (fun hc => ?_)
    · rw [if_pos hc] at hf
      refine zg_1 (pc' := 23) (fun _ _ _ _ _ hl w => lv_iconst (v := (0 : Int32)) hx hb zd_Signed_isTimely_22 (by decide) w) ?_
      obtain rfl := zx_r1 hf
      exact hret (Or.inl rfl) _ _ zd_Signed_isTimely_23
    · rw [if_neg hc] at hf
      refine zg_1 (pc' := 19) (fun _ _ _ _ _ hl w => lv_iconst (v := (1 : Int32)) hx hb zd_Signed_isTimely_18 (by decide) w) ?_
      refine zg_1 (pc' := 23) (fun _ _ _ _ _ hl w => lv_goto hx hb zd_Signed_isTimely_19 (by decide) w) ?_
      obtain rfl := zx_r1 hf
      exact hret (Or.inr rfl) _ _ zd_Signed_isTimely_23
set_option maxHeartbeats 4000000 in
theorem zc_Signed_isSignedBy_R (l : Launch) (h0 : Nat) (D : va_G) (dA : Nat → ClassId) (tb : Nat → Nat) (n : Nat) {s0 : zh_S} {a0 : Nat} {i1 : Int32} {r : Int32} (hf : zf_Signed_isSignedBy_R n s0 a0 i1 = some r) : zc_M l zn_Signed_isSignedBy zs_Signed_isSignedBy 0 0 h0 D dA tb [.ref (h0 + a0), .int i1] s0 (some (.int r)) s0 := by
  rw [zf_Signed_isSignedBy_R] at hf
  refine zc_of (cc := ze_Signed_isSignedBy) (maxL := 2) (ret := (some .boolean)) (lv := [(0, .ref (h0 + a0)), (1, .int i1)]) (by decide) rfl (Nat.le_of_ble_eq_true rfl) rfl ?_
  intro p e s m args below meth c X hnm
  obtain ⟨hx, hb, hml, hown, htT, hrt, hlk, x00, hIn⟩ := id X
  have hK := hIn.2.1
  have hT := hIn.2.2.1
  have hNe := hIn.2.2.2
  have hR : zg_R { frames := 0, cells := zh_N s0 - zh_N s0, slots := zh_M s0 - zh_M s0, locals := 0 } (zh_N s0) (zh_M s0) s0 := ⟨by show zh_N s0 ≤ zh_N s0 + (zh_N s0 - zh_N s0); omega, by show zh_M s0 ≤ zh_M s0 + (zh_M s0 - zh_M s0); omega⟩
  have hF : 0 ≤ ({ frames := 0, cells := zh_N s0 - zh_N s0, slots := zh_M s0 - zh_M s0, locals := 0 } : Room).frames ∧ 0 ≤ ({ frames := 0, cells := zh_N s0 - zh_N s0, slots := zh_M s0 - zh_M s0, locals := 0 } : Room).locals := ⟨Nat.le_refl _, Nat.le_refl _⟩
  have hret := fun (hz : r = 0 ∨ r = 1) (pc : Nat) (lv : List (Nat × Value)) (hd : decode ze_Signed_isSignedBy pc = .ok (.ireturn, 1)) => zg_iret (R := { frames := 0, cells := zh_N s0 - zh_N s0, slots := zh_M s0 - zh_M s0, locals := 0 }) (l := l) (e := e) (below := below) (c0 := zh_N s0) (s0 := zh_M s0) (z := s0) (lv := lv) (v := r) X (zx_nz hz) hd
  refine zg_1 (pc' := 1) (fun _ _ _ _ _ hl w => lv_aload_n hx hb zd_Signed_isSignedBy_0 rfl (lv_at hl 0 rfl) w) ?_
  obtain ⟨h_1, hf⟩ := zx_ck hf
  refine zg_get (pc' := 4) (ci := 3) hx hb htT zi_RevokedList hown hK h_1 rfl rfl 5 (by decide) (htT _ zt_217) (fun _ h9 => h9) rfl zd_Signed_isSignedBy_1 rfl ?_
  refine zg_1 (pc' := 5) (fun _ _ _ _ _ hl w => lv_iload_n hx hb zd_Signed_isSignedBy_4 rfl (lv_at hl 1 rfl) w) ?_
  refine zg_1 (pc' := 6) (fun _ _ _ _ _ hl w => lv_ishr hx hb zd_Signed_isSignedBy_5 w) ?_
  refine zg_1 (pc' := 7) (fun _ _ _ _ _ hl w => lv_iconst (v := (1 : Int32)) hx hb zd_Signed_isSignedBy_6 (by decide) w) ?_
  refine zg_1 (pc' := 8) (fun _ _ _ _ _ hl w => lv_iand hx hb zd_Signed_isSignedBy_7 w) ?_
  refine zg_1 (pc' := 9) (fun _ _ _ _ _ hl w => lv_iconst (v := (1 : Int32)) hx hb zd_Signed_isSignedBy_8 (by decide) w) ?_
  refine zg_2 (pc1 := 16) (pc2 := 12) (Classical.em _).symm (fun _ _ _ _ _ w1 w2 => lv_icmp_ne hx hb zd_Signed_isSignedBy_9 (by decide) w1 w2) (fun hc => ?_) (fun hc => ?_)
  · rw [if_neg hc] at hf
    refine zg_1 (pc' := 17) (fun _ _ _ _ _ hl w => lv_iconst (v := (0 : Int32)) hx hb zd_Signed_isSignedBy_16 (by decide) w) ?_
    obtain rfl := zx_r1 hf
    exact hret (Or.inl rfl) _ _ zd_Signed_isSignedBy_17
  · rw [if_pos hc] at hf
    refine zg_1 (pc' := 13) (fun _ _ _ _ _ hl w => lv_iconst (v := (1 : Int32)) hx hb zd_Signed_isSignedBy_12 (by decide) w) ?_
    refine zg_1 (pc' := 17) (fun _ _ _ _ _ hl w => lv_goto hx hb zd_Signed_isSignedBy_13 (by decide) w) ?_
    obtain rfl := zx_r1 hf
    exact hret (Or.inr rfl) _ _ zd_Signed_isSignedBy_17
set_option maxHeartbeats 4000000 in
theorem zw_Search_takeList_101 {p : Program} {l : Launch} {e : Env} {R : Room} {s : State} {m : MethodId} {args : Array Value} {below : List Frame} {meth : Method} {c : Code} {Q : State → Prop} {h0 : Nat} {D : va_G} {dA : Nat → ClassId} {tb : Nat → Nat} {c0 k0 : Nat} {s0 : zh_S} {r : Option Nat} (X : zg_X p s m args meth c ze_Search_takeList 6 zr_Search (some (.object zr_RevokedList)) h0 D dA tb) (hR : zg_R R c0 k0 s0) (hF : 1 ≤ R.frames ∧ 22 ≤ R.locals) (hret : ∀ (pc : Nat) (lv : List (Nat × Value)), decode ze_Search_takeList pc = .ok (.areturn, 1) → zg_G p l e R s m args below meth c Q h0 D dA 6 c0 k0 s0 s0 pc lv [va_rf (r.map (h0 + ·))]) (n : Nat) (r23 : zh_S → Nat → Nat → Int32 → Option Nat → Int32 → Option (Option Nat)) (hr23 : ∀ (a0 : Nat) (a1 : Nat) (i2 : Int32) (o3 : Option Nat) (i4 : Int32), r23 s0 a0 a1 i2 o3 i4 = some r → zg_G p l e R s m args below meth c Q h0 D dA 6 c0 k0 s0 s0 23 [(0, .ref (h0 + a0)), (1, .ref (h0 + a1)), (2, .int i2), (3, va_rf (o3.map (h0 + ·))), (4, .int i4)] []) : ∀ (a0 : Nat) (a1 : Nat) (i2 : Int32) (o3 : Option Nat) (i4 : Int32), zb_Search_takeList_101 n r23 s0 a0 a1 i2 o3 i4 = some r → zg_G p l e R s m args below meth c Q h0 D dA 6 c0 k0 s0 s0 101 [(0, .ref (h0 + a0)), (1, .ref (h0 + a1)), (2, .int i2), (3, va_rf (o3.map (h0 + ·))), (4, .int i4)] [] := by
  obtain ⟨hx, hb, hml, hown, htT, hrt, hlk, x00, hIn⟩ := id X
  have hK := hIn.2.1
  have hT := hIn.2.2.1
  have hNe := hIn.2.2.2
  intro a0 a1 i2 o3 i4 hf
  rw [zb_Search_takeList_101] at hf
  have ho := zx_o hf
  clear hf
  rcases ho with ⟨eo, hf⟩ | ⟨a_1, eo, hf⟩
  · subst eo
    obtain ⟨i_2, e_i_2, hf⟩ := zx_l hf
    refine zg_s (pc' := 104) (lv' := [(4, .int i_2), (0, .ref (h0 + a0)), (1, .ref (h0 + a1)), (2, .int i2), (3, .null)]) (fun _ _ _ _ _ hl w => lv_iinc (k := 4) (v := i_2) hx hb zd_Search_takeList_101 hl rfl (by rw [e_i_2]; rfl) (by decide) rfl w) ?_
    refine zg_1 (pc' := 23) (fun _ _ _ _ _ hl w => lv_goto hx hb zd_Search_takeList_104 (by decide) w) ?_
    refine zg_v [1, 2, 3, 4, 0] rfl ?_
    exact hr23 a0 a1 i2 none i_2 hf
  · subst eo
    obtain ⟨i_3, e_i_3, hf⟩ := zx_l hf
    refine zg_s (pc' := 104) (lv' := [(4, .int i_3), (0, .ref (h0 + a0)), (1, .ref (h0 + a1)), (2, .int i2), (3, .ref (h0 + a_1))]) (fun _ _ _ _ _ hl w => lv_iinc (k := 4) (v := i_3) hx hb zd_Search_takeList_101 hl rfl (by rw [e_i_3]; rfl) (by decide) rfl w) ?_
    refine zg_1 (pc' := 23) (fun _ _ _ _ _ hl w => lv_goto hx hb zd_Search_takeList_104 (by decide) w) ?_
    refine zg_v [1, 2, 3, 4, 0] rfl ?_
    exact hr23 a0 a1 i2 (some a_1) i_3 hf
set_option maxHeartbeats 4000000 in
theorem zw_Search_takeList_98 {p : Program} {l : Launch} {e : Env} {R : Room} {s : State} {m : MethodId} {args : Array Value} {below : List Frame} {meth : Method} {c : Code} {Q : State → Prop} {h0 : Nat} {D : va_G} {dA : Nat → ClassId} {tb : Nat → Nat} {c0 k0 : Nat} {s0 : zh_S} {r : Option Nat} (X : zg_X p s m args meth c ze_Search_takeList 6 zr_Search (some (.object zr_RevokedList)) h0 D dA tb) (hR : zg_R R c0 k0 s0) (hF : 1 ≤ R.frames ∧ 22 ≤ R.locals) (hret : ∀ (pc : Nat) (lv : List (Nat × Value)), decode ze_Search_takeList pc = .ok (.areturn, 1) → zg_G p l e R s m args below meth c Q h0 D dA 6 c0 k0 s0 s0 pc lv [va_rf (r.map (h0 + ·))]) (n : Nat) (r23 : zh_S → Nat → Nat → Int32 → Option Nat → Int32 → Option (Option Nat)) (hr23 : ∀ (a0 : Nat) (a1 : Nat) (i2 : Int32) (o3 : Option Nat) (i4 : Int32), r23 s0 a0 a1 i2 o3 i4 = some r → zg_G p l e R s m args below meth c Q h0 D dA 6 c0 k0 s0 s0 23 [(0, .ref (h0 + a0)), (1, .ref (h0 + a1)), (2, .int i2), (3, va_rf (o3.map (h0 + ·))), (4, .int i4)] []) : ∀ (a0 : Nat) (a1 : Nat) (i2 : Int32) (i4 : Int32) (a5 : Nat), zb_Search_takeList_98 n r23 s0 a0 a1 i2 i4 a5 = some r → zg_G p l e R s m args below meth c Q h0 D dA 6 c0 k0 s0 s0 98 [(0, .ref (h0 + a0)), (1, .ref (h0 + a1)), (2, .int i2), (4, .int i4), (5, .ref (h0 + a5))] [] := by
  obtain ⟨hx, hb, hml, hown, htT, hrt, hlk, x00, hIn⟩ := id X
  have hK := hIn.2.1
  have hT := hIn.2.2.1
  have hNe := hIn.2.2.2
  intro a0 a1 i2 i4 a5 hf
  rw [zb_Search_takeList_98] at hf
  refine zg_1 (pc' := 100) (fun _ _ _ _ _ hl w => lv_aload hx hb zd_Search_takeList_98 (lv_at hl 4 rfl) w) ?_
  refine zg_s (pc' := 101) (lv' := [(3, .ref (h0 + a5)), (0, .ref (h0 + a0)), (1, .ref (h0 + a1)), (2, .int i2), (4, .int i4), (5, .ref (h0 + a5))]) (fun _ _ _ _ _ hl w => lv_astore_n hx hb zd_Search_takeList_100 rfl hl (by decide) rfl w) ?_
  refine zg_v [1, 2, 3, 0, 4] rfl ?_
  exact zw_Search_takeList_101 X hR hF hret n _ hr23 a0 a1 i2 (some a5) i4 hf
set_option maxHeartbeats 4000000 in
theorem zw_Search_takeList_23 {p : Program} {l : Launch} {e : Env} {R : Room} {s : State} {m : MethodId} {args : Array Value} {below : List Frame} {meth : Method} {c : Code} {Q : State → Prop} {h0 : Nat} {D : va_G} {dA : Nat → ClassId} {tb : Nat → Nat} {c0 k0 : Nat} {s0 : zh_S} {r : Option Nat} (X : zg_X p s m args meth c ze_Search_takeList 6 zr_Search (some (.object zr_RevokedList)) h0 D dA tb) (hR : zg_R R c0 k0 s0) (hF : 1 ≤ R.frames ∧ 22 ≤ R.locals) (hret : ∀ (pc : Nat) (lv : List (Nat × Value)), decode ze_Search_takeList pc = .ok (.areturn, 1) → zg_G p l e R s m args below meth c Q h0 D dA 6 c0 k0 s0 s0 pc lv [va_rf (r.map (h0 + ·))]) (n : Nat) (k : Nat) : ∀ (a0 : Nat) (a1 : Nat) (i2 : Int32) (o3 : Option Nat) (i4 : Int32), zl_Search_takeList_23 n k s0 a0 a1 i2 o3 i4 = some r → zg_G p l e R s m args below meth c Q h0 D dA 6 c0 k0 s0 s0 23 [(0, .ref (h0 + a0)), (1, .ref (h0 + a1)), (2, .int i2), (3, va_rf (o3.map (h0 + ·))), (4, .int i4)] [] := by
  obtain ⟨hx, hb, hml, hown, htT, hrt, hlk, x00, hIn⟩ := id X
  have hK := hIn.2.1
  have hT := hIn.2.2.1
  have hNe := hIn.2.2.2
  induction k with
  | zero => intro a0 a1 i2 o3 i4 hf; cases hf
  | succ k ih =>
    intro a0 a1 i2 o3 i4 hf
    rw [zl_Search_takeList_23] at hf
    have ho := zx_o hf
    clear hf
    rcases ho with ⟨eo, hf⟩ | ⟨a_1, eo, hf⟩
    · subst eo
      refine zg_1 (pc' := 25) (fun _ _ _ _ _ hl w => lv_iload hx hb zd_Search_takeList_23 (lv_at hl 4 rfl) w) ?_
      refine zg_1 (pc' := 26) (fun _ _ _ _ _ hl w => lv_aload_n hx hb zd_Search_takeList_25 rfl (lv_at hl 0 rfl) w) ?_
      obtain ⟨h_2, hf⟩ := zx_ck hf
      obtain ⟨a_3, h_4, hf⟩ := zx_p hf
      refine zg_get (pc' := 29) (ci := 4) hx hb htT zi_Search hown hK h_2 rfl rfl 0 (by decide) (htT _ zt_655) (fun _ h9 => h9) (zx_hv h_4) zd_Search_takeList_26 rfl ?_
      obtain ⟨h_5, hf⟩ := zx_ck hf
      refine zg_get (pc' := 32) (ci := 5) hx hb htT zi_Shelf hown hK h_5 rfl rfl 3 (by decide) (htT _ zt_291) (fun _ h9 => h9) rfl zd_Search_takeList_29 rfl ?_
      refine zg_2 (pc1 := 107) (pc2 := 35) (Classical.em _) (fun _ _ _ _ _ w1 w2 => lv_icmp_ge hx hb zd_Search_takeList_32 (by decide) w1 w2) (fun hc => ?_) (fun hc => ?_)
      · rw [if_pos hc] at hf
        refine zg_1 (pc' := 108) (fun _ _ _ _ _ hl w => lv_aload_nN hx hb zd_Search_takeList_107 rfl (lv_at hl 3 rfl) w) ?_
        obtain rfl := zx_r1 hf
        exact hret _ _ zd_Search_takeList_108
      · rw [if_neg hc] at hf
        refine zg_1 (pc' := 36) (fun _ _ _ _ _ hl w => lv_aload_n hx hb zd_Search_takeList_35 rfl (lv_at hl 0 rfl) w) ?_
        obtain ⟨a_6, h_7, hf⟩ := zx_p hf
        refine zg_get (pc' := 39) (ci := 4) hx hb htT zi_Search hown hK h_2 rfl rfl 0 (by decide) (htT _ zt_655) (fun _ h9 => h9) (zx_hv h_7) zd_Search_takeList_36 rfl ?_
        obtain ⟨h_8, hf⟩ := zx_ck hf
        obtain ⟨a_9, h_10, hf⟩ := zx_p hf
        refine zg_get (pc' := 42) (ci := 5) hx hb htT zi_Shelf hown hK h_8 rfl rfl 1 (by decide) (htT _ zt_285) (fun _ h9 => h9) (zx_hv h_10) zd_Search_takeList_39 rfl ?_
        refine zg_1 (pc' := 44) (fun _ _ _ _ _ hl w => lv_iload hx hb zd_Search_takeList_42 (lv_at hl 4 rfl) w) ?_
        obtain ⟨h_11, hf⟩ := zx_ck hf
        obtain ⟨a_12, h_13, hf⟩ := zx_p hf
        refine zg_aald (pc' := 45) (t := 1) (t0 := 3) hx hb hK rfl h_11 h_13 zd_Search_takeList_44 rfl ?_
        refine zg_s (pc' := 47) (lv' := [(5, .ref (h0 + a_12)), (0, .ref (h0 + a0)), (1, .ref (h0 + a1)), (2, .int i2), (3, .null), (4, .int i4)]) (fun _ _ _ _ _ hl w => lv_astore hx hb zd_Search_takeList_45 hl (by decide) rfl w) ?_
        refine zg_1 (pc' := 49) (fun _ _ _ _ _ hl w => lv_aload hx hb zd_Search_takeList_47 (lv_at hl 0 rfl) w) ?_
        obtain ⟨h_14, hf⟩ := zx_ck hf
        refine zg_get (pc' := 52) (ci := 3) hx hb htT zi_RevokedList hown hK h_14 rfl rfl 0 (by decide) (htT _ zt_189) (fun x9 h9 => u_same (htT _ zt_185) x9 h9) rfl zd_Search_takeList_49 rfl ?_
        refine zg_1 (pc' := 53) (fun _ _ _ _ _ hl w => lv_aload_n hx hb zd_Search_takeList_52 rfl (lv_at hl 2 rfl) w) ?_
        obtain ⟨h_15, hf⟩ := zx_ck hf
        refine zg_get (pc' := 56) (ci := 0) hx hb htT zi_Certificate hown hK h_15 rfl rfl 0 (by decide) (htT _ zt_188) (fun x9 h9 => u_same (htT _ zt_182) x9 h9) rfl zd_Search_takeList_53 rfl ?_
        refine zg_1 (pc' := 57) (fun _ _ _ _ _ hl w => W.lcmp hx hb zd_Search_takeList_56 w) ?_
        refine zg_2 (pc1 := 101) (pc2 := 60) (Classical.em _).symm (fun _ _ _ _ _ w1 w2 => lv_if_ne hx hb zd_Search_takeList_57 (by decide) w1 w2) (fun hc => ?_) (fun hc => ?_)
        · rw [if_neg hc] at hf
          refine zg_v [1, 2, 3, 4, 5] rfl ?_
          exact zw_Search_takeList_101 X hR hF hret n _ ih a0 a1 i2 none i4 hf
        · rw [if_pos hc] at hf
          refine zg_1 (pc' := 62) (fun _ _ _ _ _ hl w => lv_aload hx hb zd_Search_takeList_60 (lv_at hl 0 rfl) w) ?_
          refine zg_1 (pc' := 63) (fun _ _ _ _ _ hl w => lv_aload_n hx hb zd_Search_takeList_62 rfl (lv_at hl 1 rfl) w) ?_
          refine zg_get (pc' := 66) (ci := 4) hx hb htT zi_Search hown hK h_2 rfl rfl 1 (by decide) (htT _ zt_656) (fun _ h9 => h9) rfl zd_Search_takeList_63 rfl ?_
          obtain ⟨i_16, hq, hf⟩ := zx_p hf
          refine zg_call (pc' := 69) (y := s0) (rv := (some (.int i_16))) (rest := []) X hR ⟨Nat.le_refl _, Nat.le_refl _⟩ (fun H locs ls k j hsz hI hU hk => va_runU (As := [.long (zh_J s0 a0 1)]) (rest := []) ⟨hx, hb, hml, hown, htT⟩ (zc_Signed_isTimely_R l h0 D dA tb n hq) (va_cwU 1 htT (zw_gU zt_721 zt_722 zt_723 zt_711 zt_68 zt_712) rfl rfl rfl rfl (by decide +kernel) ⟨Nat.le_trans (Nat.le_of_ble_eq_true rfl) hF.1, Nat.le_trans (Nat.le_of_ble_eq_true rfl) hF.2⟩) ⟨(zg_pre hU).1, zg_recv hK hI h_14 rfl, (zg_pre hU).2⟩ rfl rfl hsz rfl (lv_room (Nat.le_of_ble_eq_true rfl)) zd_Search_takeList_66 hk) rfl ?_
          refine zg_2 (pc1 := 101) (pc2 := 72) (Classical.em _) (fun _ _ _ _ _ w1 w2 => lv_if_eq hx hb zd_Search_takeList_69 (by decide) w1 w2) (fun hc => ?_) (fun hc => ?_)
          · rw [if_pos hc] at hf
            refine zg_v [1, 2, 3, 4, 5] rfl ?_
            exact zw_Search_takeList_101 X hR hF hret n _ ih a0 a1 i2 none i4 hf
          · rw [if_neg hc] at hf
            refine zg_1 (pc' := 74) (fun _ _ _ _ _ hl w => lv_aload hx hb zd_Search_takeList_72 (lv_at hl 0 rfl) w) ?_
            refine zg_1 (pc' := 75) (fun _ _ _ _ _ hl w => lv_iload_n hx hb zd_Search_takeList_74 rfl (lv_at hl 3 rfl) w) ?_
            obtain ⟨i_17, hq, hf⟩ := zx_p hf
            refine zg_call (pc' := 78) (y := s0) (rv := (some (.int i_17))) (rest := []) X hR ⟨Nat.le_refl _, Nat.le_refl _⟩ (fun H locs ls k j hsz hI hU hk => va_runU (As := [.int i2]) (rest := []) ⟨hx, hb, hml, hown, htT⟩ (zc_Signed_isSignedBy_R l h0 D dA tb n hq) (va_cwU 1 htT (zw_gU zt_724 zt_725 zt_726 zt_705 zt_68 zt_706) rfl rfl rfl rfl (by decide +kernel) ⟨Nat.le_trans (Nat.le_of_ble_eq_true rfl) hF.1, Nat.le_trans (Nat.le_of_ble_eq_true rfl) hF.2⟩) ⟨(zg_pre hU).1, zg_recv hK hI h_14 rfl, (zg_pre hU).2⟩ rfl rfl hsz rfl (lv_room (Nat.le_of_ble_eq_true rfl)) zd_Search_takeList_75 hk) rfl ?_
            refine zg_2 (pc1 := 101) (pc2 := 81) (Classical.em _) (fun _ _ _ _ _ w1 w2 => lv_if_eq hx hb zd_Search_takeList_78 (by decide) w1 w2) (fun hc => ?_) (fun hc => ?_)
            · rw [if_pos hc] at hf
              refine zg_v [1, 2, 3, 4, 5] rfl ?_
              exact zw_Search_takeList_101 X hR hF hret n _ ih a0 a1 i2 none i4 hf
            · rw [if_neg hc] at hf
              refine zg_1 (pc' := 82) (fun _ _ _ _ _ hl w => lv_aload_nN hx hb zd_Search_takeList_81 rfl (lv_at hl 4 rfl) w) ?_
              refine zg_1 (pc' := 98) (fun _ _ _ _ _ hl w => lv_ifnullN hx hb zd_Search_takeList_82 (by decide) w) ?_
              refine zg_v [1, 2, 3, 5, 0] rfl ?_
              exact zw_Search_takeList_98 X hR hF hret n _ ih a0 a1 i2 i4 a_12 hf
    · subst eo
      refine zg_1 (pc' := 25) (fun _ _ _ _ _ hl w => lv_iload hx hb zd_Search_takeList_23 (lv_at hl 4 rfl) w) ?_
      refine zg_1 (pc' := 26) (fun _ _ _ _ _ hl w => lv_aload_n hx hb zd_Search_takeList_25 rfl (lv_at hl 0 rfl) w) ?_
      obtain ⟨h_18, hf⟩ := zx_ck hf
      obtain ⟨a_19, h_20, hf⟩ := zx_p hf
      refine zg_get (pc' := 29) (ci := 4) hx hb htT zi_Search hown hK h_18 rfl rfl 0 (by decide) (htT _ zt_655) (fun _ h9 => h9) (zx_hv h_20) zd_Search_takeList_26 rfl ?_
      obtain ⟨h_21, hf⟩ := zx_ck hf
      refine zg_get (pc' := 32) (ci := 5) hx hb htT zi_Shelf hown hK h_21 rfl rfl 3 (by decide) (htT _ zt_291) (fun _ h9 => h9) rfl zd_Search_takeList_29 rfl ?_
      refine zg_2 (pc1 := 107) (pc2 := 35) (Classical.em _) (fun _ _ _ _ _ w1 w2 => lv_icmp_ge hx hb zd_Search_takeList_32 (by decide) w1 w2) (fun hc => ?_) (fun hc => ?_)
      · rw [if_pos hc] at hf
        refine zg_1 (pc' := 108) (fun _ _ _ _ _ hl w => lv_aload_n hx hb zd_Search_takeList_107 rfl (lv_at hl 3 rfl) w) ?_
        obtain rfl := zx_r1 hf
        exact hret _ _ zd_Search_takeList_108
      · rw [if_neg hc] at hf
        refine zg_1 (pc' := 36) (fun _ _ _ _ _ hl w => lv_aload_n hx hb zd_Search_takeList_35 rfl (lv_at hl 0 rfl) w) ?_
        obtain ⟨a_22, h_23, hf⟩ := zx_p hf
        refine zg_get (pc' := 39) (ci := 4) hx hb htT zi_Search hown hK h_18 rfl rfl 0 (by decide) (htT _ zt_655) (fun _ h9 => h9) (zx_hv h_23) zd_Search_takeList_36 rfl ?_
        obtain ⟨h_24, hf⟩ := zx_ck hf
        obtain ⟨a_25, h_26, hf⟩ := zx_p hf
        refine zg_get (pc' := 42) (ci := 5) hx hb htT zi_Shelf hown hK h_24 rfl rfl 1 (by decide) (htT _ zt_285) (fun _ h9 => h9) (zx_hv h_26) zd_Search_takeList_39 rfl ?_
        refine zg_1 (pc' := 44) (fun _ _ _ _ _ hl w => lv_iload hx hb zd_Search_takeList_42 (lv_at hl 4 rfl) w) ?_
        obtain ⟨h_27, hf⟩ := zx_ck hf
        obtain ⟨a_28, h_29, hf⟩ := zx_p hf
        refine zg_aald (pc' := 45) (t := 1) (t0 := 3) hx hb hK rfl h_27 h_29 zd_Search_takeList_44 rfl ?_
        refine zg_s (pc' := 47) (lv' := [(5, .ref (h0 + a_28)), (0, .ref (h0 + a0)), (1, .ref (h0 + a1)), (2, .int i2), (3, .ref (h0 + a_1)), (4, .int i4)]) (fun _ _ _ _ _ hl w => lv_astore hx hb zd_Search_takeList_45 hl (by decide) rfl w) ?_
        refine zg_1 (pc' := 49) (fun _ _ _ _ _ hl w => lv_aload hx hb zd_Search_takeList_47 (lv_at hl 0 rfl) w) ?_
        obtain ⟨h_30, hf⟩ := zx_ck hf
        refine zg_get (pc' := 52) (ci := 3) hx hb htT zi_RevokedList hown hK h_30 rfl rfl 0 (by decide) (htT _ zt_189) (fun x9 h9 => u_same (htT _ zt_185) x9 h9) rfl zd_Search_takeList_49 rfl ?_
        refine zg_1 (pc' := 53) (fun _ _ _ _ _ hl w => lv_aload_n hx hb zd_Search_takeList_52 rfl (lv_at hl 2 rfl) w) ?_
        obtain ⟨h_31, hf⟩ := zx_ck hf
        refine zg_get (pc' := 56) (ci := 0) hx hb htT zi_Certificate hown hK h_31 rfl rfl 0 (by decide) (htT _ zt_188) (fun x9 h9 => u_same (htT _ zt_182) x9 h9) rfl zd_Search_takeList_53 rfl ?_
        refine zg_1 (pc' := 57) (fun _ _ _ _ _ hl w => W.lcmp hx hb zd_Search_takeList_56 w) ?_
        refine zg_2 (pc1 := 101) (pc2 := 60) (Classical.em _).symm (fun _ _ _ _ _ w1 w2 => lv_if_ne hx hb zd_Search_takeList_57 (by decide) w1 w2) (fun hc => ?_) (fun hc => ?_)
        · rw [if_neg hc] at hf
          refine zg_v [1, 2, 3, 4, 5] rfl ?_
          exact zw_Search_takeList_101 X hR hF hret n _ ih a0 a1 i2 (some a_1) i4 hf
        · rw [if_pos hc] at hf
          refine zg_1 (pc' := 62) (fun _ _ _ _ _ hl w => lv_aload hx hb zd_Search_takeList_60 (lv_at hl 0 rfl) w) ?_
          refine zg_1 (pc' := 63) (fun _ _ _ _ _ hl w => lv_aload_n hx hb zd_Search_takeList_62 rfl (lv_at hl 1 rfl) w) ?_
          refine zg_get (pc' := 66) (ci := 4) hx hb htT zi_Search hown hK h_18 rfl rfl 1 (by decide) (htT _ zt_656) (fun _ h9 => h9) rfl zd_Search_takeList_63 rfl ?_
          obtain ⟨i_32, hq, hf⟩ := zx_p hf
          refine zg_call (pc' := 69) (y := s0) (rv := (some (.int i_32))) (rest := []) X hR ⟨Nat.le_refl _, Nat.le_refl _⟩ (fun H locs ls k j hsz hI hU hk => va_runU (As := [.long (zh_J s0 a0 1)]) (rest := []) ⟨hx, hb, hml, hown, htT⟩ (zc_Signed_isTimely_R l h0 D dA tb n hq) (va_cwU 1 htT (zw_gU zt_721 zt_722 zt_723 zt_711 zt_68 zt_712) rfl rfl rfl rfl (by decide +kernel) ⟨Nat.le_trans (Nat.le_of_ble_eq_true rfl) hF.1, Nat.le_trans (Nat.le_of_ble_eq_true rfl) hF.2⟩) ⟨(zg_pre hU).1, zg_recv hK hI h_30 rfl, (zg_pre hU).2⟩ rfl rfl hsz rfl (lv_room (Nat.le_of_ble_eq_true rfl)) zd_Search_takeList_66 hk) rfl ?_
          refine zg_2 (pc1 := 101) (pc2 := 72) (Classical.em _) (fun _ _ _ _ _ w1 w2 => lv_if_eq hx hb zd_Search_takeList_69 (by decide) w1 w2) (fun hc => ?_) (fun hc => ?_)
          · rw [if_pos hc] at hf
            refine zg_v [1, 2, 3, 4, 5] rfl ?_
            exact zw_Search_takeList_101 X hR hF hret n _ ih a0 a1 i2 (some a_1) i4 hf
          · rw [if_neg hc] at hf
            refine zg_1 (pc' := 74) (fun _ _ _ _ _ hl w => lv_aload hx hb zd_Search_takeList_72 (lv_at hl 0 rfl) w) ?_
            refine zg_1 (pc' := 75) (fun _ _ _ _ _ hl w => lv_iload_n hx hb zd_Search_takeList_74 rfl (lv_at hl 3 rfl) w) ?_
            obtain ⟨i_33, hq, hf⟩ := zx_p hf
            refine zg_call (pc' := 78) (y := s0) (rv := (some (.int i_33))) (rest := []) X hR ⟨Nat.le_refl _, Nat.le_refl _⟩ (fun H locs ls k j hsz hI hU hk => va_runU (As := [.int i2]) (rest := []) ⟨hx, hb, hml, hown, htT⟩ (zc_Signed_isSignedBy_R l h0 D dA tb n hq) (va_cwU 1 htT (zw_gU zt_724 zt_725 zt_726 zt_705 zt_68 zt_706) rfl rfl rfl rfl (by decide +kernel) ⟨Nat.le_trans (Nat.le_of_ble_eq_true rfl) hF.1, Nat.le_trans (Nat.le_of_ble_eq_true rfl) hF.2⟩) ⟨(zg_pre hU).1, zg_recv hK hI h_30 rfl, (zg_pre hU).2⟩ rfl rfl hsz rfl (lv_room (Nat.le_of_ble_eq_true rfl)) zd_Search_takeList_75 hk) rfl ?_
            refine zg_2 (pc1 := 101) (pc2 := 81) (Classical.em _) (fun _ _ _ _ _ w1 w2 => lv_if_eq hx hb zd_Search_takeList_78 (by decide) w1 w2) (fun hc => ?_) (fun hc => ?_)
            · rw [if_pos hc] at hf
              refine zg_v [1, 2, 3, 4, 5] rfl ?_
              exact zw_Search_takeList_101 X hR hF hret n _ ih a0 a1 i2 (some a_1) i4 hf
            · rw [if_neg hc] at hf
              refine zg_1 (pc' := 82) (fun _ _ _ _ _ hl w => lv_aload_n hx hb zd_Search_takeList_81 rfl (lv_at hl 4 rfl) w) ?_
              refine zg_1 (pc' := 85) (fun _ _ _ _ _ hl w => lv_ifnull hx hb zd_Search_takeList_82 w) ?_
              refine zg_1 (pc' := 87) (fun _ _ _ _ _ hl w => lv_aload hx hb zd_Search_takeList_85 (lv_at hl 0 rfl) w) ?_
              refine zg_get (pc' := 90) (ci := 3) hx hb htT zi_RevokedList hown hK h_30 rfl rfl 1 (by decide) (htT _ zt_197) (fun x9 h9 => u_same (htT _ zt_194) x9 h9) rfl zd_Search_takeList_87 rfl ?_
              refine zg_1 (pc' := 91) (fun _ _ _ _ _ hl w => lv_aload_n hx hb zd_Search_takeList_90 rfl (lv_at hl 4 rfl) w) ?_
              obtain ⟨h_34, hf⟩ := zx_ck hf
              refine zg_get (pc' := 94) (ci := 3) hx hb htT zi_RevokedList hown hK h_34 rfl rfl 1 (by decide) (htT _ zt_197) (fun x9 h9 => u_same (htT _ zt_194) x9 h9) rfl zd_Search_takeList_91 rfl ?_
              refine zg_1 (pc' := 95) (fun _ _ _ _ _ hl w => W.lcmp hx hb zd_Search_takeList_94 w) ?_
              refine zg_2 (pc1 := 101) (pc2 := 98) (Classical.em _) (fun _ _ _ _ _ w1 w2 => lv_if_le hx hb zd_Search_takeList_95 (by decide) w1 w2) (fun hc => ?_) (fun hc => ?_)
              · rw [if_pos hc] at hf
                refine zg_v [1, 2, 3, 4, 5] rfl ?_
                exact zw_Search_takeList_101 X hR hF hret n _ ih a0 a1 i2 (some a_1) i4 hf
              · rw [if_neg hc] at hf
                refine zg_v [1, 2, 3, 5, 0] rfl ?_
                exact zw_Search_takeList_98 X hR hF hret n _ ih a0 a1 i2 i4 a_28 hf
set_option maxHeartbeats 4000000 in
theorem zc_Search_takeList (l : Launch) (h0 : Nat) (D : va_G) (dA : Nat → ClassId) (tb : Nat → Nat) (n : Nat) {s0 : zh_S} {a0 : Nat} {a1 : Nat} {i2 : Int32} {r : Option Nat} (hf : zf_Search_takeList n s0 a0 a1 i2 = some r) : zc_M l zn_Search_takeList zs_Search_takeList 1 22 h0 D dA tb [.ref (h0 + a0), .ref (h0 + a1), .int i2] s0 (some (va_rf (r.map (h0 + ·)))) s0 := by
  rw [zf_Search_takeList] at hf
  refine zc_of (cc := ze_Search_takeList) (maxL := 6) (ret := (some (.object zr_RevokedList))) (lv := [(0, .ref (h0 + a0)), (1, .ref (h0 + a1)), (2, .int i2)]) (by decide) rfl (Nat.le_of_ble_eq_true rfl) rfl ?_
  intro p e s m args below meth c X hnm
  obtain ⟨hx, hb, hml, hown, htT, hrt, hlk, x00, hIn⟩ := id X
  have hK := hIn.2.1
  have hT := hIn.2.2.1
  have hNe := hIn.2.2.2
  have hR : zg_R { frames := 1, cells := zh_N s0 - zh_N s0, slots := zh_M s0 - zh_M s0, locals := 22 } (zh_N s0) (zh_M s0) s0 := ⟨by show zh_N s0 ≤ zh_N s0 + (zh_N s0 - zh_N s0); omega, by show zh_M s0 ≤ zh_M s0 + (zh_M s0 - zh_M s0); omega⟩
  have hF : 1 ≤ ({ frames := 1, cells := zh_N s0 - zh_N s0, slots := zh_M s0 - zh_M s0, locals := 22 } : Room).frames ∧ 22 ≤ ({ frames := 1, cells := zh_N s0 - zh_N s0, slots := zh_M s0 - zh_M s0, locals := 22 } : Room).locals := ⟨Nat.le_refl _, Nat.le_refl _⟩
  have hret := fun (pc : Nat) (lv : List (Nat × Value)) (hd : decode ze_Search_takeList pc = .ok (.areturn, 1)) => zg_aret (R := { frames := 1, cells := zh_N s0 - zh_N s0, slots := zh_M s0 - zh_M s0, locals := 22 }) (l := l) (e := e) (below := below) (c0 := zh_N s0) (s0 := zh_M s0) (z := s0) (lv := lv) (v := va_rf (r.map (h0 + ·))) X (va_rf_or _) hd
  refine zg_1 (pc' := 1) (fun _ _ _ _ _ hl w => lv_aload_n hx hb zd_Search_takeList_0 rfl (lv_at hl 0 rfl) w) ?_
  obtain ⟨h_1, hf⟩ := zx_ck hf
  obtain ⟨a_2, h_3, hf⟩ := zx_p hf
  refine zg_get (pc' := 4) (ci := 4) hx hb htT zi_Search hown hK h_1 rfl rfl 0 (by decide) (htT _ zt_655) (fun _ h9 => h9) (zx_hv h_3) zd_Search_takeList_1 rfl ?_
  obtain ⟨h_4, hf⟩ := zx_ck hf
  obtain ⟨a_5, h_6, hf⟩ := zx_p hf
  refine zg_get (pc' := 7) (ci := 5) hx hb htT zi_Shelf hown hK h_4 rfl rfl 0 (by decide) (htT _ zt_282) (fun _ h9 => h9) (zx_hv h_6) zd_Search_takeList_4 rfl ?_
  refine zg_1 (pc' := 8) (fun _ _ _ _ _ hl w => lv_iload_n hx hb zd_Search_takeList_7 rfl (lv_at hl 2 rfl) w) ?_
  obtain ⟨h_7, hf⟩ := zx_ck hf
  obtain ⟨a_8, h_9, hf⟩ := zx_p hf
  refine zg_aald (pc' := 9) (t := 0) (t0 := 2) hx hb hK rfl h_7 h_9 zd_Search_takeList_8 rfl ?_
  refine zg_1 (pc' := 10) (fun _ _ _ _ _ hl w => lv_iconst (v := (2 : Int32)) hx hb zd_Search_takeList_9 (by decide) w) ?_
  obtain ⟨h_10, hf⟩ := zx_ck hf
  obtain ⟨i_11, hq, hf⟩ := zx_p hf
  refine zg_call (pc' := 13) (y := s0) (rv := (some (.int i_11))) (rest := []) X hR ⟨Nat.le_refl _, Nat.le_refl _⟩ (fun H locs ls k j hsz hI hU hk => va_runV (As := [.int (2 : Int32)]) (rest := []) ⟨hx, hb, hml, hown, htT⟩ (zc_Certificate_isFitFor l h0 D dA tb n hq) (cwV 1 htT (zw_gV zt_717 zt_718 zt_719 zt_69 zt_720) rfl rfl rfl (by decide +kernel) ⟨Nat.le_trans (Nat.le_of_ble_eq_true rfl) hF.1, Nat.le_trans (Nat.le_of_ble_eq_true rfl) hF.2⟩) ⟨(zg_pre hU).1, zg_recv hK hI h_10 rfl, (zg_pre hU).2⟩ rfl rfl hsz rfl (lv_room (Nat.le_of_ble_eq_true rfl)) zd_Search_takeList_10 hk) rfl ?_
  refine zg_2 (pc1 := 18) (pc2 := 16) (Classical.em _).symm (fun _ _ _ _ _ w1 w2 => lv_if_ne hx hb zd_Search_takeList_13 (by decide) w1 w2) (fun hc => ?_) (fun hc => ?_)
  · rw [if_neg hc] at hf
    refine zg_1 (pc' := 19) (fun _ _ _ _ _ hl w => lv_null hx hb zd_Search_takeList_18 w) ?_
    refine zg_s (pc' := 20) (lv' := [(3, .null), (0, .ref (h0 + a0)), (1, .ref (h0 + a1)), (2, .int i2)]) (fun _ _ _ _ _ hl w => lv_astore_nN hx hb zd_Search_takeList_19 rfl hl (by decide) rfl w) ?_
    refine zg_1 (pc' := 21) (fun _ _ _ _ _ hl w => lv_iconst (v := (0 : Int32)) hx hb zd_Search_takeList_20 (by decide) w) ?_
    refine zg_s (pc' := 23) (lv' := [(4, .int (0 : Int32)), (3, .null), (0, .ref (h0 + a0)), (1, .ref (h0 + a1)), (2, .int i2)]) (fun _ _ _ _ _ hl w => lv_istore hx hb zd_Search_takeList_21 hl (by decide) rfl w) ?_
    refine zg_v [2, 3, 4, 1, 0] rfl ?_
    exact zw_Search_takeList_23 X hR hF hret n n a0 a1 i2 none (0 : Int32) hf
  · rw [if_pos hc] at hf
    refine zg_1 (pc' := 17) (fun _ _ _ _ _ hl w => lv_null hx hb zd_Search_takeList_16 w) ?_
    obtain rfl := zx_r1 hf
    exact hret _ _ zd_Search_takeList_17
set_option maxHeartbeats 4000000 in
theorem zw_Names_isWithin_20 {p : Program} {l : Launch} {e : Env} {R : Room} {s : State} {m : MethodId} {args : Array Value} {below : List Frame} {meth : Method} {c : Code} {Q : State → Prop} {h0 : Nat} {D : va_G} {dA : Nat → ClassId} {tb : Nat → Nat} {c0 k0 : Nat} {s0 : zh_S} {r : Int32} (X : zg_X p s m args meth c ze_Names_isWithin 8 zr_Names (some .boolean) h0 D dA tb) (hR : zg_R R c0 k0 s0) (hF : 0 ≤ R.frames ∧ 0 ≤ R.locals) (hret : (r = 0 ∨ r = 1) → ∀ (pc : Nat) (lv : List (Nat × Value)), decode ze_Names_isWithin pc = .ok (.ireturn, 1) → zg_G p l e R s m args below meth c Q h0 D dA 8 c0 k0 s0 s0 pc lv [.int r]) (n : Nat) (k : Nat) : ∀ (j4 : Int64) (j6 : Int64), zl_Names_isWithin_20 n k j4 j6 = some r → zg_G p l e R s m args below meth c Q h0 D dA 8 c0 k0 s0 s0 20 [(4, .long j4), (6, .long j6)] [] := by
  obtain ⟨hx, hb, hml, hown, htT, hrt, hlk, x00, hIn⟩ := id X
  have hK := hIn.2.1
  have hT := hIn.2.2.1
  have hNe := hIn.2.2.2
  induction k with
  | zero => intro j4 j6 hf; cases hf
  | succ k ih =>
    intro j4 j6 hf
    rw [zl_Names_isWithin_20] at hf
    refine zg_1 (pc' := 22) (fun _ _ _ _ _ hl w => lv_lload hx hb zd_Names_isWithin_20 (lv_at hl 1 rfl) w) ?_
    refine zg_1 (pc' := 23) (fun _ _ _ _ _ hl w => lv_lconst (v := (0 : Int64)) hx hb zd_Names_isWithin_22 (by decide) w) ?_
    refine zg_1 (pc' := 24) (fun _ _ _ _ _ hl w => W.lcmp hx hb zd_Names_isWithin_23 w) ?_
    refine zg_2 (pc1 := 46) (pc2 := 27) (Classical.em _) (fun _ _ _ _ _ w1 w2 => lv_if_eq hx hb zd_Names_isWithin_24 (by decide) w1 w2) (fun hc => ?_) (fun hc => ?_)
    · rw [if_pos hc] at hf
      refine zg_1 (pc' := 47) (fun _ _ _ _ _ hl w => lv_iconst (v := (0 : Int32)) hx hb zd_Names_isWithin_46 (by decide) w) ?_
      obtain rfl := zx_r1 hf
      exact hret (Or.inl rfl) _ _ zd_Names_isWithin_47
    · rw [if_neg hc] at hf
      refine zg_1 (pc' := 29) (fun _ _ _ _ _ hl w => lv_lload hx hb zd_Names_isWithin_27 (lv_at hl 1 rfl) w) ?_
      refine zg_1 (pc' := 31) (fun _ _ _ _ _ hl w => lv_lload hx hb zd_Names_isWithin_29 (lv_at hl 0 rfl) w) ?_
      refine zg_1 (pc' := 32) (fun _ _ _ _ _ hl w => W.lcmp hx hb zd_Names_isWithin_31 w) ?_
      refine zg_2 (pc1 := 37) (pc2 := 35) (Classical.em _).symm (fun _ _ _ _ _ w1 w2 => lv_if_ne hx hb zd_Names_isWithin_32 (by decide) w1 w2) (fun hc => ?_) (fun hc => ?_)
      · rw [if_neg hc] at hf
        refine zg_1 (pc' := 39) (fun _ _ _ _ _ hl w => lv_lload hx hb zd_Names_isWithin_37 (lv_at hl 1 rfl) w) ?_
        refine zg_1 (pc' := 40) (fun _ _ _ _ _ hl w => lv_iconst (v := (5 : Int32)) hx hb zd_Names_isWithin_39 (by decide) w) ?_
        refine zg_1 (pc' := 41) (fun _ _ _ _ _ hl w => lv_lushr (v := (zu_l j6 (5 : Int32))) hx hb zd_Names_isWithin_40 rfl w) ?_
        obtain ⟨j_1, e_j_1, hf⟩ := zx_l hf
        refine zg_tl e_j_1 ?_
        refine zg_s (pc' := 43) (lv' := [(6, .long j_1), (4, .long j4)]) (fun _ _ _ _ _ hl w => lv_lstore hx hb zd_Names_isWithin_41 hl (by decide) rfl w) ?_
        refine zg_1 (pc' := 20) (fun _ _ _ _ _ hl w => lv_goto hx hb zd_Names_isWithin_43 (by decide) w) ?_
        refine zg_v [1, 0] rfl ?_
        exact ih j4 j_1 hf
      · rw [if_pos hc] at hf
        refine zg_1 (pc' := 36) (fun _ _ _ _ _ hl w => lv_iconst (v := (1 : Int32)) hx hb zd_Names_isWithin_35 (by decide) w) ?_
        obtain rfl := zx_r1 hf
        exact hret (Or.inr rfl) _ _ zd_Names_isWithin_36
set_option maxHeartbeats 4000000 in
theorem zc_Names_isWithin (l : Launch) (h0 : Nat) (D : va_G) (dA : Nat → ClassId) (tb : Nat → Nat) (n : Nat) {s0 : zh_S} {j0 : Int64} {j2 : Int64} {r : Int32} (hf : zf_Names_isWithin n j0 j2 = some r) : zc_M l zn_Names_isWithin zs_Names_isWithin 0 0 h0 D dA tb [.long j0, .long j2] s0 (some (.int r)) s0 := by
  rw [zf_Names_isWithin] at hf
  refine zc_of (cc := ze_Names_isWithin) (maxL := 8) (ret := (some .boolean)) (lv := [(0, .long j0), (2, .long j2)]) (by decide) rfl (Nat.le_of_ble_eq_true rfl) rfl ?_
  intro p e s m args below meth c X hnm
  obtain ⟨hx, hb, hml, hown, htT, hrt, hlk, x00, hIn⟩ := id X
  have hK := hIn.2.1
  have hT := hIn.2.2.1
  have hNe := hIn.2.2.2
  have hR : zg_R { frames := 0, cells := zh_N s0 - zh_N s0, slots := zh_M s0 - zh_M s0, locals := 0 } (zh_N s0) (zh_M s0) s0 := ⟨by show zh_N s0 ≤ zh_N s0 + (zh_N s0 - zh_N s0); omega, by show zh_M s0 ≤ zh_M s0 + (zh_M s0 - zh_M s0); omega⟩
  have hF : 0 ≤ ({ frames := 0, cells := zh_N s0 - zh_N s0, slots := zh_M s0 - zh_M s0, locals := 0 } : Room).frames ∧ 0 ≤ ({ frames := 0, cells := zh_N s0 - zh_N s0, slots := zh_M s0 - zh_M s0, locals := 0 } : Room).locals := ⟨Nat.le_refl _, Nat.le_refl _⟩
  have hret := fun (hz : r = 0 ∨ r = 1) (pc : Nat) (lv : List (Nat × Value)) (hd : decode ze_Names_isWithin pc = .ok (.ireturn, 1)) => zg_iret (R := { frames := 0, cells := zh_N s0 - zh_N s0, slots := zh_M s0 - zh_M s0, locals := 0 }) (l := l) (e := e) (below := below) (c0 := zh_N s0) (s0 := zh_M s0) (z := s0) (lv := lv) (v := r) X (zx_nz hz) hd
  refine zg_1 (pc' := 1) (fun _ _ _ _ _ hl w => lv_lload_n hx hb zd_Names_isWithin_0 rfl (lv_at hl 0 rfl) w) ?_
  refine zg_1 (pc' := 2) (fun _ _ _ _ _ hl w => lv_lload_n hx hb zd_Names_isWithin_1 rfl (lv_at hl 1 rfl) w) ?_
  refine zg_1 (pc' := 3) (fun _ _ _ _ _ hl w => W.lcmp hx hb zd_Names_isWithin_2 w) ?_
  refine zg_2 (pc1 := 8) (pc2 := 6) (Classical.em _).symm (fun _ _ _ _ _ w1 w2 => lv_if_ne hx hb zd_Names_isWithin_3 (by decide) w1 w2) (fun hc => ?_) (fun hc => ?_)
  · rw [if_neg hc] at hf
    refine zg_1 (pc' := 9) (fun _ _ _ _ _ hl w => lv_lload_n hx hb zd_Names_isWithin_8 rfl (lv_at hl 1 rfl) w) ?_
    refine zg_1 (pc' := 10) (fun _ _ _ _ _ hl w => lv_iconst (v := (5 : Int32)) hx hb zd_Names_isWithin_9 (by decide) w) ?_
    refine zg_1 (pc' := 11) (fun _ _ _ _ _ hl w => lv_lshl (v := (j2 <<< ((5 : Int32).toInt64 &&& 63))) hx hb zd_Names_isWithin_10 rfl w) ?_
    refine zg_1 (pc' := 14) (fun _ _ _ _ _ hl w => lv_ldc2 (v := (27 : Int64)) hx hb hown (htT _ zt_738) zd_Names_isWithin_11 w) ?_
    refine zg_1 (pc' := 15) (fun _ _ _ _ _ hl w => lv_lor hx hb zd_Names_isWithin_14 w) ?_
    obtain ⟨j_1, e_j_1, hf⟩ := zx_l hf
    refine zg_tl e_j_1 ?_
    refine zg_s (pc' := 17) (lv' := [(4, .long j_1), (0, .long j0), (2, .long j2)]) (fun _ _ _ _ _ hl w => lv_lstore hx hb zd_Names_isWithin_15 hl (by decide) rfl w) ?_
    refine zg_1 (pc' := 18) (fun _ _ _ _ _ hl w => lv_lload_n hx hb zd_Names_isWithin_17 rfl (lv_at hl 1 rfl) w) ?_
    refine zg_s (pc' := 20) (lv' := [(6, .long j0), (4, .long j_1), (0, .long j0), (2, .long j2)]) (fun _ _ _ _ _ hl w => lv_lstore hx hb zd_Names_isWithin_18 hl (by decide) rfl w) ?_
    refine zg_v [1, 0] rfl ?_
    exact zw_Names_isWithin_20 X hR hF hret n n j_1 j0 hf
  · rw [if_pos hc] at hf
    refine zg_1 (pc' := 7) (fun _ _ _ _ _ hl w => lv_iconst (v := (1 : Int32)) hx hb zd_Names_isWithin_6 (by decide) w) ?_
    obtain rfl := zx_r1 hf
    exact hret (Or.inr rfl) _ _ zd_Names_isWithin_7
set_option maxHeartbeats 4000000 in
theorem zw_Search_isInRealms_78 {p : Program} {l : Launch} {e : Env} {R : Room} {s : State} {m : MethodId} {args : Array Value} {below : List Frame} {meth : Method} {c : Code} {Q : State → Prop} {h0 : Nat} {D : va_G} {dA : Nat → ClassId} {tb : Nat → Nat} {c0 k0 : Nat} {s0 : zh_S} {r : Int32} (X : zg_X p s m args meth c ze_Search_isInRealms 7 zr_Search (some .boolean) h0 D dA tb) (hR : zg_R R c0 k0 s0) (hF : 1 ≤ R.frames ∧ 27 ≤ R.locals) (hret : (r = 0 ∨ r = 1) → ∀ (pc : Nat) (lv : List (Nat × Value)), decode ze_Search_isInRealms pc = .ok (.ireturn, 1) → zg_G p l e R s m args below meth c Q h0 D dA 7 c0 k0 s0 s0 pc lv [.int r]) (n : Nat) (r14 : zh_S → Nat → Int32 → Int64 → Int32 → Option Int32) (hr14 : ∀ (a0 : Nat) (i2 : Int32) (j3 : Int64) (i5 : Int32), r14 s0 a0 i2 j3 i5 = some r → zg_G p l e R s m args below meth c Q h0 D dA 7 c0 k0 s0 s0 14 [(0, .ref (h0 + a0)), (2, .int i2), (3, .long j3), (5, .int i5)] []) : ∀ (a0 : Nat) (i2 : Int32) (j3 : Int64) (i5 : Int32), zb_Search_isInRealms_78 n r14 s0 a0 i2 j3 i5 = some r → zg_G p l e R s m args below meth c Q h0 D dA 7 c0 k0 s0 s0 78 [(0, .ref (h0 + a0)), (2, .int i2), (3, .long j3), (5, .int i5)] [] := by
  obtain ⟨hx, hb, hml, hown, htT, hrt, hlk, x00, hIn⟩ := id X
  have hK := hIn.2.1
  have hT := hIn.2.2.1
  have hNe := hIn.2.2.2
  intro a0 i2 j3 i5 hf
  rw [zb_Search_isInRealms_78] at hf
  obtain ⟨i_1, e_i_1, hf⟩ := zx_l hf
  refine zg_s (pc' := 81) (lv' := [(5, .int i_1), (0, .ref (h0 + a0)), (2, .int i2), (3, .long j3)]) (fun _ _ _ _ _ hl w => lv_iinc (k := 3) (v := i_1) hx hb zd_Search_isInRealms_78 hl rfl (by rw [e_i_1]; rfl) (by decide) rfl w) ?_
  refine zg_1 (pc' := 14) (fun _ _ _ _ _ hl w => lv_goto hx hb zd_Search_isInRealms_81 (by decide) w) ?_
  refine zg_v [1, 2, 3, 0] rfl ?_
  exact hr14 a0 i2 j3 i_1 hf
set_option maxHeartbeats 4000000 in
theorem zw_Search_isInRealms_54 {p : Program} {l : Launch} {e : Env} {R : Room} {s : State} {m : MethodId} {args : Array Value} {below : List Frame} {meth : Method} {c : Code} {Q : State → Prop} {h0 : Nat} {D : va_G} {dA : Nat → ClassId} {tb : Nat → Nat} {c0 k0 : Nat} {s0 : zh_S} {r : Int32} (X : zg_X p s m args meth c ze_Search_isInRealms 7 zr_Search (some .boolean) h0 D dA tb) (hR : zg_R R c0 k0 s0) (hF : 1 ≤ R.frames ∧ 27 ≤ R.locals) (hret : (r = 0 ∨ r = 1) → ∀ (pc : Nat) (lv : List (Nat × Value)), decode ze_Search_isInRealms pc = .ok (.ireturn, 1) → zg_G p l e R s m args below meth c Q h0 D dA 7 c0 k0 s0 s0 pc lv [.int r]) (n : Nat) (r14 : zh_S → Nat → Int32 → Int64 → Int32 → Option Int32) (hr14 : ∀ (a0 : Nat) (i2 : Int32) (j3 : Int64) (i5 : Int32), r14 s0 a0 i2 j3 i5 = some r → zg_G p l e R s m args below meth c Q h0 D dA 7 c0 k0 s0 s0 14 [(0, .ref (h0 + a0)), (2, .int i2), (3, .long j3), (5, .int i5)] []) : ∀ (a0 : Nat) (i2 : Int32) (j3 : Int64) (i5 : Int32) (a6 : Nat), zb_Search_isInRealms_54 n r14 s0 a0 i2 j3 i5 a6 = some r → zg_G p l e R s m args below meth c Q h0 D dA 7 c0 k0 s0 s0 54 [(0, .ref (h0 + a0)), (2, .int i2), (3, .long j3), (5, .int i5), (6, .ref (h0 + a6))] [] := by
  obtain ⟨hx, hb, hml, hown, htT, hrt, hlk, x00, hIn⟩ := id X
  have hK := hIn.2.1
  have hT := hIn.2.2.1
  have hNe := hIn.2.2.2
  intro a0 i2 j3 i5 a6 hf
  rw [zb_Search_isInRealms_54] at hf
  refine zg_1 (pc' := 56) (fun _ _ _ _ _ hl w => lv_aload hx hb zd_Search_isInRealms_54 (lv_at hl 4 rfl) w) ?_
  obtain ⟨h_1, hf⟩ := zx_ck hf
  refine zg_get (pc' := 59) (ci := 0) hx hb htT zi_Certificate hown hK h_1 rfl rfl 13 (by decide) (htT _ zt_167) (fun _ h9 => h9) rfl zd_Search_isInRealms_56 rfl ?_
  refine zg_1 (pc' := 60) (fun _ _ _ _ _ hl w => lv_lconst (v := (0 : Int64)) hx hb zd_Search_isInRealms_59 (by decide) w) ?_
  refine zg_1 (pc' := 61) (fun _ _ _ _ _ hl w => W.lcmp hx hb zd_Search_isInRealms_60 w) ?_
  refine zg_2 (pc1 := 78) (pc2 := 64) (Classical.em _) (fun _ _ _ _ _ w1 w2 => lv_if_eq hx hb zd_Search_isInRealms_61 (by decide) w1 w2) (fun hc => ?_) (fun hc => ?_)
  · rw [if_pos hc] at hf
    refine zg_v [0, 1, 2, 3] rfl ?_
    exact zw_Search_isInRealms_78 X hR hF hret n _ hr14 a0 i2 j3 i5 hf
  · rw [if_neg hc] at hf
    refine zg_1 (pc' := 65) (fun _ _ _ _ _ hl w => lv_lload_n hx hb zd_Search_isInRealms_64 rfl (lv_at hl 2 rfl) w) ?_
    refine zg_1 (pc' := 67) (fun _ _ _ _ _ hl w => lv_aload hx hb zd_Search_isInRealms_65 (lv_at hl 4 rfl) w) ?_
    refine zg_get (pc' := 70) (ci := 0) hx hb htT zi_Certificate hown hK h_1 rfl rfl 13 (by decide) (htT _ zt_167) (fun _ h9 => h9) rfl zd_Search_isInRealms_67 rfl ?_
    obtain ⟨i_2, hq, hf⟩ := zx_p hf
    refine zg_call (pc' := 73) (y := s0) (rv := (some (.int i_2))) (rest := []) X hR ⟨Nat.le_refl _, Nat.le_refl _⟩ (fun H locs ls k j hsz hI hU hk => va_runS (As := [.long j3, .long (zh_J s0 a6 13)]) (rest := []) ⟨hx, hb, hml, hown, htT⟩ (zc_Names_isWithin l h0 D dA tb n hq) (va_cwS 2 htT (zw_gS zt_735 zt_736 zt_72 zt_737) rfl rfl rfl (by decide +kernel) ⟨Nat.le_trans (Nat.le_of_ble_eq_true rfl) hF.1, Nat.le_trans (Nat.le_of_ble_eq_true rfl) hF.2⟩) (zg_pre hU) rfl rfl hsz rfl (lv_room (Nat.le_of_ble_eq_true rfl)) zd_Search_isInRealms_70 hk) rfl ?_
    refine zg_2 (pc1 := 78) (pc2 := 76) (Classical.em _) (fun _ _ _ _ _ w1 w2 => lv_if_eq hx hb zd_Search_isInRealms_73 (by decide) w1 w2) (fun hc => ?_) (fun hc => ?_)
    · rw [if_pos hc] at hf
      refine zg_v [0, 1, 2, 3] rfl ?_
      exact zw_Search_isInRealms_78 X hR hF hret n _ hr14 a0 i2 j3 i5 hf
    · rw [if_neg hc] at hf
      refine zg_1 (pc' := 77) (fun _ _ _ _ _ hl w => lv_iconst (v := (0 : Int32)) hx hb zd_Search_isInRealms_76 (by decide) w) ?_
      obtain rfl := zx_r1 hf
      exact hret (Or.inl rfl) _ _ zd_Search_isInRealms_77
set_option maxHeartbeats 4000000 in
theorem zw_Search_isInRealms_14 {p : Program} {l : Launch} {e : Env} {R : Room} {s : State} {m : MethodId} {args : Array Value} {below : List Frame} {meth : Method} {c : Code} {Q : State → Prop} {h0 : Nat} {D : va_G} {dA : Nat → ClassId} {tb : Nat → Nat} {c0 k0 : Nat} {s0 : zh_S} {r : Int32} (X : zg_X p s m args meth c ze_Search_isInRealms 7 zr_Search (some .boolean) h0 D dA tb) (hR : zg_R R c0 k0 s0) (hF : 1 ≤ R.frames ∧ 27 ≤ R.locals) (hret : (r = 0 ∨ r = 1) → ∀ (pc : Nat) (lv : List (Nat × Value)), decode ze_Search_isInRealms pc = .ok (.ireturn, 1) → zg_G p l e R s m args below meth c Q h0 D dA 7 c0 k0 s0 s0 pc lv [.int r]) (n : Nat) (k : Nat) : ∀ (a0 : Nat) (i2 : Int32) (j3 : Int64) (i5 : Int32), zl_Search_isInRealms_14 n k s0 a0 i2 j3 i5 = some r → zg_G p l e R s m args below meth c Q h0 D dA 7 c0 k0 s0 s0 14 [(0, .ref (h0 + a0)), (2, .int i2), (3, .long j3), (5, .int i5)] [] := by
  obtain ⟨hx, hb, hml, hown, htT, hrt, hlk, x00, hIn⟩ := id X
  have hK := hIn.2.1
  have hT := hIn.2.2.1
  have hNe := hIn.2.2.2
  induction k with
  | zero => intro a0 i2 j3 i5 hf; cases hf
  | succ k ih =>
    intro a0 i2 j3 i5 hf
    rw [zl_Search_isInRealms_14] at hf
    refine zg_1 (pc' := 16) (fun _ _ _ _ _ hl w => lv_iload hx hb zd_Search_isInRealms_14 (lv_at hl 3 rfl) w) ?_
    refine zg_1 (pc' := 17) (fun _ _ _ _ _ hl w => lv_iload_n hx hb zd_Search_isInRealms_16 rfl (lv_at hl 1 rfl) w) ?_
    refine zg_1 (pc' := 18) (fun _ _ _ _ _ hl w => lv_iconst (v := (1 : Int32)) hx hb zd_Search_isInRealms_17 (by decide) w) ?_
    refine zg_1 (pc' := 19) (fun _ _ _ _ _ hl w => lv_isub hx hb zd_Search_isInRealms_18 w) ?_
    refine zg_2 (pc1 := 84) (pc2 := 22) (Classical.em _) (fun _ _ _ _ _ w1 w2 => lv_icmp_ge hx hb zd_Search_isInRealms_19 (by decide) w1 w2) (fun hc => ?_) (fun hc => ?_)
    · rw [if_pos hc] at hf
      refine zg_1 (pc' := 85) (fun _ _ _ _ _ hl w => lv_iconst (v := (1 : Int32)) hx hb zd_Search_isInRealms_84 (by decide) w) ?_
      obtain rfl := zx_r1 hf
      exact hret (Or.inr rfl) _ _ zd_Search_isInRealms_85
    · rw [if_neg hc] at hf
      refine zg_1 (pc' := 23) (fun _ _ _ _ _ hl w => lv_aload_n hx hb zd_Search_isInRealms_22 rfl (lv_at hl 0 rfl) w) ?_
      refine zg_1 (pc' := 25) (fun _ _ _ _ _ hl w => lv_iload hx hb zd_Search_isInRealms_23 (lv_at hl 3 rfl) w) ?_
      obtain ⟨h_1, hf⟩ := zx_ck hf
      obtain ⟨a_2, hq, hf⟩ := zx_p hf
      refine zg_call (pc' := 28) (y := s0) (rv := (some (.ref (h0 + a_2)))) (rest := []) X hR ⟨Nat.le_refl _, Nat.le_refl _⟩ (fun H locs ls k j hsz hI hU hk => va_runV (As := [.int i5]) (rest := []) ⟨hx, hb, hml, hown, htT⟩ (zc_Search_inPart l h0 D dA tb n hq) (cwV 1 htT (zw_gV zt_689 zt_691 zt_22 zt_76 zt_692) rfl rfl rfl (by decide +kernel) ⟨Nat.le_trans (Nat.le_of_ble_eq_true rfl) hF.1, Nat.le_trans (Nat.le_of_ble_eq_true rfl) hF.2⟩) ⟨(zg_pre hU).1, zg_recv hK hI h_1 rfl, (zg_pre hU).2⟩ rfl rfl hsz rfl (lv_room (Nat.le_of_ble_eq_true rfl)) zd_Search_isInRealms_25 hk) rfl ?_
      refine zg_s (pc' := 30) (lv' := [(6, .ref (h0 + a_2)), (0, .ref (h0 + a0)), (2, .int i2), (3, .long j3), (5, .int i5)]) (fun _ _ _ _ _ hl w => lv_astore hx hb zd_Search_isInRealms_28 hl (by decide) rfl w) ?_
      refine zg_1 (pc' := 32) (fun _ _ _ _ _ hl w => lv_aload hx hb zd_Search_isInRealms_30 (lv_at hl 0 rfl) w) ?_
      obtain ⟨h_3, hf⟩ := zx_ck hf
      refine zg_get (pc' := 35) (ci := 0) hx hb htT zi_Certificate hown hK h_3 rfl rfl 12 (by decide) (htT _ zt_164) (fun _ h9 => h9) rfl zd_Search_isInRealms_32 rfl ?_
      refine zg_1 (pc' := 36) (fun _ _ _ _ _ hl w => lv_lconst (v := (0 : Int64)) hx hb zd_Search_isInRealms_35 (by decide) w) ?_
      refine zg_1 (pc' := 37) (fun _ _ _ _ _ hl w => W.lcmp hx hb zd_Search_isInRealms_36 w) ?_
      refine zg_2 (pc1 := 54) (pc2 := 40) (Classical.em _) (fun _ _ _ _ _ w1 w2 => lv_if_eq hx hb zd_Search_isInRealms_37 (by decide) w1 w2) (fun hc => ?_) (fun hc => ?_)
      · rw [if_pos hc] at hf
        refine zg_v [1, 2, 3, 4, 0] rfl ?_
        exact zw_Search_isInRealms_54 X hR hF hret n _ ih a0 i2 j3 i5 a_2 hf
      · rw [if_neg hc] at hf
        refine zg_1 (pc' := 41) (fun _ _ _ _ _ hl w => lv_lload_n hx hb zd_Search_isInRealms_40 rfl (lv_at hl 3 rfl) w) ?_
        refine zg_1 (pc' := 43) (fun _ _ _ _ _ hl w => lv_aload hx hb zd_Search_isInRealms_41 (lv_at hl 0 rfl) w) ?_
        refine zg_get (pc' := 46) (ci := 0) hx hb htT zi_Certificate hown hK h_3 rfl rfl 12 (by decide) (htT _ zt_164) (fun _ h9 => h9) rfl zd_Search_isInRealms_43 rfl ?_
        obtain ⟨i_4, hq, hf⟩ := zx_p hf
        refine zg_call (pc' := 49) (y := s0) (rv := (some (.int i_4))) (rest := []) X hR ⟨Nat.le_refl _, Nat.le_refl _⟩ (fun H locs ls k j hsz hI hU hk => va_runS (As := [.long j3, .long (zh_J s0 a_2 12)]) (rest := []) ⟨hx, hb, hml, hown, htT⟩ (zc_Names_isWithin l h0 D dA tb n hq) (va_cwS 2 htT (zw_gS zt_735 zt_736 zt_72 zt_737) rfl rfl rfl (by decide +kernel) ⟨Nat.le_trans (Nat.le_of_ble_eq_true rfl) hF.1, Nat.le_trans (Nat.le_of_ble_eq_true rfl) hF.2⟩) (zg_pre hU) rfl rfl hsz rfl (lv_room (Nat.le_of_ble_eq_true rfl)) zd_Search_isInRealms_46 hk) rfl ?_
        refine zg_2 (pc1 := 54) (pc2 := 52) (Classical.em _).symm (fun _ _ _ _ _ w1 w2 => lv_if_ne hx hb zd_Search_isInRealms_49 (by decide) w1 w2) (fun hc => ?_) (fun hc => ?_)
        · rw [if_neg hc] at hf
          refine zg_v [1, 2, 3, 4, 0] rfl ?_
          exact zw_Search_isInRealms_54 X hR hF hret n _ ih a0 i2 j3 i5 a_2 hf
        · rw [if_pos hc] at hf
          refine zg_1 (pc' := 53) (fun _ _ _ _ _ hl w => lv_iconst (v := (0 : Int32)) hx hb zd_Search_isInRealms_52 (by decide) w) ?_
          obtain rfl := zx_r1 hf
          exact hret (Or.inl rfl) _ _ zd_Search_isInRealms_53
set_option maxHeartbeats 4000000 in
theorem zc_Search_isInRealms (l : Launch) (h0 : Nat) (D : va_G) (dA : Nat → ClassId) (tb : Nat → Nat) (n : Nat) {s0 : zh_S} {a0 : Nat} {i1 : Int32} {i2 : Int32} {r : Int32} (hf : zf_Search_isInRealms n s0 a0 i1 i2 = some r) : zc_M l zn_Search_isInRealms zs_Search_isInRealms 1 27 h0 D dA tb [.ref (h0 + a0), .int i1, .int i2] s0 (some (.int r)) s0 := by
  rw [zf_Search_isInRealms] at hf
  refine zc_of (cc := ze_Search_isInRealms) (maxL := 7) (ret := (some .boolean)) (lv := [(0, .ref (h0 + a0)), (1, .int i1), (2, .int i2)]) (by decide) rfl (Nat.le_of_ble_eq_true rfl) rfl ?_
  intro p e s m args below meth c X hnm
  obtain ⟨hx, hb, hml, hown, htT, hrt, hlk, x00, hIn⟩ := id X
  have hK := hIn.2.1
  have hT := hIn.2.2.1
  have hNe := hIn.2.2.2
  have hR : zg_R { frames := 1, cells := zh_N s0 - zh_N s0, slots := zh_M s0 - zh_M s0, locals := 27 } (zh_N s0) (zh_M s0) s0 := ⟨by show zh_N s0 ≤ zh_N s0 + (zh_N s0 - zh_N s0); omega, by show zh_M s0 ≤ zh_M s0 + (zh_M s0 - zh_M s0); omega⟩
  have hF : 1 ≤ ({ frames := 1, cells := zh_N s0 - zh_N s0, slots := zh_M s0 - zh_M s0, locals := 27 } : Room).frames ∧ 27 ≤ ({ frames := 1, cells := zh_N s0 - zh_N s0, slots := zh_M s0 - zh_M s0, locals := 27 } : Room).locals := ⟨Nat.le_refl _, Nat.le_refl _⟩
  have hret := fun (hz : r = 0 ∨ r = 1) (pc : Nat) (lv : List (Nat × Value)) (hd : decode ze_Search_isInRealms pc = .ok (.ireturn, 1)) => zg_iret (R := { frames := 1, cells := zh_N s0 - zh_N s0, slots := zh_M s0 - zh_M s0, locals := 27 }) (l := l) (e := e) (below := below) (c0 := zh_N s0) (s0 := zh_M s0) (z := s0) (lv := lv) (v := r) X (zx_nz hz) hd
  refine zg_1 (pc' := 1) (fun _ _ _ _ _ hl w => lv_aload_n hx hb zd_Search_isInRealms_0 rfl (lv_at hl 0 rfl) w) ?_
  refine zg_1 (pc' := 2) (fun _ _ _ _ _ hl w => lv_iload_n hx hb zd_Search_isInRealms_1 rfl (lv_at hl 1 rfl) w) ?_
  obtain ⟨h_1, hf⟩ := zx_ck hf
  obtain ⟨a_2, hq, hf⟩ := zx_p hf
  refine zg_call (pc' := 5) (y := s0) (rv := (some (.ref (h0 + a_2)))) (rest := []) X hR ⟨Nat.le_refl _, Nat.le_refl _⟩ (fun H locs ls k j hsz hI hU hk => va_runV (As := [.int i1]) (rest := []) ⟨hx, hb, hml, hown, htT⟩ (zc_Search_inPart l h0 D dA tb n hq) (cwV 1 htT (zw_gV zt_689 zt_691 zt_22 zt_76 zt_692) rfl rfl rfl (by decide +kernel) ⟨Nat.le_trans (Nat.le_of_ble_eq_true rfl) hF.1, Nat.le_trans (Nat.le_of_ble_eq_true rfl) hF.2⟩) ⟨(zg_pre hU).1, zg_recv hK hI h_1 rfl, (zg_pre hU).2⟩ rfl rfl hsz rfl (lv_room (Nat.le_of_ble_eq_true rfl)) zd_Search_isInRealms_2 hk) rfl ?_
  obtain ⟨h_3, hf⟩ := zx_ck hf
  refine zg_get (pc' := 8) (ci := 0) hx hb htT zi_Certificate hown hK h_3 rfl rfl 7 (by decide) (htT _ zt_150) (fun _ h9 => h9) rfl zd_Search_isInRealms_5 rfl ?_
  obtain ⟨j_4, e_j_4, hf⟩ := zx_l hf
  refine zg_tl e_j_4 ?_
  refine zg_s (pc' := 9) (lv' := [(3, .long j_4), (0, .ref (h0 + a0)), (1, .int i1), (2, .int i2)]) (fun _ _ _ _ _ hl w => lv_lstore_n hx hb zd_Search_isInRealms_8 rfl hl (by decide) rfl w) ?_
  refine zg_1 (pc' := 10) (fun _ _ _ _ _ hl w => lv_iload_n hx hb zd_Search_isInRealms_9 rfl (lv_at hl 2 rfl) w) ?_
  refine zg_1 (pc' := 11) (fun _ _ _ _ _ hl w => lv_iconst (v := (1 : Int32)) hx hb zd_Search_isInRealms_10 (by decide) w) ?_
  refine zg_1 (pc' := 12) (fun _ _ _ _ _ hl w => lv_iadd hx hb zd_Search_isInRealms_11 w) ?_
  obtain ⟨i_5, e_i_5, hf⟩ := zx_l hf
  refine zg_ti e_i_5 ?_
  refine zg_s (pc' := 14) (lv' := [(5, .int i_5), (3, .long j_4), (0, .ref (h0 + a0)), (1, .int i1), (2, .int i2)]) (fun _ _ _ _ _ hl w => lv_istore hx hb zd_Search_isInRealms_12 hl (by decide) rfl w) ?_
  refine zg_v [2, 4, 1, 0] rfl ?_
  exact zw_Search_isInRealms_14 X hR hF hret n n a0 i2 j_4 i_5 hf
set_option maxHeartbeats 4000000 in
theorem zc_Certificate_isSelfIssued (l : Launch) (h0 : Nat) (D : va_G) (dA : Nat → ClassId) (tb : Nat → Nat) (n : Nat) {s0 : zh_S} {a0 : Nat} {r : Int32} (hf : zf_Certificate_isSelfIssued n s0 a0 = some r) : zc_M l zn_Certificate_isSelfIssued zs_Certificate_isSelfIssued 0 0 h0 D dA tb [.ref (h0 + a0)] s0 (some (.int r)) s0 := by
  rw [zf_Certificate_isSelfIssued] at hf
  refine zc_of (cc := ze_Certificate_isSelfIssued) (maxL := 1) (ret := (some .boolean)) (lv := [(0, .ref (h0 + a0))]) (by decide) rfl (Nat.le_of_ble_eq_true rfl) rfl ?_
  intro p e s m args below meth c X hnm
  obtain ⟨hx, hb, hml, hown, htT, hrt, hlk, x00, hIn⟩ := id X
  have hK := hIn.2.1
  have hT := hIn.2.2.1
  have hNe := hIn.2.2.2
  have hR : zg_R { frames := 0, cells := zh_N s0 - zh_N s0, slots := zh_M s0 - zh_M s0, locals := 0 } (zh_N s0) (zh_M s0) s0 := ⟨by show zh_N s0 ≤ zh_N s0 + (zh_N s0 - zh_N s0); omega, by show zh_M s0 ≤ zh_M s0 + (zh_M s0 - zh_M s0); omega⟩
  have hF : 0 ≤ ({ frames := 0, cells := zh_N s0 - zh_N s0, slots := zh_M s0 - zh_M s0, locals := 0 } : Room).frames ∧ 0 ≤ ({ frames := 0, cells := zh_N s0 - zh_N s0, slots := zh_M s0 - zh_M s0, locals := 0 } : Room).locals := ⟨Nat.le_refl _, Nat.le_refl _⟩
  have hret := fun (hz : r = 0 ∨ r = 1) (pc : Nat) (lv : List (Nat × Value)) (hd : decode ze_Certificate_isSelfIssued pc = .ok (.ireturn, 1)) => zg_iret (R := { frames := 0, cells := zh_N s0 - zh_N s0, slots := zh_M s0 - zh_M s0, locals := 0 }) (l := l) (e := e) (below := below) (c0 := zh_N s0) (s0 := zh_M s0) (z := s0) (lv := lv) (v := r) X (zx_nz hz) hd
  refine zg_1 (pc' := 1) (fun _ _ _ _ _ hl w => lv_aload_n hx hb zd_Certificate_isSelfIssued_0 rfl (lv_at hl 0 rfl) w) ?_
  obtain ⟨h_1, hf⟩ := zx_ck hf
  refine zg_get (pc' := 4) (ci := 0) hx hb htT zi_Certificate hown hK h_1 rfl rfl 0 (by decide) (htT _ zt_183) (fun x9 h9 => u_same (htT _ zt_182) x9 h9) rfl zd_Certificate_isSelfIssued_1 rfl ?_
  refine zg_1 (pc' := 5) (fun _ _ _ _ _ hl w => lv_aload_n hx hb zd_Certificate_isSelfIssued_4 rfl (lv_at hl 0 rfl) w) ?_
  refine zg_get (pc' := 8) (ci := 0) hx hb htT zi_Certificate hown hK h_1 rfl rfl 7 (by decide) (htT _ zt_148) (fun _ h9 => h9) rfl zd_Certificate_isSelfIssued_5 rfl ?_
  refine zg_1 (pc' := 9) (fun _ _ _ _ _ hl w => W.lcmp hx hb zd_Certificate_isSelfIssued_8 w) ?_
  refine zg_2 (pc1 := 16) (pc2 := 12) (Classical.em _).symm (fun _ _ _ _ _ w1 w2 => lv_if_ne hx hb zd_Certificate_isSelfIssued_9 (by decide) w1 w2) (fun hc => ?_) (fun hc => ?_)
  · rw [if_neg hc] at hf
    refine zg_1 (pc' := 17) (fun _ _ _ _ _ hl w => lv_iconst (v := (0 : Int32)) hx hb zd_Certificate_isSelfIssued_16 (by decide) w) ?_
    obtain rfl := zx_r1 hf
    exact hret (Or.inl rfl) _ _ zd_Certificate_isSelfIssued_17
  · rw [if_pos hc] at hf
    refine zg_1 (pc' := 13) (fun _ _ _ _ _ hl w => lv_iconst (v := (1 : Int32)) hx hb zd_Certificate_isSelfIssued_12 (by decide) w) ?_
    refine zg_1 (pc' := 17) (fun _ _ _ _ _ hl w => lv_goto hx hb zd_Certificate_isSelfIssued_13 (by decide) w) ?_
    obtain rfl := zx_r1 hf
    exact hret (Or.inr rfl) _ _ zd_Certificate_isSelfIssued_17
set_option maxHeartbeats 4000000 in
theorem zw_Search_countBefore_23 {p : Program} {l : Launch} {e : Env} {R : Room} {s : State} {m : MethodId} {args : Array Value} {below : List Frame} {meth : Method} {c : Code} {Q : State → Prop} {h0 : Nat} {D : va_G} {dA : Nat → ClassId} {tb : Nat → Nat} {c0 k0 : Nat} {s0 : zh_S} {r : Int32} (X : zg_X p s m args meth c ze_Search_countBefore 4 zr_Search (some .int) h0 D dA tb) (hR : zg_R R c0 k0 s0) (hF : 1 ≤ R.frames ∧ 21 ≤ R.locals) (hret : ∀ (pc : Nat) (lv : List (Nat × Value)), decode ze_Search_countBefore pc = .ok (.ireturn, 1) → zg_G p l e R s m args below meth c Q h0 D dA 4 c0 k0 s0 s0 pc lv [.int r]) (n : Nat) (r4 : zh_S → Nat → Int32 → Int32 → Int32 → Option Int32) (hr4 : ∀ (a0 : Nat) (i1 : Int32) (i2 : Int32) (i3 : Int32), r4 s0 a0 i1 i2 i3 = some r → zg_G p l e R s m args below meth c Q h0 D dA 4 c0 k0 s0 s0 4 [(0, .ref (h0 + a0)), (1, .int i1), (2, .int i2), (3, .int i3)] []) : ∀ (a0 : Nat) (i1 : Int32) (i2 : Int32) (i3 : Int32), zb_Search_countBefore_23 n r4 s0 a0 i1 i2 i3 = some r → zg_G p l e R s m args below meth c Q h0 D dA 4 c0 k0 s0 s0 23 [(0, .ref (h0 + a0)), (1, .int i1), (2, .int i2), (3, .int i3)] [] := by
  obtain ⟨hx, hb, hml, hown, htT, hrt, hlk, x00, hIn⟩ := id X
  have hK := hIn.2.1
  have hT := hIn.2.2.1
  have hNe := hIn.2.2.2
  intro a0 i1 i2 i3 hf
  rw [zb_Search_countBefore_23] at hf
  obtain ⟨i_1, e_i_1, hf⟩ := zx_l hf
  refine zg_s (pc' := 26) (lv' := [(3, .int i_1), (0, .ref (h0 + a0)), (1, .int i1), (2, .int i2)]) (fun _ _ _ _ _ hl w => lv_iinc (k := 3) (v := i_1) hx hb zd_Search_countBefore_23 hl rfl (by rw [e_i_1]; rfl) (by decide) rfl w) ?_
  refine zg_1 (pc' := 4) (fun _ _ _ _ _ hl w => lv_goto hx hb zd_Search_countBefore_26 (by decide) w) ?_
  refine zg_v [1, 2, 3, 0] rfl ?_
  exact hr4 a0 i1 i2 i_1 hf
set_option maxHeartbeats 4000000 in
theorem zw_Search_countBefore_4 {p : Program} {l : Launch} {e : Env} {R : Room} {s : State} {m : MethodId} {args : Array Value} {below : List Frame} {meth : Method} {c : Code} {Q : State → Prop} {h0 : Nat} {D : va_G} {dA : Nat → ClassId} {tb : Nat → Nat} {c0 k0 : Nat} {s0 : zh_S} {r : Int32} (X : zg_X p s m args meth c ze_Search_countBefore 4 zr_Search (some .int) h0 D dA tb) (hR : zg_R R c0 k0 s0) (hF : 1 ≤ R.frames ∧ 21 ≤ R.locals) (hret : ∀ (pc : Nat) (lv : List (Nat × Value)), decode ze_Search_countBefore pc = .ok (.ireturn, 1) → zg_G p l e R s m args below meth c Q h0 D dA 4 c0 k0 s0 s0 pc lv [.int r]) (n : Nat) (k : Nat) : ∀ (a0 : Nat) (i1 : Int32) (i2 : Int32) (i3 : Int32), zl_Search_countBefore_4 n k s0 a0 i1 i2 i3 = some r → zg_G p l e R s m args below meth c Q h0 D dA 4 c0 k0 s0 s0 4 [(0, .ref (h0 + a0)), (1, .int i1), (2, .int i2), (3, .int i3)] [] := by
  obtain ⟨hx, hb, hml, hown, htT, hrt, hlk, x00, hIn⟩ := id X
  have hK := hIn.2.1
  have hT := hIn.2.2.1
  have hNe := hIn.2.2.2
  induction k with
  | zero => intro a0 i1 i2 i3 hf; cases hf
  | succ k ih =>
    intro a0 i1 i2 i3 hf
    rw [zl_Search_countBefore_4] at hf
    refine zg_1 (pc' := 5) (fun _ _ _ _ _ hl w => lv_iload_n hx hb zd_Search_countBefore_4 rfl (lv_at hl 3 rfl) w) ?_
    refine zg_1 (pc' := 6) (fun _ _ _ _ _ hl w => lv_iload_n hx hb zd_Search_countBefore_5 rfl (lv_at hl 1 rfl) w) ?_
    refine zg_2 (pc1 := 29) (pc2 := 9) (Classical.em _) (fun _ _ _ _ _ w1 w2 => lv_icmp_ge hx hb zd_Search_countBefore_6 (by decide) w1 w2) (fun hc => ?_) (fun hc => ?_)
    · rw [if_pos hc] at hf
      refine zg_1 (pc' := 30) (fun _ _ _ _ _ hl w => lv_iload_n hx hb zd_Search_countBefore_29 rfl (lv_at hl 2 rfl) w) ?_
      obtain rfl := zx_r1 hf
      exact hret _ _ zd_Search_countBefore_30
    · rw [if_neg hc] at hf
      refine zg_1 (pc' := 10) (fun _ _ _ _ _ hl w => lv_aload_n hx hb zd_Search_countBefore_9 rfl (lv_at hl 0 rfl) w) ?_
      refine zg_1 (pc' := 11) (fun _ _ _ _ _ hl w => lv_iload_n hx hb zd_Search_countBefore_10 rfl (lv_at hl 3 rfl) w) ?_
      obtain ⟨h_1, hf⟩ := zx_ck hf
      obtain ⟨a_2, hq, hf⟩ := zx_p hf
      refine zg_call (pc' := 14) (y := s0) (rv := (some (.ref (h0 + a_2)))) (rest := []) X hR ⟨Nat.le_refl _, Nat.le_refl _⟩ (fun H locs ls k j hsz hI hU hk => va_runV (As := [.int i3]) (rest := []) ⟨hx, hb, hml, hown, htT⟩ (zc_Search_inPart l h0 D dA tb n hq) (cwV 1 htT (zw_gV zt_689 zt_691 zt_22 zt_76 zt_692) rfl rfl rfl (by decide +kernel) ⟨Nat.le_trans (Nat.le_of_ble_eq_true rfl) hF.1, Nat.le_trans (Nat.le_of_ble_eq_true rfl) hF.2⟩) ⟨(zg_pre hU).1, zg_recv hK hI h_1 rfl, (zg_pre hU).2⟩ rfl rfl hsz rfl (lv_room (Nat.le_of_ble_eq_true rfl)) zd_Search_countBefore_11 hk) rfl ?_
      obtain ⟨h_3, hf⟩ := zx_ck hf
      obtain ⟨i_4, hq, hf⟩ := zx_p hf
      refine zg_call (pc' := 17) (y := s0) (rv := (some (.int i_4))) (rest := []) X hR ⟨Nat.le_refl _, Nat.le_refl _⟩ (fun H locs ls k j hsz hI hU hk => va_runV (As := []) (rest := []) ⟨hx, hb, hml, hown, htT⟩ (zc_Certificate_isSelfIssued l h0 D dA tb n hq) (cwV 0 htT (zw_gV zt_744 zt_745 zt_746 zt_69 zt_747) rfl rfl rfl (by decide +kernel) ⟨Nat.le_trans (Nat.le_of_ble_eq_true rfl) hF.1, Nat.le_trans (Nat.le_of_ble_eq_true rfl) hF.2⟩) ⟨(zg_pre hU).1, zg_recv hK hI h_3 rfl, (zg_pre hU).2⟩ rfl rfl hsz rfl (lv_room (Nat.le_of_ble_eq_true rfl)) zd_Search_countBefore_14 hk) rfl ?_
      refine zg_2 (pc1 := 23) (pc2 := 20) (Classical.em _).symm (fun _ _ _ _ _ w1 w2 => lv_if_ne hx hb zd_Search_countBefore_17 (by decide) w1 w2) (fun hc => ?_) (fun hc => ?_)
      · rw [if_neg hc] at hf
        exact zw_Search_countBefore_23 X hR hF hret n _ ih a0 i1 i2 i3 hf
      · rw [if_pos hc] at hf
        obtain ⟨i_5, e_i_5, hf⟩ := zx_l hf
        refine zg_s (pc' := 23) (lv' := [(2, .int i_5), (0, .ref (h0 + a0)), (1, .int i1), (3, .int i3)]) (fun _ _ _ _ _ hl w => lv_iinc (k := 2) (v := i_5) hx hb zd_Search_countBefore_20 hl rfl (by rw [e_i_5]; rfl) (by decide) rfl w) ?_
        refine zg_v [1, 2, 0, 3] rfl ?_
        exact zw_Search_countBefore_23 X hR hF hret n _ ih a0 i1 i_5 i3 hf
set_option maxHeartbeats 4000000 in
theorem zc_Search_countBefore (l : Launch) (h0 : Nat) (D : va_G) (dA : Nat → ClassId) (tb : Nat → Nat) (n : Nat) {s0 : zh_S} {a0 : Nat} {i1 : Int32} {r : Int32} (hf : zf_Search_countBefore n s0 a0 i1 = some r) : zc_M l zn_Search_countBefore zs_Search_countBefore 1 21 h0 D dA tb [.ref (h0 + a0), .int i1] s0 (some (.int r)) s0 := by
  rw [zf_Search_countBefore] at hf
  refine zc_of (cc := ze_Search_countBefore) (maxL := 4) (ret := (some .int)) (lv := [(0, .ref (h0 + a0)), (1, .int i1)]) (by decide) rfl (Nat.le_of_ble_eq_true rfl) rfl ?_
  intro p e s m args below meth c X hnm
  obtain ⟨hx, hb, hml, hown, htT, hrt, hlk, x00, hIn⟩ := id X
  have hK := hIn.2.1
  have hT := hIn.2.2.1
  have hNe := hIn.2.2.2
  have hR : zg_R { frames := 1, cells := zh_N s0 - zh_N s0, slots := zh_M s0 - zh_M s0, locals := 21 } (zh_N s0) (zh_M s0) s0 := ⟨by show zh_N s0 ≤ zh_N s0 + (zh_N s0 - zh_N s0); omega, by show zh_M s0 ≤ zh_M s0 + (zh_M s0 - zh_M s0); omega⟩
  have hF : 1 ≤ ({ frames := 1, cells := zh_N s0 - zh_N s0, slots := zh_M s0 - zh_M s0, locals := 21 } : Room).frames ∧ 21 ≤ ({ frames := 1, cells := zh_N s0 - zh_N s0, slots := zh_M s0 - zh_M s0, locals := 21 } : Room).locals := ⟨Nat.le_refl _, Nat.le_refl _⟩
  have hret := fun (pc : Nat) (lv : List (Nat × Value)) (hd : decode ze_Search_countBefore pc = .ok (.ireturn, 1)) => zg_iret (R := { frames := 1, cells := zh_N s0 - zh_N s0, slots := zh_M s0 - zh_M s0, locals := 21 }) (l := l) (e := e) (below := below) (c0 := zh_N s0) (s0 := zh_M s0) (z := s0) (lv := lv) (v := r) X rfl hd
  refine zg_1 (pc' := 1) (fun _ _ _ _ _ hl w => lv_iconst (v := (0 : Int32)) hx hb zd_Search_countBefore_0 (by decide) w) ?_
  refine zg_s (pc' := 2) (lv' := [(2, .int (0 : Int32)), (0, .ref (h0 + a0)), (1, .int i1)]) (fun _ _ _ _ _ hl w => lv_istore_n hx hb zd_Search_countBefore_1 rfl hl (by decide) rfl w) ?_
  refine zg_1 (pc' := 3) (fun _ _ _ _ _ hl w => lv_iconst (v := (1 : Int32)) hx hb zd_Search_countBefore_2 (by decide) w) ?_
  refine zg_s (pc' := 4) (lv' := [(3, .int (1 : Int32)), (2, .int (0 : Int32)), (0, .ref (h0 + a0)), (1, .int i1)]) (fun _ _ _ _ _ hl w => lv_istore_n hx hb zd_Search_countBefore_3 rfl hl (by decide) rfl w) ?_
  refine zg_v [2, 3, 1, 0] rfl ?_
  exact zw_Search_countBefore_4 X hR hF hret n n a0 i1 (0 : Int32) (1 : Int32) hf
set_option maxHeartbeats 4000000 in
theorem zw_RevokedList_revokes_38 {p : Program} {l : Launch} {e : Env} {R : Room} {s : State} {m : MethodId} {args : Array Value} {below : List Frame} {meth : Method} {c : Code} {Q : State → Prop} {h0 : Nat} {D : va_G} {dA : Nat → ClassId} {tb : Nat → Nat} {c0 k0 : Nat} {s0 : zh_S} {r : Int32} (X : zg_X p s m args meth c ze_RevokedList_revokes 6 zr_RevokedList (some .boolean) h0 D dA tb) (hR : zg_R R c0 k0 s0) (hF : 0 ≤ R.frames ∧ 0 ≤ R.locals) (hret : (r = 0 ∨ r = 1) → ∀ (pc : Nat) (lv : List (Nat × Value)), decode ze_RevokedList_revokes pc = .ok (.ireturn, 1) → zg_G p l e R s m args below meth c Q h0 D dA 6 c0 k0 s0 s0 pc lv [.int r]) (n : Nat) (r3 : zh_S → Nat → Int64 → Int64 → Int32 → Option Int32) (hr3 : ∀ (a0 : Nat) (j1 : Int64) (j3 : Int64) (i5 : Int32), r3 s0 a0 j1 j3 i5 = some r → zg_G p l e R s m args below meth c Q h0 D dA 6 c0 k0 s0 s0 3 [(0, .ref (h0 + a0)), (1, .long j1), (3, .long j3), (5, .int i5)] []) : ∀ (a0 : Nat) (j1 : Int64) (j3 : Int64) (i5 : Int32), zb_RevokedList_revokes_38 n r3 s0 a0 j1 j3 i5 = some r → zg_G p l e R s m args below meth c Q h0 D dA 6 c0 k0 s0 s0 38 [(0, .ref (h0 + a0)), (1, .long j1), (3, .long j3), (5, .int i5)] [] := by
  obtain ⟨hx, hb, hml, hown, htT, hrt, hlk, x00, hIn⟩ := id X
  have hK := hIn.2.1
  have hT := hIn.2.2.1
  have hNe := hIn.2.2.2
  intro a0 j1 j3 i5 hf
  rw [zb_RevokedList_revokes_38] at hf
  obtain ⟨i_1, e_i_1, hf⟩ := zx_l hf
  refine zg_s (pc' := 41) (lv' := [(5, .int i_1), (0, .ref (h0 + a0)), (1, .long j1), (3, .long j3)]) (fun _ _ _ _ _ hl w => lv_iinc (k := 3) (v := i_1) hx hb zd_RevokedList_revokes_38 hl rfl (by rw [e_i_1]; rfl) (by decide) rfl w) ?_
  refine zg_1 (pc' := 3) (fun _ _ _ _ _ hl w => lv_goto hx hb zd_RevokedList_revokes_41 (by decide) w) ?_
  refine zg_v [1, 2, 3, 0] rfl ?_
  exact hr3 a0 j1 j3 i_1 hf
set_option maxHeartbeats 4000000 in
theorem zw_RevokedList_revokes_3 {p : Program} {l : Launch} {e : Env} {R : Room} {s : State} {m : MethodId} {args : Array Value} {below : List Frame} {meth : Method} {c : Code} {Q : State → Prop} {h0 : Nat} {D : va_G} {dA : Nat → ClassId} {tb : Nat → Nat} {c0 k0 : Nat} {s0 : zh_S} {r : Int32} (X : zg_X p s m args meth c ze_RevokedList_revokes 6 zr_RevokedList (some .boolean) h0 D dA tb) (hR : zg_R R c0 k0 s0) (hF : 0 ≤ R.frames ∧ 0 ≤ R.locals) (hret : (r = 0 ∨ r = 1) → ∀ (pc : Nat) (lv : List (Nat × Value)), decode ze_RevokedList_revokes pc = .ok (.ireturn, 1) → zg_G p l e R s m args below meth c Q h0 D dA 6 c0 k0 s0 s0 pc lv [.int r]) (n : Nat) (k : Nat) : ∀ (a0 : Nat) (j1 : Int64) (j3 : Int64) (i5 : Int32), zl_RevokedList_revokes_3 n k s0 a0 j1 j3 i5 = some r → zg_G p l e R s m args below meth c Q h0 D dA 6 c0 k0 s0 s0 3 [(0, .ref (h0 + a0)), (1, .long j1), (3, .long j3), (5, .int i5)] [] := by
  obtain ⟨hx, hb, hml, hown, htT, hrt, hlk, x00, hIn⟩ := id X
  have hK := hIn.2.1
  have hT := hIn.2.2.1
  have hNe := hIn.2.2.2
  induction k with
  | zero => intro a0 j1 j3 i5 hf; cases hf
  | succ k ih =>
    intro a0 j1 j3 i5 hf
    rw [zl_RevokedList_revokes_3] at hf
    refine zg_1 (pc' := 5) (fun _ _ _ _ _ hl w => lv_iload hx hb zd_RevokedList_revokes_3 (lv_at hl 3 rfl) w) ?_
    refine zg_1 (pc' := 6) (fun _ _ _ _ _ hl w => lv_aload_n hx hb zd_RevokedList_revokes_5 rfl (lv_at hl 0 rfl) w) ?_
    obtain ⟨h_1, hf⟩ := zx_ck hf
    refine zg_get (pc' := 9) (ci := 3) hx hb htT zi_RevokedList hown hK h_1 rfl rfl 8 (by decide) (htT _ zt_266) (fun _ h9 => h9) rfl zd_RevokedList_revokes_6 rfl ?_
    refine zg_2 (pc1 := 44) (pc2 := 12) (Classical.em _) (fun _ _ _ _ _ w1 w2 => lv_icmp_ge hx hb zd_RevokedList_revokes_9 (by decide) w1 w2) (fun hc => ?_) (fun hc => ?_)
    · rw [if_pos hc] at hf
      refine zg_1 (pc' := 45) (fun _ _ _ _ _ hl w => lv_iconst (v := (0 : Int32)) hx hb zd_RevokedList_revokes_44 (by decide) w) ?_
      obtain rfl := zx_r1 hf
      exact hret (Or.inl rfl) _ _ zd_RevokedList_revokes_45
    · rw [if_neg hc] at hf
      refine zg_1 (pc' := 13) (fun _ _ _ _ _ hl w => lv_aload_n hx hb zd_RevokedList_revokes_12 rfl (lv_at hl 0 rfl) w) ?_
      obtain ⟨a_2, h_3, hf⟩ := zx_p hf
      refine zg_get (pc' := 16) (ci := 3) hx hb htT zi_RevokedList hown hK h_1 rfl rfl 6 (by decide) (htT _ zt_262) (fun _ h9 => h9) (zx_hv h_3) zd_RevokedList_revokes_13 rfl ?_
      refine zg_1 (pc' := 18) (fun _ _ _ _ _ hl w => lv_iload hx hb zd_RevokedList_revokes_16 (lv_at hl 3 rfl) w) ?_
      obtain ⟨h_4, hf⟩ := zx_ck hf
      refine zg_lald (pc' := 19) hx hb hK h_4 zd_RevokedList_revokes_18 rfl ?_
      refine zg_1 (pc' := 20) (fun _ _ _ _ _ hl w => lv_lload_n hx hb zd_RevokedList_revokes_19 rfl (lv_at hl 1 rfl) w) ?_
      refine zg_1 (pc' := 21) (fun _ _ _ _ _ hl w => W.lcmp hx hb zd_RevokedList_revokes_20 w) ?_
      refine zg_2 (pc1 := 38) (pc2 := 24) (Classical.em _).symm (fun _ _ _ _ _ w1 w2 => lv_if_ne hx hb zd_RevokedList_revokes_21 (by decide) w1 w2) (fun hc => ?_) (fun hc => ?_)
      · rw [if_neg hc] at hf
        exact zw_RevokedList_revokes_38 X hR hF hret n _ ih a0 j1 j3 i5 hf
      · rw [if_pos hc] at hf
        refine zg_1 (pc' := 25) (fun _ _ _ _ _ hl w => lv_aload_n hx hb zd_RevokedList_revokes_24 rfl (lv_at hl 0 rfl) w) ?_
        obtain ⟨a_5, h_6, hf⟩ := zx_p hf
        refine zg_get (pc' := 28) (ci := 3) hx hb htT zi_RevokedList hown hK h_1 rfl rfl 7 (by decide) (htT _ zt_264) (fun _ h9 => h9) (zx_hv h_6) zd_RevokedList_revokes_25 rfl ?_
        refine zg_1 (pc' := 30) (fun _ _ _ _ _ hl w => lv_iload hx hb zd_RevokedList_revokes_28 (lv_at hl 3 rfl) w) ?_
        obtain ⟨h_7, hf⟩ := zx_ck hf
        refine zg_lald (pc' := 31) hx hb hK h_7 zd_RevokedList_revokes_30 rfl ?_
        refine zg_1 (pc' := 32) (fun _ _ _ _ _ hl w => lv_lload_n hx hb zd_RevokedList_revokes_31 rfl (lv_at hl 2 rfl) w) ?_
        refine zg_1 (pc' := 33) (fun _ _ _ _ _ hl w => W.lcmp hx hb zd_RevokedList_revokes_32 w) ?_
        refine zg_2 (pc1 := 38) (pc2 := 36) (Classical.em _) (fun _ _ _ _ _ w1 w2 => lv_if_gt hx hb zd_RevokedList_revokes_33 (by decide) w1 w2) (fun hc => ?_) (fun hc => ?_)
        · rw [if_pos hc] at hf
          exact zw_RevokedList_revokes_38 X hR hF hret n _ ih a0 j1 j3 i5 hf
        · rw [if_neg hc] at hf
          refine zg_1 (pc' := 37) (fun _ _ _ _ _ hl w => lv_iconst (v := (1 : Int32)) hx hb zd_RevokedList_revokes_36 (by decide) w) ?_
          obtain rfl := zx_r1 hf
          exact hret (Or.inr rfl) _ _ zd_RevokedList_revokes_37
set_option maxHeartbeats 4000000 in
theorem zc_RevokedList_revokes (l : Launch) (h0 : Nat) (D : va_G) (dA : Nat → ClassId) (tb : Nat → Nat) (n : Nat) {s0 : zh_S} {a0 : Nat} {j1 : Int64} {j3 : Int64} {r : Int32} (hf : zf_RevokedList_revokes n s0 a0 j1 j3 = some r) : zc_M l zn_RevokedList_revokes zs_RevokedList_revokes 0 0 h0 D dA tb [.ref (h0 + a0), .long j1, .long j3] s0 (some (.int r)) s0 := by
  rw [zf_RevokedList_revokes] at hf
  refine zc_of (cc := ze_RevokedList_revokes) (maxL := 6) (ret := (some .boolean)) (lv := [(0, .ref (h0 + a0)), (1, .long j1), (3, .long j3)]) (by decide) rfl (Nat.le_of_ble_eq_true rfl) rfl ?_
  intro p e s m args below meth c X hnm
  obtain ⟨hx, hb, hml, hown, htT, hrt, hlk, x00, hIn⟩ := id X
  have hK := hIn.2.1
  have hT := hIn.2.2.1
  have hNe := hIn.2.2.2
  have hR : zg_R { frames := 0, cells := zh_N s0 - zh_N s0, slots := zh_M s0 - zh_M s0, locals := 0 } (zh_N s0) (zh_M s0) s0 := ⟨by show zh_N s0 ≤ zh_N s0 + (zh_N s0 - zh_N s0); omega, by show zh_M s0 ≤ zh_M s0 + (zh_M s0 - zh_M s0); omega⟩
  have hF : 0 ≤ ({ frames := 0, cells := zh_N s0 - zh_N s0, slots := zh_M s0 - zh_M s0, locals := 0 } : Room).frames ∧ 0 ≤ ({ frames := 0, cells := zh_N s0 - zh_N s0, slots := zh_M s0 - zh_M s0, locals := 0 } : Room).locals := ⟨Nat.le_refl _, Nat.le_refl _⟩
  have hret := fun (hz : r = 0 ∨ r = 1) (pc : Nat) (lv : List (Nat × Value)) (hd : decode ze_RevokedList_revokes pc = .ok (.ireturn, 1)) => zg_iret (R := { frames := 0, cells := zh_N s0 - zh_N s0, slots := zh_M s0 - zh_M s0, locals := 0 }) (l := l) (e := e) (below := below) (c0 := zh_N s0) (s0 := zh_M s0) (z := s0) (lv := lv) (v := r) X (zx_nz hz) hd
  refine zg_1 (pc' := 1) (fun _ _ _ _ _ hl w => lv_iconst (v := (0 : Int32)) hx hb zd_RevokedList_revokes_0 (by decide) w) ?_
  refine zg_s (pc' := 3) (lv' := [(5, .int (0 : Int32)), (0, .ref (h0 + a0)), (1, .long j1), (3, .long j3)]) (fun _ _ _ _ _ hl w => lv_istore hx hb zd_RevokedList_revokes_1 hl (by decide) rfl w) ?_
  refine zg_v [1, 2, 3, 0] rfl ?_
  exact zw_RevokedList_revokes_3 X hR hF hret n n a0 j1 j3 (0 : Int32) hf
set_option maxHeartbeats 4000000 in
theorem zw_Search_reasonAgainst_153 {p : Program} {l : Launch} {e : Env} {R : Room} {s : State} {m : MethodId} {args : Array Value} {below : List Frame} {meth : Method} {c : Code} {Q : State → Prop} {h0 : Nat} {D : va_G} {dA : Nat → ClassId} {tb : Nat → Nat} {c0 k0 : Nat} {s0 : zh_S} {r : Int32} (X : zg_X p s m args meth c ze_Search_reasonAgainst 5 zr_Search (some .int) h0 D dA tb) (hR : zg_R R c0 k0 s0) (hF : 2 ≤ R.frames ∧ 53 ≤ R.locals) (hret : ∀ (pc : Nat) (lv : List (Nat × Value)), decode ze_Search_reasonAgainst pc = .ok (.ireturn, 1) → zg_G p l e R s m args below meth c Q h0 D dA 5 c0 k0 s0 s0 pc lv [.int r]) (n : Nat) : ∀ (a3 : Nat), zb_Search_reasonAgainst_153 n s0 a3 = some r → zg_G p l e R s m args below meth c Q h0 D dA 5 c0 k0 s0 s0 153 [(3, .ref (h0 + a3))] [] := by
  obtain ⟨hx, hb, hml, hown, htT, hrt, hlk, x00, hIn⟩ := id X
  have hK := hIn.2.1
  have hT := hIn.2.2.1
  have hNe := hIn.2.2.2
  intro a3 hf
  rw [zb_Search_reasonAgainst_153] at hf
  refine zg_1 (pc' := 154) (fun _ _ _ _ _ hl w => lv_aload_n hx hb zd_Search_reasonAgainst_153 rfl (lv_at hl 0 rfl) w) ?_
  refine zg_1 (pc' := 155) (fun _ _ _ _ _ hl w => lv_iconst (v := (1 : Int32)) hx hb zd_Search_reasonAgainst_154 (by decide) w) ?_
  obtain ⟨h_1, hf⟩ := zx_ck hf
  obtain ⟨i_2, hq, hf⟩ := zx_p hf
  refine zg_call (pc' := 158) (y := s0) (rv := (some (.int i_2))) (rest := []) X hR ⟨Nat.le_refl _, Nat.le_refl _⟩ (fun H locs ls k j hsz hI hU hk => va_runV (As := [.int (1 : Int32)]) (rest := []) ⟨hx, hb, hml, hown, htT⟩ (zc_Certificate_isFitFor l h0 D dA tb n hq) (cwV 1 htT (zw_gV zt_717 zt_718 zt_719 zt_69 zt_720) rfl rfl rfl (by decide +kernel) ⟨Nat.le_trans (Nat.le_of_ble_eq_true rfl) hF.1, Nat.le_trans (Nat.le_of_ble_eq_true rfl) hF.2⟩) ⟨(zg_pre hU).1, zg_recv hK hI h_1 rfl, (zg_pre hU).2⟩ rfl rfl hsz rfl (lv_room (Nat.le_of_ble_eq_true rfl)) zd_Search_reasonAgainst_155 hk) rfl ?_
  refine zg_2 (pc1 := 165) (pc2 := 161) (Classical.em _) (fun _ _ _ _ _ w1 w2 => lv_if_eq hx hb zd_Search_reasonAgainst_158 (by decide) w1 w2) (fun hc => ?_) (fun hc => ?_)
  · rw [if_pos hc] at hf
    refine zg_1 (pc' := 167) (fun _ _ _ _ _ hl w => lv_bipush (v := (9 : Int32)) hx hb zd_Search_reasonAgainst_165 (by decide) w) ?_
    obtain rfl := zx_r1 hf
    exact hret _ _ zd_Search_reasonAgainst_167
  · rw [if_neg hc] at hf
    refine zg_1 (pc' := 162) (fun _ _ _ _ _ hl w => lv_iconst (v := (0 : Int32)) hx hb zd_Search_reasonAgainst_161 (by decide) w) ?_
    refine zg_1 (pc' := 167) (fun _ _ _ _ _ hl w => lv_goto hx hb zd_Search_reasonAgainst_162 (by decide) w) ?_
    obtain rfl := zx_r1 hf
    exact hret _ _ zd_Search_reasonAgainst_167
set_option maxHeartbeats 4000000 in
theorem zw_Search_reasonAgainst_88 {p : Program} {l : Launch} {e : Env} {R : Room} {s : State} {m : MethodId} {args : Array Value} {below : List Frame} {meth : Method} {c : Code} {Q : State → Prop} {h0 : Nat} {D : va_G} {dA : Nat → ClassId} {tb : Nat → Nat} {c0 k0 : Nat} {s0 : zh_S} {r : Int32} (X : zg_X p s m args meth c ze_Search_reasonAgainst 5 zr_Search (some .int) h0 D dA tb) (hR : zg_R R c0 k0 s0) (hF : 2 ≤ R.frames ∧ 53 ≤ R.locals) (hret : ∀ (pc : Nat) (lv : List (Nat × Value)), decode ze_Search_reasonAgainst pc = .ok (.ireturn, 1) → zg_G p l e R s m args below meth c Q h0 D dA 5 c0 k0 s0 s0 pc lv [.int r]) (n : Nat) : ∀ (a0 : Nat) (i1 : Int32) (i2 : Int32) (a3 : Nat), zb_Search_reasonAgainst_88 n s0 a0 i1 i2 a3 = some r → zg_G p l e R s m args below meth c Q h0 D dA 5 c0 k0 s0 s0 88 [(0, .ref (h0 + a0)), (1, .int i1), (2, .int i2), (3, .ref (h0 + a3))] [] := by
  obtain ⟨hx, hb, hml, hown, htT, hrt, hlk, x00, hIn⟩ := id X
  have hK := hIn.2.1
  have hT := hIn.2.2.1
  have hNe := hIn.2.2.2
  intro a0 i1 i2 a3 hf
  rw [zb_Search_reasonAgainst_88] at hf
  refine zg_1 (pc' := 89) (fun _ _ _ _ _ hl w => lv_aload_n hx hb zd_Search_reasonAgainst_88 rfl (lv_at hl 0 rfl) w) ?_
  refine zg_1 (pc' := 90) (fun _ _ _ _ _ hl w => lv_iload_n hx hb zd_Search_reasonAgainst_89 rfl (lv_at hl 1 rfl) w) ?_
  refine zg_1 (pc' := 91) (fun _ _ _ _ _ hl w => lv_iload_n hx hb zd_Search_reasonAgainst_90 rfl (lv_at hl 2 rfl) w) ?_
  obtain ⟨h_1, hf⟩ := zx_ck hf
  obtain ⟨i_2, hq, hf⟩ := zx_p hf
  refine zg_call (pc' := 94) (y := s0) (rv := (some (.int i_2))) (rest := []) X hR ⟨Nat.le_refl _, Nat.le_refl _⟩ (fun H locs ls k j hsz hI hU hk => va_runV (As := [.int i1, .int i2]) (rest := []) ⟨hx, hb, hml, hown, htT⟩ (zc_Search_isInRealms l h0 D dA tb n hq) (cwV 2 htT (zw_gV zt_731 zt_733 zt_26 zt_76 zt_734) rfl rfl rfl (by decide +kernel) ⟨Nat.le_trans (Nat.le_of_ble_eq_true rfl) hF.1, Nat.le_trans (Nat.le_of_ble_eq_true rfl) hF.2⟩) ⟨(zg_pre hU).1, zg_recv hK hI h_1 rfl, (zg_pre hU).2⟩ rfl rfl hsz rfl (lv_room (Nat.le_of_ble_eq_true rfl)) zd_Search_reasonAgainst_91 hk) rfl ?_
  refine zg_2 (pc1 := 99) (pc2 := 97) (Classical.em _).symm (fun _ _ _ _ _ w1 w2 => lv_if_ne hx hb zd_Search_reasonAgainst_94 (by decide) w1 w2) (fun hc => ?_) (fun hc => ?_)
  · rw [if_neg hc] at hf
    refine zg_1 (pc' := 100) (fun _ _ _ _ _ hl w => lv_aload_n hx hb zd_Search_reasonAgainst_99 rfl (lv_at hl 3 rfl) w) ?_
    obtain ⟨h_3, hf⟩ := zx_ck hf
    refine zg_get (pc' := 103) (ci := 0) hx hb htT zi_Certificate hown hK h_3 rfl rfl 17 (by decide) (htT _ zt_177) (fun _ h9 => h9) rfl zd_Search_reasonAgainst_100 rfl ?_
    refine zg_2 (pc1 := 109) (pc2 := 106) (Classical.em _) (fun _ _ _ _ _ w1 w2 => lv_if_eq hx hb zd_Search_reasonAgainst_103 (by decide) w1 w2) (fun hc => ?_) (fun hc => ?_)
    · rw [if_pos hc] at hf
      refine zg_1 (pc' := 110) (fun _ _ _ _ _ hl w => lv_iload_n hx hb zd_Search_reasonAgainst_109 rfl (lv_at hl 1 rfl) w) ?_
      refine zg_2 (pc1 := 115) (pc2 := 113) (Classical.em _).symm (fun _ _ _ _ _ w1 w2 => lv_if_ne hx hb zd_Search_reasonAgainst_110 (by decide) w1 w2) (fun hc => ?_) (fun hc => ?_)
      · rw [if_neg hc] at hf
        refine zg_1 (pc' := 116) (fun _ _ _ _ _ hl w => lv_aload_n hx hb zd_Search_reasonAgainst_115 rfl (lv_at hl 3 rfl) w) ?_
        refine zg_get (pc' := 119) (ci := 0) hx hb htT zi_Certificate hown hK h_3 rfl rfl 16 (by decide) (htT _ zt_174) (fun _ h9 => h9) rfl zd_Search_reasonAgainst_116 rfl ?_
        refine zg_2 (pc1 := 125) (pc2 := 122) (Classical.em _).symm (fun _ _ _ _ _ w1 w2 => lv_if_ne hx hb zd_Search_reasonAgainst_119 (by decide) w1 w2) (fun hc => ?_) (fun hc => ?_)
        · rw [if_neg hc] at hf
          refine zg_1 (pc' := 126) (fun _ _ _ _ _ hl w => lv_aload_n hx hb zd_Search_reasonAgainst_125 rfl (lv_at hl 3 rfl) w) ?_
          refine zg_get (pc' := 129) (ci := 0) hx hb htT zi_Certificate hown hK h_3 rfl rfl 10 (by decide) (htT _ zt_159) (fun _ h9 => h9) rfl zd_Search_reasonAgainst_126 rfl ?_
          refine zg_1 (pc' := 132) (fun _ _ _ _ _ hl w => lv_ldc2 (v := (-1 : Int64)) hx hb hown (htT _ zt_739) zd_Search_reasonAgainst_129 w) ?_
          refine zg_1 (pc' := 133) (fun _ _ _ _ _ hl w => W.lcmp hx hb zd_Search_reasonAgainst_132 w) ?_
          refine zg_2 (pc1 := 153) (pc2 := 136) (Classical.em _) (fun _ _ _ _ _ w1 w2 => lv_if_eq hx hb zd_Search_reasonAgainst_133 (by decide) w1 w2) (fun hc => ?_) (fun hc => ?_)
          · rw [if_pos hc] at hf
            refine zg_v [3] rfl ?_
            exact zw_Search_reasonAgainst_153 X hR hF hret n a3 hf
          · rw [if_neg hc] at hf
            refine zg_1 (pc' := 137) (fun _ _ _ _ _ hl w => lv_aload_n hx hb zd_Search_reasonAgainst_136 rfl (lv_at hl 0 rfl) w) ?_
            refine zg_1 (pc' := 138) (fun _ _ _ _ _ hl w => lv_iload_n hx hb zd_Search_reasonAgainst_137 rfl (lv_at hl 1 rfl) w) ?_
            obtain ⟨i_4, hq, hf⟩ := zx_p hf
            refine zg_call (pc' := 141) (y := s0) (rv := (some (.int i_4))) (rest := []) X hR ⟨Nat.le_refl _, Nat.le_refl _⟩ (fun H locs ls k j hsz hI hU hk => va_runV (As := [.int i1]) (rest := []) ⟨hx, hb, hml, hown, htT⟩ (zc_Search_countBefore l h0 D dA tb n hq) (cwV 1 htT (zw_gV zt_740 zt_742 zt_27 zt_76 zt_743) rfl rfl rfl (by decide +kernel) ⟨Nat.le_trans (Nat.le_of_ble_eq_true rfl) hF.1, Nat.le_trans (Nat.le_of_ble_eq_true rfl) hF.2⟩) ⟨(zg_pre hU).1, zg_recv hK hI h_1 rfl, (zg_pre hU).2⟩ rfl rfl hsz rfl (lv_room (Nat.le_of_ble_eq_true rfl)) zd_Search_reasonAgainst_138 hk) rfl ?_
            refine zg_1 (pc' := 142) (fun _ _ _ _ _ hl w => lv_i2l (v := i_4.toInt64) hx hb zd_Search_reasonAgainst_141 rfl w) ?_
            refine zg_1 (pc' := 143) (fun _ _ _ _ _ hl w => lv_aload_n hx hb zd_Search_reasonAgainst_142 rfl (lv_at hl 3 rfl) w) ?_
            refine zg_get (pc' := 146) (ci := 0) hx hb htT zi_Certificate hown hK h_3 rfl rfl 10 (by decide) (htT _ zt_159) (fun _ h9 => h9) rfl zd_Search_reasonAgainst_143 rfl ?_
            refine zg_1 (pc' := 147) (fun _ _ _ _ _ hl w => W.lcmp hx hb zd_Search_reasonAgainst_146 w) ?_
            refine zg_2 (pc1 := 153) (pc2 := 150) (Classical.em _) (fun _ _ _ _ _ w1 w2 => lv_if_le hx hb zd_Search_reasonAgainst_147 (by decide) w1 w2) (fun hc => ?_) (fun hc => ?_)
            · rw [if_pos hc] at hf
              refine zg_v [3] rfl ?_
              exact zw_Search_reasonAgainst_153 X hR hF hret n a3 hf
            · rw [if_neg hc] at hf
              refine zg_1 (pc' := 152) (fun _ _ _ _ _ hl w => lv_bipush (v := (8 : Int32)) hx hb zd_Search_reasonAgainst_150 (by decide) w) ?_
              obtain rfl := zx_r1 hf
              exact hret _ _ zd_Search_reasonAgainst_152
        · rw [if_pos hc] at hf
          refine zg_1 (pc' := 124) (fun _ _ _ _ _ hl w => lv_bipush (v := (7 : Int32)) hx hb zd_Search_reasonAgainst_122 (by decide) w) ?_
          obtain rfl := zx_r1 hf
          exact hret _ _ zd_Search_reasonAgainst_124
      · rw [if_pos hc] at hf
        refine zg_1 (pc' := 114) (fun _ _ _ _ _ hl w => lv_iconst (v := (0 : Int32)) hx hb zd_Search_reasonAgainst_113 (by decide) w) ?_
        obtain rfl := zx_r1 hf
        exact hret _ _ zd_Search_reasonAgainst_114
    · rw [if_neg hc] at hf
      refine zg_1 (pc' := 108) (fun _ _ _ _ _ hl w => lv_bipush (v := (6 : Int32)) hx hb zd_Search_reasonAgainst_106 (by decide) w) ?_
      obtain rfl := zx_r1 hf
      exact hret _ _ zd_Search_reasonAgainst_108
  · rw [if_pos hc] at hf
    refine zg_1 (pc' := 98) (fun _ _ _ _ _ hl w => lv_iconst (v := (5 : Int32)) hx hb zd_Search_reasonAgainst_97 (by decide) w) ?_
    obtain rfl := zx_r1 hf
    exact hret _ _ zd_Search_reasonAgainst_98
set_option maxHeartbeats 4000000 in
theorem zw_Search_reasonAgainst_74 {p : Program} {l : Launch} {e : Env} {R : Room} {s : State} {m : MethodId} {args : Array Value} {below : List Frame} {meth : Method} {c : Code} {Q : State → Prop} {h0 : Nat} {D : va_G} {dA : Nat → ClassId} {tb : Nat → Nat} {c0 k0 : Nat} {s0 : zh_S} {r : Int32} (X : zg_X p s m args meth c ze_Search_reasonAgainst 5 zr_Search (some .int) h0 D dA tb) (hR : zg_R R c0 k0 s0) (hF : 2 ≤ R.frames ∧ 53 ≤ R.locals) (hret : ∀ (pc : Nat) (lv : List (Nat × Value)), decode ze_Search_reasonAgainst pc = .ok (.ireturn, 1) → zg_G p l e R s m args below meth c Q h0 D dA 5 c0 k0 s0 s0 pc lv [.int r]) (n : Nat) : ∀ (a0 : Nat) (i1 : Int32) (i2 : Int32) (a3 : Nat) (o4 : Option Nat), zb_Search_reasonAgainst_74 n s0 a0 i1 i2 a3 o4 = some r → zg_G p l e R s m args below meth c Q h0 D dA 5 c0 k0 s0 s0 74 [(0, .ref (h0 + a0)), (1, .int i1), (2, .int i2), (3, .ref (h0 + a3)), (4, va_rf (o4.map (h0 + ·)))] [] := by
  obtain ⟨hx, hb, hml, hown, htT, hrt, hlk, x00, hIn⟩ := id X
  have hK := hIn.2.1
  have hT := hIn.2.2.1
  have hNe := hIn.2.2.2
  intro a0 i1 i2 a3 o4 hf
  rw [zb_Search_reasonAgainst_74] at hf
  have ho := zx_o hf
  clear hf
  rcases ho with ⟨eo, hf⟩ | ⟨a_1, eo, hf⟩
  · subst eo
    refine zg_1 (pc' := 76) (fun _ _ _ _ _ hl w => lv_aloadN hx hb zd_Search_reasonAgainst_74 (lv_at hl 4 rfl) w) ?_
    refine zg_1 (pc' := 79) (fun _ _ _ _ _ hl w => lv_ifnonnullN hx hb zd_Search_reasonAgainst_76 w) ?_
    refine zg_1 (pc' := 80) (fun _ _ _ _ _ hl w => lv_aload_n hx hb zd_Search_reasonAgainst_79 rfl (lv_at hl 0 rfl) w) ?_
    obtain ⟨h_2, hf⟩ := zx_ck hf
    refine zg_get (pc' := 83) (ci := 4) hx hb htT zi_Search hown hK h_2 rfl rfl 3 (by decide) (htT _ zt_658) (fun _ h9 => h9) rfl zd_Search_reasonAgainst_80 rfl ?_
    refine zg_2 (pc1 := 88) (pc2 := 86) (Classical.em _) (fun _ _ _ _ _ w1 w2 => lv_if_eq hx hb zd_Search_reasonAgainst_83 (by decide) w1 w2) (fun hc => ?_) (fun hc => ?_)
    · rw [if_pos hc] at hf
      refine zg_v [0, 1, 2, 3] rfl ?_
      exact zw_Search_reasonAgainst_88 X hR hF hret n a0 i1 i2 a3 hf
    · rw [if_neg hc] at hf
      refine zg_1 (pc' := 87) (fun _ _ _ _ _ hl w => lv_iconst (v := (4 : Int32)) hx hb zd_Search_reasonAgainst_86 (by decide) w) ?_
      obtain rfl := zx_r1 hf
      exact hret _ _ zd_Search_reasonAgainst_87
  · subst eo
    refine zg_1 (pc' := 76) (fun _ _ _ _ _ hl w => lv_aload hx hb zd_Search_reasonAgainst_74 (lv_at hl 4 rfl) w) ?_
    refine zg_1 (pc' := 88) (fun _ _ _ _ _ hl w => lv_ifnonnull hx hb zd_Search_reasonAgainst_76 (by decide) w) ?_
    refine zg_v [0, 1, 2, 3] rfl ?_
    exact zw_Search_reasonAgainst_88 X hR hF hret n a0 i1 i2 a3 hf
set_option maxHeartbeats 4000000 in
theorem zc_Search_reasonAgainst (l : Launch) (h0 : Nat) (D : va_G) (dA : Nat → ClassId) (tb : Nat → Nat) (n : Nat) {s0 : zh_S} {a0 : Nat} {i1 : Int32} {i2 : Int32} {r : Int32} (hf : zf_Search_reasonAgainst n s0 a0 i1 i2 = some r) : zc_M l zn_Search_reasonAgainst zs_Search_reasonAgainst 2 53 h0 D dA tb [.ref (h0 + a0), .int i1, .int i2] s0 (some (.int r)) s0 := by
  rw [zf_Search_reasonAgainst] at hf
  refine zc_of (cc := ze_Search_reasonAgainst) (maxL := 5) (ret := (some .int)) (lv := [(0, .ref (h0 + a0)), (1, .int i1), (2, .int i2)]) (by decide) rfl (Nat.le_of_ble_eq_true rfl) rfl ?_
  intro p e s m args below meth c X hnm
  obtain ⟨hx, hb, hml, hown, htT, hrt, hlk, x00, hIn⟩ := id X
  have hK := hIn.2.1
  have hT := hIn.2.2.1
  have hNe := hIn.2.2.2
  have hR : zg_R { frames := 2, cells := zh_N s0 - zh_N s0, slots := zh_M s0 - zh_M s0, locals := 53 } (zh_N s0) (zh_M s0) s0 := ⟨by show zh_N s0 ≤ zh_N s0 + (zh_N s0 - zh_N s0); omega, by show zh_M s0 ≤ zh_M s0 + (zh_M s0 - zh_M s0); omega⟩
  have hF : 2 ≤ ({ frames := 2, cells := zh_N s0 - zh_N s0, slots := zh_M s0 - zh_M s0, locals := 53 } : Room).frames ∧ 53 ≤ ({ frames := 2, cells := zh_N s0 - zh_N s0, slots := zh_M s0 - zh_M s0, locals := 53 } : Room).locals := ⟨Nat.le_refl _, Nat.le_refl _⟩
  have hret := fun (pc : Nat) (lv : List (Nat × Value)) (hd : decode ze_Search_reasonAgainst pc = .ok (.ireturn, 1)) => zg_iret (R := { frames := 2, cells := zh_N s0 - zh_N s0, slots := zh_M s0 - zh_M s0, locals := 53 }) (l := l) (e := e) (below := below) (c0 := zh_N s0) (s0 := zh_M s0) (z := s0) (lv := lv) (v := r) X rfl hd
  refine zg_1 (pc' := 1) (fun _ _ _ _ _ hl w => lv_aload_n hx hb zd_Search_reasonAgainst_0 rfl (lv_at hl 0 rfl) w) ?_
  refine zg_1 (pc' := 2) (fun _ _ _ _ _ hl w => lv_iload_n hx hb zd_Search_reasonAgainst_1 rfl (lv_at hl 1 rfl) w) ?_
  obtain ⟨h_1, hf⟩ := zx_ck hf
  obtain ⟨a_2, hq, hf⟩ := zx_p hf
  refine zg_call (pc' := 5) (y := s0) (rv := (some (.ref (h0 + a_2)))) (rest := []) X hR ⟨Nat.le_refl _, Nat.le_refl _⟩ (fun H locs ls k j hsz hI hU hk => va_runV (As := [.int i1]) (rest := []) ⟨hx, hb, hml, hown, htT⟩ (zc_Search_inPart l h0 D dA tb n hq) (cwV 1 htT (zw_gV zt_689 zt_691 zt_22 zt_76 zt_692) rfl rfl rfl (by decide +kernel) ⟨Nat.le_trans (Nat.le_of_ble_eq_true rfl) hF.1, Nat.le_trans (Nat.le_of_ble_eq_true rfl) hF.2⟩) ⟨(zg_pre hU).1, zg_recv hK hI h_1 rfl, (zg_pre hU).2⟩ rfl rfl hsz rfl (lv_room (Nat.le_of_ble_eq_true rfl)) zd_Search_reasonAgainst_2 hk) rfl ?_
  refine zg_s (pc' := 6) (lv' := [(3, .ref (h0 + a_2)), (0, .ref (h0 + a0)), (1, .int i1), (2, .int i2)]) (fun _ _ _ _ _ hl w => lv_astore_n hx hb zd_Search_reasonAgainst_5 rfl hl (by decide) rfl w) ?_
  refine zg_1 (pc' := 7) (fun _ _ _ _ _ hl w => lv_aload_n hx hb zd_Search_reasonAgainst_6 rfl (lv_at hl 0 rfl) w) ?_
  refine zg_1 (pc' := 8) (fun _ _ _ _ _ hl w => lv_aload_n hx hb zd_Search_reasonAgainst_7 rfl (lv_at hl 1 rfl) w) ?_
  obtain ⟨a_3, h_4, hf⟩ := zx_p hf
  refine zg_get (pc' := 11) (ci := 4) hx hb htT zi_Search hown hK h_1 rfl rfl 4 (by decide) (htT _ zt_659) (fun _ h9 => h9) (zx_hv h_4) zd_Search_reasonAgainst_8 rfl ?_
  refine zg_1 (pc' := 12) (fun _ _ _ _ _ hl w => lv_iload_n hx hb zd_Search_reasonAgainst_11 rfl (lv_at hl 2 rfl) w) ?_
  refine zg_1 (pc' := 13) (fun _ _ _ _ _ hl w => lv_iconst (v := (1 : Int32)) hx hb zd_Search_reasonAgainst_12 (by decide) w) ?_
  refine zg_1 (pc' := 14) (fun _ _ _ _ _ hl w => lv_iadd hx hb zd_Search_reasonAgainst_13 w) ?_
  obtain ⟨h_5, hf⟩ := zx_ck hf
  refine zg_iald (pc' := 15) hx hb hK h_5 zd_Search_reasonAgainst_14 rfl ?_
  obtain ⟨h_6, hf⟩ := zx_ck hf
  obtain ⟨i_7, hq, hf⟩ := zx_p hf
  refine zg_call (pc' := 18) (y := s0) (rv := (some (.int i_7))) (rest := []) X hR ⟨Nat.le_refl _, Nat.le_refl _⟩ (fun H locs ls k j hsz hI hU hk => va_runU (As := [.int (zh_I s0 a_3 ((i1 + (1 : Int32)).toNatClampNeg))]) (rest := []) ⟨hx, hb, hml, hown, htT⟩ (zc_Signed_isSignedBy_C l h0 D dA tb n hq) (va_cwU 1 htT (zw_gU zt_701 zt_702 zt_704 zt_705 zt_68 zt_706) rfl rfl rfl rfl (by decide +kernel) ⟨Nat.le_trans (Nat.le_of_ble_eq_true rfl) hF.1, Nat.le_trans (Nat.le_of_ble_eq_true rfl) hF.2⟩) ⟨(zg_pre hU).1, zg_recv hK hI h_6 rfl, (zg_pre hU).2⟩ rfl rfl hsz rfl (lv_room (Nat.le_of_ble_eq_true rfl)) zd_Search_reasonAgainst_15 hk) rfl ?_
  refine zg_2 (pc1 := 23) (pc2 := 21) (Classical.em _).symm (fun _ _ _ _ _ w1 w2 => lv_if_ne hx hb zd_Search_reasonAgainst_18 (by decide) w1 w2) (fun hc => ?_) (fun hc => ?_)
  · rw [if_neg hc] at hf
    refine zg_1 (pc' := 24) (fun _ _ _ _ _ hl w => lv_aload_n hx hb zd_Search_reasonAgainst_23 rfl (lv_at hl 0 rfl) w) ?_
    refine zg_1 (pc' := 25) (fun _ _ _ _ _ hl w => lv_aload_n hx hb zd_Search_reasonAgainst_24 rfl (lv_at hl 1 rfl) w) ?_
    refine zg_get (pc' := 28) (ci := 4) hx hb htT zi_Search hown hK h_1 rfl rfl 1 (by decide) (htT _ zt_656) (fun _ h9 => h9) rfl zd_Search_reasonAgainst_25 rfl ?_
    obtain ⟨i_8, hq, hf⟩ := zx_p hf
    refine zg_call (pc' := 31) (y := s0) (rv := (some (.int i_8))) (rest := []) X hR ⟨Nat.le_refl _, Nat.le_refl _⟩ (fun H locs ls k j hsz hI hU hk => va_runU (As := [.long (zh_J s0 a0 1)]) (rest := []) ⟨hx, hb, hml, hown, htT⟩ (zc_Signed_isTimely_C l h0 D dA tb n hq) (va_cwU 1 htT (zw_gU zt_707 zt_708 zt_710 zt_711 zt_68 zt_712) rfl rfl rfl rfl (by decide +kernel) ⟨Nat.le_trans (Nat.le_of_ble_eq_true rfl) hF.1, Nat.le_trans (Nat.le_of_ble_eq_true rfl) hF.2⟩) ⟨(zg_pre hU).1, zg_recv hK hI h_6 rfl, (zg_pre hU).2⟩ rfl rfl hsz rfl (lv_room (Nat.le_of_ble_eq_true rfl)) zd_Search_reasonAgainst_28 hk) rfl ?_
    refine zg_2 (pc1 := 36) (pc2 := 34) (Classical.em _).symm (fun _ _ _ _ _ w1 w2 => lv_if_ne hx hb zd_Search_reasonAgainst_31 (by decide) w1 w2) (fun hc => ?_) (fun hc => ?_)
    · rw [if_neg hc] at hf
      refine zg_1 (pc' := 37) (fun _ _ _ _ _ hl w => lv_aload_n hx hb zd_Search_reasonAgainst_36 rfl (lv_at hl 1 rfl) w) ?_
      refine zg_1 (pc' := 38) (fun _ _ _ _ _ hl w => lv_aload_n hx hb zd_Search_reasonAgainst_37 rfl (lv_at hl 0 rfl) w) ?_
      refine zg_1 (pc' := 39) (fun _ _ _ _ _ hl w => lv_aload_n hx hb zd_Search_reasonAgainst_38 rfl (lv_at hl 1 rfl) w) ?_
      obtain ⟨a_9, h_10, hf⟩ := zx_p hf
      refine zg_get (pc' := 42) (ci := 4) hx hb htT zi_Search hown hK h_1 rfl rfl 4 (by decide) (htT _ zt_659) (fun _ h9 => h9) (zx_hv h_10) zd_Search_reasonAgainst_39 rfl ?_
      refine zg_1 (pc' := 43) (fun _ _ _ _ _ hl w => lv_iload_n hx hb zd_Search_reasonAgainst_42 rfl (lv_at hl 2 rfl) w) ?_
      refine zg_1 (pc' := 44) (fun _ _ _ _ _ hl w => lv_iconst (v := (1 : Int32)) hx hb zd_Search_reasonAgainst_43 (by decide) w) ?_
      refine zg_1 (pc' := 45) (fun _ _ _ _ _ hl w => lv_iadd hx hb zd_Search_reasonAgainst_44 w) ?_
      obtain ⟨h_11, hf⟩ := zx_ck hf
      refine zg_iald (pc' := 46) hx hb hK h_11 zd_Search_reasonAgainst_45 rfl ?_
      obtain ⟨o_12, hq, hf⟩ := zx_p hf
      refine zg_call (pc' := 49) (y := s0) (rv := (some (va_rf (o_12.map (h0 + ·))))) (rest := []) X hR ⟨Nat.le_refl _, Nat.le_refl _⟩ (fun H locs ls k j hsz hI hU hk => va_runV (As := [.ref (h0 + a_2), .int (zh_I s0 a_9 ((i1 + (1 : Int32)).toNatClampNeg))]) (rest := []) ⟨hx, hb, hml, hown, htT⟩ (zc_Search_takeList l h0 D dA tb n hq) (cwV 2 htT (zw_gV zt_713 zt_715 zt_25 zt_76 zt_716) rfl rfl rfl (by decide +kernel) ⟨Nat.le_trans (Nat.le_of_ble_eq_true rfl) hF.1, Nat.le_trans (Nat.le_of_ble_eq_true rfl) hF.2⟩) ⟨(zg_pre hU).1, zg_recv hK hI h_1 rfl, (zg_pre hU).2⟩ rfl rfl hsz rfl (lv_room (Nat.le_of_ble_eq_true rfl)) zd_Search_reasonAgainst_46 hk) rfl ?_
      have ho := zx_o hf
      clear hf
      rcases ho with ⟨eo, hf⟩ | ⟨a_13, eo, hf⟩
      · subst eo
        refine zg_s (pc' := 51) (lv' := [(4, .null), (3, .ref (h0 + a_2)), (0, .ref (h0 + a0)), (1, .int i1), (2, .int i2)]) (fun _ _ _ _ _ hl w => lv_astoreN hx hb zd_Search_reasonAgainst_49 hl (by decide) rfl w) ?_
        refine zg_1 (pc' := 53) (fun _ _ _ _ _ hl w => lv_aloadN hx hb zd_Search_reasonAgainst_51 (lv_at hl 0 rfl) w) ?_
        refine zg_1 (pc' := 74) (fun _ _ _ _ _ hl w => lv_ifnullN hx hb zd_Search_reasonAgainst_53 (by decide) w) ?_
        refine zg_v [2, 3, 4, 1, 0] rfl ?_
        exact zw_Search_reasonAgainst_74 X hR hF hret n a0 i1 i2 a_2 none hf
      · subst eo
        refine zg_s (pc' := 51) (lv' := [(4, .ref (h0 + a_13)), (3, .ref (h0 + a_2)), (0, .ref (h0 + a0)), (1, .int i1), (2, .int i2)]) (fun _ _ _ _ _ hl w => lv_astore hx hb zd_Search_reasonAgainst_49 hl (by decide) rfl w) ?_
        refine zg_1 (pc' := 53) (fun _ _ _ _ _ hl w => lv_aload hx hb zd_Search_reasonAgainst_51 (lv_at hl 0 rfl) w) ?_
        refine zg_1 (pc' := 56) (fun _ _ _ _ _ hl w => lv_ifnull hx hb zd_Search_reasonAgainst_53 w) ?_
        refine zg_1 (pc' := 58) (fun _ _ _ _ _ hl w => lv_aload hx hb zd_Search_reasonAgainst_56 (lv_at hl 0 rfl) w) ?_
        refine zg_1 (pc' := 59) (fun _ _ _ _ _ hl w => lv_aload_n hx hb zd_Search_reasonAgainst_58 rfl (lv_at hl 1 rfl) w) ?_
        refine zg_get (pc' := 62) (ci := 0) hx hb htT zi_Certificate hown hK h_6 rfl rfl 6 (by decide) (htT _ zt_146) (fun _ h9 => h9) rfl zd_Search_reasonAgainst_59 rfl ?_
        refine zg_1 (pc' := 63) (fun _ _ _ _ _ hl w => lv_aload_n hx hb zd_Search_reasonAgainst_62 rfl (lv_at hl 2 rfl) w) ?_
        refine zg_get (pc' := 66) (ci := 4) hx hb htT zi_Search hown hK h_1 rfl rfl 1 (by decide) (htT _ zt_656) (fun _ h9 => h9) rfl zd_Search_reasonAgainst_63 rfl ?_
        obtain ⟨h_14, hf⟩ := zx_ck hf
        obtain ⟨i_15, hq, hf⟩ := zx_p hf
        refine zg_call (pc' := 69) (y := s0) (rv := (some (.int i_15))) (rest := []) X hR ⟨Nat.le_refl _, Nat.le_refl _⟩ (fun H locs ls k j hsz hI hU hk => va_runV (As := [.long (zh_J s0 a_2 6), .long (zh_J s0 a0 1)]) (rest := []) ⟨hx, hb, hml, hown, htT⟩ (zc_RevokedList_revokes l h0 D dA tb n hq) (cwV 2 htT (zw_gV zt_727 zt_728 zt_729 zt_70 zt_730) rfl rfl rfl (by decide +kernel) ⟨Nat.le_trans (Nat.le_of_ble_eq_true rfl) hF.1, Nat.le_trans (Nat.le_of_ble_eq_true rfl) hF.2⟩) ⟨(zg_pre hU).1, zg_recv hK hI h_14 rfl, (zg_pre hU).2⟩ rfl rfl hsz rfl (lv_room (Nat.le_of_ble_eq_true rfl)) zd_Search_reasonAgainst_66 hk) rfl ?_
        refine zg_2 (pc1 := 74) (pc2 := 72) (Classical.em _) (fun _ _ _ _ _ w1 w2 => lv_if_eq hx hb zd_Search_reasonAgainst_69 (by decide) w1 w2) (fun hc => ?_) (fun hc => ?_)
        · rw [if_pos hc] at hf
          refine zg_v [2, 3, 4, 1, 0] rfl ?_
          exact zw_Search_reasonAgainst_74 X hR hF hret n a0 i1 i2 a_2 (some a_13) hf
        · rw [if_neg hc] at hf
          refine zg_1 (pc' := 73) (fun _ _ _ _ _ hl w => lv_iconst (v := (3 : Int32)) hx hb zd_Search_reasonAgainst_72 (by decide) w) ?_
          obtain rfl := zx_r1 hf
          exact hret _ _ zd_Search_reasonAgainst_73
    · rw [if_pos hc] at hf
      refine zg_1 (pc' := 35) (fun _ _ _ _ _ hl w => lv_iconst (v := (2 : Int32)) hx hb zd_Search_reasonAgainst_34 (by decide) w) ?_
      obtain rfl := zx_r1 hf
      exact hret _ _ zd_Search_reasonAgainst_35
  · rw [if_pos hc] at hf
    refine zg_1 (pc' := 22) (fun _ _ _ _ _ hl w => lv_iconst (v := (1 : Int32)) hx hb zd_Search_reasonAgainst_21 (by decide) w) ?_
    obtain rfl := zx_r1 hf
    exact hret _ _ zd_Search_reasonAgainst_22
set_option maxHeartbeats 4000000 in
theorem zw_Search_tryCandidate_46 {p : Program} {l : Launch} {e : Env} {R : Room} {s : State} {m : MethodId} {args : Array Value} {below : List Frame} {meth : Method} {c : Code} {Q : State → Prop} {h0 : Nat} {D : va_G} {dA : Nat → ClassId} {tb : Nat → Nat} {c0 k0 : Nat} {z : zh_S} {r : Int32} (X : zg_X p s m args meth c ze_Search_tryCandidate 3 zr_Search (some .boolean) h0 D dA tb) (hR : zg_R R c0 k0 z) (hF : 3 ≤ R.frames ∧ 77 ≤ R.locals) (hret : (r = 0 ∨ r = 1) → ∀ (pc : Nat) (lv : List (Nat × Value)), decode ze_Search_tryCandidate pc = .ok (.ireturn, 1) → zg_G p l e R s m args below meth c Q h0 D dA 3 c0 k0 z z pc lv [.int r]) (n : Nat) : ∀ (s0 : zh_S) (a0 : Nat) (i1 : Int32), zb_Search_tryCandidate_46 n s0 a0 i1 = some (r, z) → zg_G p l e R s m args below meth c Q h0 D dA 3 c0 k0 z s0 46 [(0, .ref (h0 + a0)), (1, .int i1)] [] := by
  obtain ⟨hx, hb, hml, hown, htT, hrt, hlk, x00, hIn⟩ := id X
  have hK := hIn.2.1
  have hT := hIn.2.2.1
  have hNe := hIn.2.2.2
  intro s0 a0 i1 hf
  rw [zb_Search_tryCandidate_46] at hf
  refine zg_1 (pc' := 47) (fun _ _ _ _ _ hl w => lv_aload_n hx hb zd_Search_tryCandidate_46 rfl (lv_at hl 0 rfl) w) ?_
  obtain ⟨h_1, hf⟩ := zx_ck hf
  refine zg_get (pc' := 50) (ci := 4) hx hb htT zi_Search hown hK h_1 rfl rfl 6 (by decide) (htT _ zt_661) (fun _ h9 => h9) rfl zd_Search_tryCandidate_47 rfl ?_
  refine zg_2 (pc1 := 55) (pc2 := 53) (Classical.em _) (fun _ _ _ _ _ w1 w2 => lv_if_eq hx hb zd_Search_tryCandidate_50 (by decide) w1 w2) (fun hc => ?_) (fun hc => ?_)
  · rw [if_pos hc] at hf
    refine zg_1 (pc' := 56) (fun _ _ _ _ _ hl w => lv_aload_n hx hb zd_Search_tryCandidate_55 rfl (lv_at hl 0 rfl) w) ?_
    refine zg_1 (pc' := 57) (fun _ _ _ _ _ hl w => lv_iload_n hx hb zd_Search_tryCandidate_56 rfl (lv_at hl 1 rfl) w) ?_
    obtain ⟨s_2, e_s_2, hf⟩ := zx_l hf
    refine zg_putI (pc' := 60) (ci := 4) (ty := .int) hx hb htT zi_Search zy_Search zo_Search zj_Search hown hK h_1 rfl rfl 5 (by decide) (htT _ zt_660) (fun _ h9 => h9) (Or.inl rfl) (by decide +kernel) rfl rfl rfl e_s_2 zd_Search_tryCandidate_57 rfl ?_
    refine zg_1 (pc' := 61) (fun _ _ _ _ _ hl w => lv_iconst (v := (1 : Int32)) hx hb zd_Search_tryCandidate_60 (by decide) w) ?_
    obtain ⟨rfl, rfl⟩ := zx_r2 hf
    exact hret (Or.inr rfl) _ _ zd_Search_tryCandidate_61
  · rw [if_neg hc] at hf
    refine zg_1 (pc' := 54) (fun _ _ _ _ _ hl w => lv_iconst (v := (0 : Int32)) hx hb zd_Search_tryCandidate_53 (by decide) w) ?_
    obtain ⟨rfl, rfl⟩ := zx_r2 hf
    exact hret (Or.inl rfl) _ _ zd_Search_tryCandidate_54
set_option maxHeartbeats 4000000 in
theorem zw_Search_tryCandidate_19 {p : Program} {l : Launch} {e : Env} {R : Room} {s : State} {m : MethodId} {args : Array Value} {below : List Frame} {meth : Method} {c : Code} {Q : State → Prop} {h0 : Nat} {D : va_G} {dA : Nat → ClassId} {tb : Nat → Nat} {c0 k0 : Nat} {z : zh_S} {r : Int32} (X : zg_X p s m args meth c ze_Search_tryCandidate 3 zr_Search (some .boolean) h0 D dA tb) (hR : zg_R R c0 k0 z) (hF : 3 ≤ R.frames ∧ 77 ≤ R.locals) (hret : (r = 0 ∨ r = 1) → ∀ (pc : Nat) (lv : List (Nat × Value)), decode ze_Search_tryCandidate pc = .ok (.ireturn, 1) → zg_G p l e R s m args below meth c Q h0 D dA 3 c0 k0 z z pc lv [.int r]) (n : Nat) (k : Nat) : ∀ (s0 : zh_S) (a0 : Nat) (i1 : Int32) (i2 : Int32), zl_Search_tryCandidate_19 n k s0 a0 i1 i2 = some (r, z) → zg_G p l e R s m args below meth c Q h0 D dA 3 c0 k0 z s0 19 [(0, .ref (h0 + a0)), (1, .int i1), (2, .int i2)] [] := by
  obtain ⟨hx, hb, hml, hown, htT, hrt, hlk, x00, hIn⟩ := id X
  have hK := hIn.2.1
  have hT := hIn.2.2.1
  have hNe := hIn.2.2.2
  induction k with
  | zero => intro s0 a0 i1 i2 hf; cases hf
  | succ k ih =>
    intro s0 a0 i1 i2 hf
    rw [zl_Search_tryCandidate_19] at hf
    refine zg_1 (pc' := 20) (fun _ _ _ _ _ hl w => lv_iload_n hx hb zd_Search_tryCandidate_19 rfl (lv_at hl 2 rfl) w) ?_
    refine zg_2 (pc1 := 46) (pc2 := 23) (Classical.em _) (fun _ _ _ _ _ w1 w2 => lv_if_lt hx hb zd_Search_tryCandidate_20 (by decide) w1 w2) (fun hc => ?_) (fun hc => ?_)
    · rw [if_pos hc] at hf
      refine zg_v [0, 1] rfl ?_
      exact zw_Search_tryCandidate_46 X hR hF hret n s0 a0 i1 hf
    · rw [if_neg hc] at hf
      refine zg_1 (pc' := 24) (fun _ _ _ _ _ hl w => lv_aload_n hx hb zd_Search_tryCandidate_23 rfl (lv_at hl 0 rfl) w) ?_
      obtain ⟨h_1, hf⟩ := zx_ck hf
      refine zg_get (pc' := 27) (ci := 4) hx hb htT zi_Search hown hK h_1 rfl rfl 6 (by decide) (htT _ zt_661) (fun _ h9 => h9) rfl zd_Search_tryCandidate_24 rfl ?_
      refine zg_2 (pc1 := 46) (pc2 := 30) (Classical.em _).symm (fun _ _ _ _ _ w1 w2 => lv_if_ne hx hb zd_Search_tryCandidate_27 (by decide) w1 w2) (fun hc => ?_) (fun hc => ?_)
      · rw [if_neg hc] at hf
        refine zg_v [0, 1] rfl ?_
        exact zw_Search_tryCandidate_46 X hR hF hret n s0 a0 i1 hf
      · rw [if_pos hc] at hf
        refine zg_1 (pc' := 31) (fun _ _ _ _ _ hl w => lv_aload_n hx hb zd_Search_tryCandidate_30 rfl (lv_at hl 0 rfl) w) ?_
        refine zg_1 (pc' := 32) (fun _ _ _ _ _ hl w => lv_aload_n hx hb zd_Search_tryCandidate_31 rfl (lv_at hl 0 rfl) w) ?_
        refine zg_1 (pc' := 33) (fun _ _ _ _ _ hl w => lv_iload_n hx hb zd_Search_tryCandidate_32 rfl (lv_at hl 2 rfl) w) ?_
        refine zg_1 (pc' := 34) (fun _ _ _ _ _ hl w => lv_iload_n hx hb zd_Search_tryCandidate_33 rfl (lv_at hl 1 rfl) w) ?_
        obtain ⟨i_2, hq, hf⟩ := zx_p hf
        refine zg_call (pc' := 37) (y := s0) (rv := (some (.int i_2))) (rest := [.ref (h0 + a0)]) X hR ⟨Nat.le_refl _, Nat.le_refl _⟩ (fun H locs ls k j hsz hI hU hk => va_runV (As := [.int i2, .int i1]) (rest := [.ref (h0 + a0)]) ⟨hx, hb, hml, hown, htT⟩ (zc_Search_reasonAgainst l h0 D dA tb n hq) (cwV 2 htT (zw_gV zt_697 zt_699 zt_24 zt_76 zt_700) rfl rfl rfl (by decide +kernel) ⟨Nat.le_trans (Nat.le_of_ble_eq_true rfl) hF.1, Nat.le_trans (Nat.le_of_ble_eq_true rfl) hF.2⟩) ⟨(zg_pre hU).1, zg_recv hK hI h_1 rfl, (zg_pre hU).2⟩ rfl rfl hsz rfl (lv_room (Nat.le_of_ble_eq_true rfl)) zd_Search_tryCandidate_34 hk) rfl ?_
        obtain ⟨s_3, e_s_3, hf⟩ := zx_l hf
        refine zg_putI (pc' := 40) (ci := 4) (ty := .int) hx hb htT zi_Search zy_Search zo_Search zj_Search hown hK h_1 rfl rfl 6 (by decide) (htT _ zt_661) (fun _ h9 => h9) (Or.inl rfl) (by decide +kernel) rfl rfl rfl e_s_3 zd_Search_tryCandidate_37 rfl ?_
        obtain ⟨i_4, e_i_4, hf⟩ := zx_l hf
        refine zg_s (pc' := 43) (lv' := [(2, .int i_4), (0, .ref (h0 + a0)), (1, .int i1)]) (fun _ _ _ _ _ hl w => lv_iinc (k := 2) (v := i_4) hx hb zd_Search_tryCandidate_40 hl rfl (by rw [e_i_4]; rfl) (by decide) rfl w) ?_
        refine zg_1 (pc' := 19) (fun _ _ _ _ _ hl w => lv_goto hx hb zd_Search_tryCandidate_43 (by decide) w) ?_
        refine zg_v [1, 2, 0] rfl ?_
        exact ih s_3 a0 i1 i_4 hf
set_option maxHeartbeats 4000000 in
theorem zc_Search_tryCandidate (l : Launch) (h0 : Nat) (D : va_G) (dA : Nat → ClassId) (tb : Nat → Nat) (n : Nat) {s0 : zh_S} {a0 : Nat} {i1 : Int32} {r : Int32} {z : zh_S} (hf : zf_Search_tryCandidate n s0 a0 i1 = some (r, z)) : zc_M l zn_Search_tryCandidate zs_Search_tryCandidate 3 77 h0 D dA tb [.ref (h0 + a0), .int i1] s0 (some (.int r)) z := by
  rw [zf_Search_tryCandidate] at hf
  refine zc_of (cc := ze_Search_tryCandidate) (maxL := 3) (ret := (some .boolean)) (lv := [(0, .ref (h0 + a0)), (1, .int i1)]) (by decide) rfl (Nat.le_of_ble_eq_true rfl) rfl ?_
  intro p e s m args below meth c X hnm
  obtain ⟨hx, hb, hml, hown, htT, hrt, hlk, x00, hIn⟩ := id X
  have hK := hIn.2.1
  have hT := hIn.2.2.1
  have hNe := hIn.2.2.2
  have hR : zg_R { frames := 3, cells := zh_N z - zh_N s0, slots := zh_M z - zh_M s0, locals := 77 } (zh_N s0) (zh_M s0) z := ⟨by show zh_N z ≤ zh_N s0 + (zh_N z - zh_N s0); omega, by show zh_M z ≤ zh_M s0 + (zh_M z - zh_M s0); omega⟩
  have hF : 3 ≤ ({ frames := 3, cells := zh_N z - zh_N s0, slots := zh_M z - zh_M s0, locals := 77 } : Room).frames ∧ 77 ≤ ({ frames := 3, cells := zh_N z - zh_N s0, slots := zh_M z - zh_M s0, locals := 77 } : Room).locals := ⟨Nat.le_refl _, Nat.le_refl _⟩
  have hret := fun (hz : r = 0 ∨ r = 1) (pc : Nat) (lv : List (Nat × Value)) (hd : decode ze_Search_tryCandidate pc = .ok (.ireturn, 1)) => zg_iret (R := { frames := 3, cells := zh_N z - zh_N s0, slots := zh_M z - zh_M s0, locals := 77 }) (l := l) (e := e) (below := below) (c0 := zh_N s0) (s0 := zh_M s0) (z := z) (lv := lv) (v := r) X (zx_nz hz) hd
  refine zg_1 (pc' := 1) (fun _ _ _ _ _ hl w => lv_aload_n hx hb zd_Search_tryCandidate_0 rfl (lv_at hl 0 rfl) w) ?_
  refine zg_1 (pc' := 2) (fun _ _ _ _ _ hl w => lv_dup hx hb zd_Search_tryCandidate_1 rfl w) ?_
  obtain ⟨h_1, hf⟩ := zx_ck hf
  refine zg_get (pc' := 5) (ci := 4) hx hb htT zi_Search hown hK h_1 rfl rfl 7 (by decide) (htT _ zt_662) (fun _ h9 => h9) rfl zd_Search_tryCandidate_2 rfl ?_
  refine zg_1 (pc' := 6) (fun _ _ _ _ _ hl w => lv_iconst (v := (1 : Int32)) hx hb zd_Search_tryCandidate_5 (by decide) w) ?_
  refine zg_1 (pc' := 7) (fun _ _ _ _ _ hl w => lv_iadd hx hb zd_Search_tryCandidate_6 w) ?_
  obtain ⟨s_2, e_s_2, hf⟩ := zx_l hf
  refine zg_putI (pc' := 10) (ci := 4) (ty := .int) hx hb htT zi_Search zy_Search zo_Search zj_Search hown hK h_1 rfl rfl 7 (by decide) (htT _ zt_662) (fun _ h9 => h9) (Or.inl rfl) (by decide +kernel) rfl rfl rfl e_s_2 zd_Search_tryCandidate_7 rfl ?_
  refine zg_1 (pc' := 11) (fun _ _ _ _ _ hl w => lv_aload_n hx hb zd_Search_tryCandidate_10 rfl (lv_at hl 0 rfl) w) ?_
  refine zg_1 (pc' := 12) (fun _ _ _ _ _ hl w => lv_iconst (v := (0 : Int32)) hx hb zd_Search_tryCandidate_11 (by decide) w) ?_
  obtain ⟨s_3, e_s_3, hf⟩ := zx_l hf
  refine zg_putI (pc' := 15) (ci := 4) (ty := .int) hx hb htT zi_Search zy_Search zo_Search zj_Search hown hK (zx_oI e_s_2 h_1) rfl rfl 6 (by decide) (htT _ zt_661) (fun _ h9 => h9) (Or.inl rfl) (by decide +kernel) rfl rfl rfl e_s_3 zd_Search_tryCandidate_12 rfl ?_
  refine zg_1 (pc' := 16) (fun _ _ _ _ _ hl w => lv_iload_n hx hb zd_Search_tryCandidate_15 rfl (lv_at hl 1 rfl) w) ?_
  refine zg_1 (pc' := 17) (fun _ _ _ _ _ hl w => lv_iconst (v := (2 : Int32)) hx hb zd_Search_tryCandidate_16 (by decide) w) ?_
  refine zg_1 (pc' := 18) (fun _ _ _ _ _ hl w => lv_isub hx hb zd_Search_tryCandidate_17 w) ?_
  obtain ⟨i_4, e_i_4, hf⟩ := zx_l hf
  refine zg_ti e_i_4 ?_
  refine zg_s (pc' := 19) (lv' := [(2, .int i_4), (0, .ref (h0 + a0)), (1, .int i1)]) (fun _ _ _ _ _ hl w => lv_istore_n hx hb zd_Search_tryCandidate_18 rfl hl (by decide) rfl w) ?_
  refine zg_v [1, 2, 0] rfl ?_
  exact zw_Search_tryCandidate_19 X hR hF hret n n s_3 a0 i1 i_4 hf
set_option maxHeartbeats 4000000 in
theorem zc_Search_goOn (l : Launch) (h0 : Nat) (D : va_G) (dA : Nat → ClassId) (tb : Nat → Nat) (n : Nat) : ∀ (d : Nat) {s0 : zh_S} {a0 : Nat} {i1 : Int32} {r : Int32} {z : zh_S}, zf_Search_goOn n d s0 a0 i1 = some (r, z) → zc_M l zn_Search_goOn zs_Search_goOn (4 + 2 * d) (99 + 47 * d) h0 D dA tb [.ref (h0 + a0), .int i1] s0 (some (.int r)) z := by
  intro d
  induction d with
  | zero => intro s0 a0 i1 r z hf; cases hf
  | succ d ihd =>
  intro s0 a0 i1 r z hf
  rw [zf_Search_goOn] at hf
  obtain ⟨g, e_g, hf⟩ := zx_l hf
  have hg : ∀ (s0 : zh_S) (a0 : Nat) (i1 r : Int32) (z : zh_S), g s0 a0 i1 = some (r, z) → zc_M l zn_Search_goOn zs_Search_goOn (4 + 2 * d) (99 + 47 * d) h0 D dA tb [.ref (h0 + a0), .int i1] s0 (some (.int r)) z := fun s0 a0 i1 r z h => ihd (by rw [e_g] at h; exact h)
  have hgm : ∀ (s0 : zh_S) (a0 : Nat) (i1 r : Int32) (z : zh_S), g s0 a0 i1 = some (r, z) → zh_N s0 ≤ zh_N z ∧ zh_M s0 ≤ zh_M z := fun s0 a0 i1 r z h => zm_Search_goOn d (by rw [e_g] at h; exact h)
  refine zc_of (cc := ze_Search_goOn) (maxL := 2) (ret := (some .boolean)) (lv := [(0, .ref (h0 + a0)), (1, .int i1)]) (by decide) rfl (Nat.le_of_ble_eq_true rfl) rfl ?_
  intro p e s m args below meth c X hnm
  obtain ⟨hx, hb, hml, hown, htT, hrt, hlk, x00, hIn⟩ := id X
  have hK := hIn.2.1
  have hT := hIn.2.2.1
  have hNe := hIn.2.2.2
  have hR : zg_R { frames := 4 + 2 * (d + 1), cells := zh_N z - zh_N s0, slots := zh_M z - zh_M s0, locals := 99 + 47 * (d + 1) } (zh_N s0) (zh_M s0) z := ⟨by show zh_N z ≤ zh_N s0 + (zh_N z - zh_N s0); omega, by show zh_M z ≤ zh_M s0 + (zh_M z - zh_M s0); omega⟩
  have hF : 4 + 2 * (d + 1) ≤ ({ frames := 4 + 2 * (d + 1), cells := zh_N z - zh_N s0, slots := zh_M z - zh_M s0, locals := 99 + 47 * (d + 1) } : Room).frames ∧ 99 + 47 * (d + 1) ≤ ({ frames := 4 + 2 * (d + 1), cells := zh_N z - zh_N s0, slots := zh_M z - zh_M s0, locals := 99 + 47 * (d + 1) } : Room).locals := ⟨Nat.le_refl _, Nat.le_refl _⟩
  have hret := fun (hz : r = 0 ∨ r = 1) (pc : Nat) (lv : List (Nat × Value)) (hd : decode ze_Search_goOn pc = .ok (.ireturn, 1)) => zg_iret (R := { frames := 4 + 2 * (d + 1), cells := zh_N z - zh_N s0, slots := zh_M z - zh_M s0, locals := 99 + 47 * (d + 1) }) (l := l) (e := e) (below := below) (c0 := zh_N s0) (s0 := zh_M s0) (z := z) (lv := lv) (v := r) X (zx_nz hz) hd
  refine zg_1 (pc' := 1) (fun _ _ _ _ _ hl w => lv_aload_n hx hb zd_Search_goOn_0 rfl (lv_at hl 0 rfl) w) ?_
  refine zg_1 (pc' := 2) (fun _ _ _ _ _ hl w => lv_iload_n hx hb zd_Search_goOn_1 rfl (lv_at hl 1 rfl) w) ?_
  refine zg_1 (pc' := 3) (fun _ _ _ _ _ hl w => lv_iconst (v := (1 : Int32)) hx hb zd_Search_goOn_2 (by decide) w) ?_
  refine zg_1 (pc' := 4) (fun _ _ _ _ _ hl w => lv_isub hx hb zd_Search_goOn_3 w) ?_
  obtain ⟨h_1, hf⟩ := zx_ck hf
  obtain ⟨a_2, hq, hf⟩ := zx_p hf
  refine zg_call (pc' := 7) (y := s0) (rv := (some (.ref (h0 + a_2)))) (rest := []) X hR ⟨Nat.le_refl _, Nat.le_refl _⟩ (fun H locs ls k j hsz hI hU hk => va_runV (As := [.int (i1 - (1 : Int32))]) (rest := []) ⟨hx, hb, hml, hown, htT⟩ (zc_Search_inPart l h0 D dA tb n hq) (cwV 1 htT (zw_gV zt_689 zt_691 zt_22 zt_76 zt_692) rfl rfl rfl (by decide +kernel) ⟨Nat.le_trans (by (try dsimp only); omega) hF.1, Nat.le_trans (by (try dsimp only); omega) hF.2⟩) ⟨(zg_pre hU).1, zg_recv hK hI h_1 rfl, (zg_pre hU).2⟩ rfl rfl hsz rfl (lv_room (Nat.le_of_ble_eq_true rfl)) zd_Search_goOn_4 hk) rfl ?_
  obtain ⟨h_3, hf⟩ := zx_ck hf
  refine zg_get (pc' := 10) (ci := 0) hx hb htT zi_Certificate hown hK h_3 rfl rfl 18 (by decide) (htT _ zt_178) (fun _ h9 => h9) rfl zd_Search_goOn_7 rfl ?_
  refine zg_2 (pc1 := 19) (pc2 := 13) (Classical.em _) (fun _ _ _ _ _ w1 w2 => lv_if_eq hx hb zd_Search_goOn_10 (by decide) w1 w2) (fun hc => ?_) (fun hc => ?_)
  · rw [if_pos hc] at hf
    refine zg_1 (pc' := 20) (fun _ _ _ _ _ hl w => lv_iload_n hx hb zd_Search_goOn_19 rfl (lv_at hl 1 rfl) w) ?_
    refine zg_1 (pc' := 21) (fun _ _ _ _ _ hl w => lv_aload_n hx hb zd_Search_goOn_20 rfl (lv_at hl 0 rfl) w) ?_
    refine zg_get (pc' := 24) (ci := 4) hx hb htT zi_Search hown hK h_1 rfl rfl 2 (by decide) (htT _ zt_657) (fun _ h9 => h9) rfl zd_Search_goOn_21 rfl ?_
    refine zg_2 (pc1 := 49) (pc2 := 27) (Classical.em _) (fun _ _ _ _ _ w1 w2 => lv_icmp_ge hx hb zd_Search_goOn_24 (by decide) w1 w2) (fun hc => ?_) (fun hc => ?_)
    · rw [if_pos hc] at hf
      refine zg_1 (pc' := 50) (fun _ _ _ _ _ hl w => lv_iconst (v := (0 : Int32)) hx hb zd_Search_goOn_49 (by decide) w) ?_
      obtain ⟨rfl, rfl⟩ := zx_r2 hf
      exact hret (Or.inl rfl) _ _ zd_Search_goOn_50
    · rw [if_neg hc] at hf
      refine zg_1 (pc' := 28) (fun _ _ _ _ _ hl w => lv_aload_n hx hb zd_Search_goOn_27 rfl (lv_at hl 0 rfl) w) ?_
      refine zg_1 (pc' := 29) (fun _ _ _ _ _ hl w => lv_iload_n hx hb zd_Search_goOn_28 rfl (lv_at hl 1 rfl) w) ?_
      refine zg_1 (pc' := 30) (fun _ _ _ _ _ hl w => lv_iconst (v := (1 : Int32)) hx hb zd_Search_goOn_29 (by decide) w) ?_
      obtain ⟨i_5, s_4, hq, hf⟩ := zx_b hf
      refine zg_call (pc' := 33) (y := s_4) (rv := (some (.int i_5))) (rest := []) X hR (zm_Search_goThrough hgm hq) (fun H locs ls k j hsz hI hU hk => va_runV (As := [.int i1, .int (1 : Int32)]) (rest := []) ⟨hx, hb, hml, hown, htT⟩ (zc_Search_goThrough l h0 D dA tb n d g hg hgm hq) (cwV 2 htT (zw_gV zt_748 zt_750 zt_28 zt_76 zt_751) rfl rfl rfl (by decide +kernel) ⟨Nat.le_trans (by (try dsimp only); omega) hF.1, Nat.le_trans (by (try dsimp only); omega) hF.2⟩) ⟨(zg_pre hU).1, zg_recv hK hI h_1 rfl, (zg_pre hU).2⟩ rfl rfl hsz rfl (lv_room (Nat.le_of_ble_eq_true rfl)) zd_Search_goOn_30 hk) rfl ?_
      refine zg_2 (pc1 := 45) (pc2 := 36) (Classical.em _).symm (fun _ _ _ _ _ w1 w2 => lv_if_ne hx hb zd_Search_goOn_33 (by decide) w1 w2) (fun hc => ?_) (fun hc => ?_)
      · rw [if_neg hc] at hf
        refine zg_1 (pc' := 46) (fun _ _ _ _ _ hl w => lv_iconst (v := (1 : Int32)) hx hb zd_Search_goOn_45 (by decide) w) ?_
        refine zg_1 (pc' := 50) (fun _ _ _ _ _ hl w => lv_goto hx hb zd_Search_goOn_46 (by decide) w) ?_
        obtain ⟨rfl, rfl⟩ := zx_r2 hf
        exact hret (Or.inr rfl) _ _ zd_Search_goOn_50
      · rw [if_pos hc] at hf
        refine zg_1 (pc' := 37) (fun _ _ _ _ _ hl w => lv_aload_n hx hb zd_Search_goOn_36 rfl (lv_at hl 0 rfl) w) ?_
        refine zg_1 (pc' := 38) (fun _ _ _ _ _ hl w => lv_iload_n hx hb zd_Search_goOn_37 rfl (lv_at hl 1 rfl) w) ?_
        refine zg_1 (pc' := 39) (fun _ _ _ _ _ hl w => lv_iconst (v := (0 : Int32)) hx hb zd_Search_goOn_38 (by decide) w) ?_
        obtain ⟨h_7, hf⟩ := zx_ck hf
        obtain ⟨i_8, s_6, hq, hf⟩ := zx_b hf
        refine zg_call (pc' := 42) (y := s_6) (rv := (some (.int i_8))) (rest := []) X hR (zm_Search_goThrough hgm hq) (fun H locs ls k j hsz hI hU hk => va_runV (As := [.int i1, .int (0 : Int32)]) (rest := []) ⟨hx, hb, hml, hown, htT⟩ (zc_Search_goThrough l h0 D dA tb n d g hg hgm hq) (cwV 2 htT (zw_gV zt_748 zt_750 zt_28 zt_76 zt_751) rfl rfl rfl (by decide +kernel) ⟨Nat.le_trans (by (try dsimp only); omega) hF.1, Nat.le_trans (by (try dsimp only); omega) hF.2⟩) ⟨(zg_pre hU).1, zg_recv hK hI h_7 rfl, (zg_pre hU).2⟩ rfl rfl hsz rfl (lv_room (Nat.le_of_ble_eq_true rfl)) zd_Search_goOn_39 hk) rfl ?_
        refine zg_2 (pc1 := 49) (pc2 := 45) (Classical.em _) (fun _ _ _ _ _ w1 w2 => lv_if_eq hx hb zd_Search_goOn_42 (by decide) w1 w2) (fun hc => ?_) (fun hc => ?_)
        · rw [if_pos hc] at hf
          refine zg_1 (pc' := 50) (fun _ _ _ _ _ hl w => lv_iconst (v := (0 : Int32)) hx hb zd_Search_goOn_49 (by decide) w) ?_
          obtain ⟨rfl, rfl⟩ := zx_r2 hf
          exact hret (Or.inl rfl) _ _ zd_Search_goOn_50
        · rw [if_neg hc] at hf
          refine zg_1 (pc' := 46) (fun _ _ _ _ _ hl w => lv_iconst (v := (1 : Int32)) hx hb zd_Search_goOn_45 (by decide) w) ?_
          refine zg_1 (pc' := 50) (fun _ _ _ _ _ hl w => lv_goto hx hb zd_Search_goOn_46 (by decide) w) ?_
          obtain ⟨rfl, rfl⟩ := zx_r2 hf
          exact hret (Or.inr rfl) _ _ zd_Search_goOn_50
  · rw [if_neg hc] at hf
    refine zg_1 (pc' := 14) (fun _ _ _ _ _ hl w => lv_aload_n hx hb zd_Search_goOn_13 rfl (lv_at hl 0 rfl) w) ?_
    refine zg_1 (pc' := 15) (fun _ _ _ _ _ hl w => lv_iload_n hx hb zd_Search_goOn_14 rfl (lv_at hl 1 rfl) w) ?_
    obtain ⟨i_10, s_9, hq, hf⟩ := zx_b hf
    refine zg_call (pc' := 18) (y := s_9) (rv := (some (.int i_10))) (rest := []) X hR (zm_Search_tryCandidate hq) (fun H locs ls k j hsz hI hU hk => va_runV (As := [.int i1]) (rest := []) ⟨hx, hb, hml, hown, htT⟩ (zc_Search_tryCandidate l h0 D dA tb n hq) (cwV 1 htT (zw_gV zt_693 zt_695 zt_23 zt_76 zt_696) rfl rfl rfl (by decide +kernel) ⟨Nat.le_trans (by (try dsimp only); omega) hF.1, Nat.le_trans (by (try dsimp only); omega) hF.2⟩) ⟨(zg_pre hU).1, zg_recv hK hI h_1 rfl, (zg_pre hU).2⟩ rfl rfl hsz rfl (lv_room (Nat.le_of_ble_eq_true rfl)) zd_Search_goOn_15 hk) rfl ?_
    obtain ⟨h_11, hf⟩ := zx_ck hf
    obtain ⟨rfl, rfl⟩ := zx_r2 hf
    exact hret h_11 _ _ zd_Search_goOn_18
set_option maxHeartbeats 4000000 in
theorem zc_Search_lookFor (l : Launch) (h0 : Nat) (D : va_G) (dA : Nat → ClassId) (tb : Nat → Nat) (n : Nat) {s0 : zh_S} {a0 : Nat} {i1 : Int32} {r : Int32} {z : zh_S} (hf : zf_Search_lookFor n s0 a0 i1 = some (r, z)) : zc_M l zn_Search_lookFor zs_Search_lookFor 19 449 h0 D dA tb [.ref (h0 + a0), .int i1] s0 (some (.int r)) z := by
  rw [zf_Search_lookFor] at hf
  refine zc_of (cc := ze_Search_lookFor) (maxL := 2) (ret := (some .int)) (lv := [(0, .ref (h0 + a0)), (1, .int i1)]) (by decide) rfl (Nat.le_of_ble_eq_true rfl) rfl ?_
  intro p e s m args below meth c X hnm
  obtain ⟨hx, hb, hml, hown, htT, hrt, hlk, x00, hIn⟩ := id X
  have hK := hIn.2.1
  have hT := hIn.2.2.1
  have hNe := hIn.2.2.2
  have hR : zg_R { frames := 19, cells := zh_N z - zh_N s0, slots := zh_M z - zh_M s0, locals := 449 } (zh_N s0) (zh_M s0) z := ⟨by show zh_N z ≤ zh_N s0 + (zh_N z - zh_N s0); omega, by show zh_M z ≤ zh_M s0 + (zh_M z - zh_M s0); omega⟩
  have hF : 19 ≤ ({ frames := 19, cells := zh_N z - zh_N s0, slots := zh_M z - zh_M s0, locals := 449 } : Room).frames ∧ 449 ≤ ({ frames := 19, cells := zh_N z - zh_N s0, slots := zh_M z - zh_M s0, locals := 449 } : Room).locals := ⟨Nat.le_refl _, Nat.le_refl _⟩
  have hret := fun (pc : Nat) (lv : List (Nat × Value)) (hd : decode ze_Search_lookFor pc = .ok (.ireturn, 1)) => zg_iret (R := { frames := 19, cells := zh_N z - zh_N s0, slots := zh_M z - zh_M s0, locals := 449 }) (l := l) (e := e) (below := below) (c0 := zh_N s0) (s0 := zh_M s0) (z := z) (lv := lv) (v := r) X rfl hd
  refine zg_1 (pc' := 1) (fun _ _ _ _ _ hl w => lv_aload_n hx hb zd_Search_lookFor_0 rfl (lv_at hl 0 rfl) w) ?_
  obtain ⟨h_1, hf⟩ := zx_ck hf
  obtain ⟨a_2, h_3, hf⟩ := zx_p hf
  refine zg_get (pc' := 4) (ci := 4) hx hb htT zi_Search hown hK h_1 rfl rfl 4 (by decide) (htT _ zt_659) (fun _ h9 => h9) (zx_hv h_3) zd_Search_lookFor_1 rfl ?_
  refine zg_1 (pc' := 5) (fun _ _ _ _ _ hl w => lv_iconst (v := (0 : Int32)) hx hb zd_Search_lookFor_4 (by decide) w) ?_
  refine zg_1 (pc' := 6) (fun _ _ _ _ _ hl w => lv_iload_n hx hb zd_Search_lookFor_5 rfl (lv_at hl 1 rfl) w) ?_
  obtain ⟨h_5, hf⟩ := zx_ck hf
  obtain ⟨s_4, e_s_4, hf⟩ := zx_l hf
  refine zg_iast (pc' := 7) hx hb hK h_5 e_s_4 zd_Search_lookFor_6 rfl ?_
  refine zg_1 (pc' := 8) (fun _ _ _ _ _ hl w => lv_aload_n hx hb zd_Search_lookFor_7 rfl (lv_at hl 0 rfl) w) ?_
  refine zg_1 (pc' := 9) (fun _ _ _ _ _ hl w => lv_iconst (v := (1 : Int32)) hx hb zd_Search_lookFor_8 (by decide) w) ?_
  obtain ⟨h_7, hf⟩ := zx_ck hf
  obtain ⟨i_8, s_6, hq, hf⟩ := zx_b hf
  refine zg_call (pc' := 12) (y := s_6) (rv := (some (.int i_8))) (rest := []) X hR (zm_Search_goOn 7 hq) (fun H locs ls k j hsz hI hU hk => va_runV (As := [.int (1 : Int32)]) (rest := []) ⟨hx, hb, hml, hown, htT⟩ (zc_Search_goOn l h0 D dA tb n 7 hq) (cwV 1 htT (zw_gV zt_685 zt_687 zt_21 zt_76 zt_688) rfl rfl rfl (by decide +kernel) ⟨Nat.le_trans (Nat.le_of_ble_eq_true rfl) hF.1, Nat.le_trans (Nat.le_of_ble_eq_true rfl) hF.2⟩) ⟨(zg_pre hU).1, zg_recv hK hI h_7 rfl, (zg_pre hU).2⟩ rfl rfl hsz rfl (lv_room (Nat.le_of_ble_eq_true rfl)) zd_Search_lookFor_9 hk) rfl ?_
  refine zg_2 (pc1 := 20) (pc2 := 15) (Classical.em _) (fun _ _ _ _ _ w1 w2 => lv_if_eq hx hb zd_Search_lookFor_12 (by decide) w1 w2) (fun hc => ?_) (fun hc => ?_)
  · rw [if_pos hc] at hf
    refine zg_1 (pc' := 21) (fun _ _ _ _ _ hl w => lv_aload_n hx hb zd_Search_lookFor_20 rfl (lv_at hl 0 rfl) w) ?_
    obtain ⟨h_9, hf⟩ := zx_ck hf
    refine zg_get (pc' := 24) (ci := 4) hx hb htT zi_Search hown hK h_9 rfl rfl 7 (by decide) (htT _ zt_662) (fun _ h9 => h9) rfl zd_Search_lookFor_21 rfl ?_
    refine zg_2 (pc1 := 31) (pc2 := 27) (Classical.em _).symm (fun _ _ _ _ _ w1 w2 => lv_if_ne hx hb zd_Search_lookFor_24 (by decide) w1 w2) (fun hc => ?_) (fun hc => ?_)
    · rw [if_neg hc] at hf
      refine zg_1 (pc' := 33) (fun _ _ _ _ _ hl w => lv_bipush (v := (-10 : Int32)) hx hb zd_Search_lookFor_31 (by decide) w) ?_
      refine zg_1 (pc' := 34) (fun _ _ _ _ _ hl w => lv_aload_n hx hb zd_Search_lookFor_33 rfl (lv_at hl 0 rfl) w) ?_
      refine zg_get (pc' := 37) (ci := 4) hx hb htT zi_Search hown hK h_9 rfl rfl 6 (by decide) (htT _ zt_661) (fun _ h9 => h9) rfl zd_Search_lookFor_34 rfl ?_
      refine zg_1 (pc' := 38) (fun _ _ _ _ _ hl w => lv_isub hx hb zd_Search_lookFor_37 w) ?_
      obtain ⟨rfl, rfl⟩ := zx_r2 hf
      exact hret _ _ zd_Search_lookFor_38
    · rw [if_pos hc] at hf
      refine zg_1 (pc' := 28) (fun _ _ _ _ _ hl w => lv_iconst (v := (0 : Int32)) hx hb zd_Search_lookFor_27 (by decide) w) ?_
      refine zg_1 (pc' := 38) (fun _ _ _ _ _ hl w => lv_goto hx hb zd_Search_lookFor_28 (by decide) w) ?_
      obtain ⟨rfl, rfl⟩ := zx_r2 hf
      exact hret _ _ zd_Search_lookFor_38
  · rw [if_neg hc] at hf
    refine zg_1 (pc' := 16) (fun _ _ _ _ _ hl w => lv_aload_n hx hb zd_Search_lookFor_15 rfl (lv_at hl 0 rfl) w) ?_
    obtain ⟨h_10, hf⟩ := zx_ck hf
    refine zg_get (pc' := 19) (ci := 4) hx hb htT zi_Search hown hK h_10 rfl rfl 5 (by decide) (htT _ zt_660) (fun _ h9 => h9) rfl zd_Search_lookFor_16 rfl ?_
    obtain ⟨rfl, rfl⟩ := zx_r2 hf
    exact hret _ _ zd_Search_lookFor_19
set_option maxHeartbeats 4000000 in
theorem zc_V_validate (l : Launch) (h0 : Nat) (D : va_G) (dA : Nat → ClassId) (tb : Nat → Nat) (n : Nat) {s0 : zh_S} {a0 : Nat} {i1 : Int32} {j2 : Int64} {i4 : Int32} {i5 : Int32} {r : Int32} {z : zh_S} (hf : zf_V_validate n s0 a0 i1 j2 i4 i5 = some (r, z)) : zc_M l zn_V_validate zs_V_validate 20 470 h0 D dA tb [.ref (h0 + a0), .int i1, .long j2, .int i4, .int i5] s0 (some (.int r)) z := by
  rw [zf_V_validate] at hf
  refine zc_of (cc := ze_V_validate) (maxL := 6) (ret := (some .int)) (lv := [(0, .ref (h0 + a0)), (1, .int i1), (2, .long j2), (4, .int i4), (5, .int i5)]) (by decide) rfl (Nat.le_of_ble_eq_true rfl) rfl ?_
  intro p e s m args below meth c X hnm
  obtain ⟨hx, hb, hml, hown, htT, hrt, hlk, x00, hIn⟩ := id X
  have hK := hIn.2.1
  have hT := hIn.2.2.1
  have hNe := hIn.2.2.2
  have hR : zg_R { frames := 20, cells := zh_N z - zh_N s0, slots := zh_M z - zh_M s0, locals := 470 } (zh_N s0) (zh_M s0) z := ⟨by show zh_N z ≤ zh_N s0 + (zh_N z - zh_N s0); omega, by show zh_M z ≤ zh_M s0 + (zh_M z - zh_M s0); omega⟩
  have hF : 20 ≤ ({ frames := 20, cells := zh_N z - zh_N s0, slots := zh_M z - zh_M s0, locals := 470 } : Room).frames ∧ 470 ≤ ({ frames := 20, cells := zh_N z - zh_N s0, slots := zh_M z - zh_M s0, locals := 470 } : Room).locals := ⟨Nat.le_refl _, Nat.le_refl _⟩
  have hret := fun (pc : Nat) (lv : List (Nat × Value)) (hd : decode ze_V_validate pc = .ok (.ireturn, 1)) => zg_iret (R := { frames := 20, cells := zh_N z - zh_N s0, slots := zh_M z - zh_M s0, locals := 470 }) (l := l) (e := e) (below := below) (c0 := zh_N s0) (s0 := zh_M s0) (z := z) (lv := lv) (v := r) X rfl hd
  refine zg_1 (pc' := 1) (fun _ _ _ _ _ hl w => lv_aload_n hx hb zd_V_validate_0 rfl (lv_at hl 0 rfl) w) ?_
  obtain ⟨h_1, hf⟩ := zx_ck hf
  obtain ⟨a_2, h_3, hf⟩ := zx_p hf
  refine zg_get (pc' := 4) (ci := 7) hx hb htT zi_V hown hK h_1 rfl rfl 2 (by decide) (htT _ zt_304) (fun _ h9 => h9) (zx_hv h_3) zd_V_validate_1 rfl ?_
  refine zg_1 (pc' := 5) (fun _ _ _ _ _ hl w => lv_iload_n hx hb zd_V_validate_4 rfl (lv_at hl 1 rfl) w) ?_
  obtain ⟨h_4, hf⟩ := zx_ck hf
  obtain ⟨i_5, hq, hf⟩ := zx_p hf
  refine zg_call (pc' := 8) (y := s0) (rv := (some (.int i_5))) (rest := []) X hR ⟨Nat.le_refl _, Nat.le_refl _⟩ (fun H locs ls k j hsz hI hU hk => va_runV (As := [.int i1]) (rest := []) ⟨hx, hb, hml, hown, htT⟩ (zc_Shelf_hasCertificate l h0 D dA tb n hq) (cwV 1 htT (zw_gV zt_627 zt_628 zt_629 zt_67 zt_630) rfl rfl rfl (by decide +kernel) ⟨Nat.le_trans (Nat.le_of_ble_eq_true rfl) hF.1, Nat.le_trans (Nat.le_of_ble_eq_true rfl) hF.2⟩) ⟨(zg_pre hU).1, zg_recv hK hI h_4 rfl, (zg_pre hU).2⟩ rfl rfl hsz rfl (lv_room (Nat.le_of_ble_eq_true rfl)) zd_V_validate_5 hk) rfl ?_
  refine zg_2 (pc1 := 29) (pc2 := 11) (Classical.em _) (fun _ _ _ _ _ w1 w2 => lv_if_eq hx hb zd_V_validate_8 (by decide) w1 w2) (fun hc => ?_) (fun hc => ?_)
  · rw [if_pos hc] at hf
    refine zg_1 (pc' := 30) (fun _ _ _ _ _ hl w => lv_iconst (v := (-1 : Int32)) hx hb zd_V_validate_29 (by decide) w) ?_
    obtain ⟨rfl, rfl⟩ := zx_r2 hf
    exact hret _ _ zd_V_validate_30
  · rw [if_neg hc] at hf
    refine zg_1 (pc' := 12) (fun _ _ _ _ _ hl w => lv_lload_n hx hb zd_V_validate_11 rfl (lv_at hl 2 rfl) w) ?_
    refine zg_1 (pc' := 13) (fun _ _ _ _ _ hl w => lv_lconst (v := (0 : Int64)) hx hb zd_V_validate_12 (by decide) w) ?_
    refine zg_1 (pc' := 14) (fun _ _ _ _ _ hl w => W.lcmp hx hb zd_V_validate_13 w) ?_
    refine zg_2 (pc1 := 29) (pc2 := 17) (Classical.em _) (fun _ _ _ _ _ w1 w2 => lv_if_lt hx hb zd_V_validate_14 (by decide) w1 w2) (fun hc => ?_) (fun hc => ?_)
    · rw [if_pos hc] at hf
      refine zg_1 (pc' := 30) (fun _ _ _ _ _ hl w => lv_iconst (v := (-1 : Int32)) hx hb zd_V_validate_29 (by decide) w) ?_
      obtain ⟨rfl, rfl⟩ := zx_r2 hf
      exact hret _ _ zd_V_validate_30
    · rw [if_neg hc] at hf
      refine zg_1 (pc' := 19) (fun _ _ _ _ _ hl w => lv_iload hx hb zd_V_validate_17 (lv_at hl 3 rfl) w) ?_
      refine zg_1 (pc' := 20) (fun _ _ _ _ _ hl w => lv_iconst (v := (1 : Int32)) hx hb zd_V_validate_19 (by decide) w) ?_
      refine zg_2 (pc1 := 29) (pc2 := 23) (Classical.em _) (fun _ _ _ _ _ w1 w2 => lv_icmp_lt hx hb zd_V_validate_20 (by decide) w1 w2) (fun hc => ?_) (fun hc => ?_)
      · rw [if_pos hc] at hf
        refine zg_1 (pc' := 30) (fun _ _ _ _ _ hl w => lv_iconst (v := (-1 : Int32)) hx hb zd_V_validate_29 (by decide) w) ?_
        obtain ⟨rfl, rfl⟩ := zx_r2 hf
        exact hret _ _ zd_V_validate_30
      · rw [if_neg hc] at hf
        refine zg_1 (pc' := 25) (fun _ _ _ _ _ hl w => lv_iload hx hb zd_V_validate_23 (lv_at hl 3 rfl) w) ?_
        refine zg_1 (pc' := 26) (fun _ _ _ _ _ hl w => lv_iconst (v := (5 : Int32)) hx hb zd_V_validate_25 (by decide) w) ?_
        refine zg_2 (pc1 := 31) (pc2 := 29) (Classical.em _) (fun _ _ _ _ _ w1 w2 => lv_icmp_le hx hb zd_V_validate_26 (by decide) w1 w2) (fun hc => ?_) (fun hc => ?_)
        · rw [if_pos hc] at hf
          refine zg_1 (pc' := 32) (fun _ _ _ _ _ hl w => lv_aload_n hx hb zd_V_validate_31 rfl (lv_at hl 0 rfl) w) ?_
          obtain ⟨a_7, e_a_7, hf⟩ := zx_l hf
          obtain ⟨s_6, e_s_6, hf⟩ := zx_l hf
          refine zg_new (pc' := 35) (ci := 4) hx hb htT zi_Search zy_Search zo_Search hown (htT _ zt_649) (htT _ zt_650) (htT _ zt_76) hK rfl rfl (fun j hj => by rcases (show j = 0 ∨ j = 1 ∨ j = 2 ∨ j = 3 ∨ j = 4 ∨ j = 5 ∨ j = 6 ∨ j = 7 by omega) with rfl | rfl | rfl | rfl | rfl | rfl | rfl | rfl <;> rfl) hR e_s_6 e_a_7 zd_V_validate_32 rfl ?_
          have ho_a_7 : zh_oo s_6 a_7 4 := zx_on e_s_6 e_a_7
          refine zg_1 (pc' := 36) (fun _ _ _ _ _ hl w => lv_dup hx hb zd_V_validate_35 rfl w) ?_
          refine zg_1 (pc' := 37) (fun _ _ _ _ _ hl w => lv_aload_n hx hb zd_V_validate_36 rfl (lv_at hl 0 rfl) w) ?_
          obtain ⟨h_8, hf⟩ := zx_ck hf
          obtain ⟨a_9, h_10, hf⟩ := zx_p hf
          refine zg_get (pc' := 40) (ci := 7) hx hb htT zi_V hown hK h_8 rfl rfl 2 (by decide) (htT _ zt_304) (fun _ h9 => h9) (zx_hv h_10) zd_V_validate_37 rfl ?_
          refine zg_1 (pc' := 41) (fun _ _ _ _ _ hl w => lv_lload_n hx hb zd_V_validate_40 rfl (lv_at hl 2 rfl) w) ?_
          refine zg_1 (pc' := 43) (fun _ _ _ _ _ hl w => lv_iload hx hb zd_V_validate_41 (lv_at hl 3 rfl) w) ?_
          refine zg_1 (pc' := 45) (fun _ _ _ _ _ hl w => lv_iload hx hb zd_V_validate_43 (lv_at hl 4 rfl) w) ?_
          obtain ⟨s_11, hq, hf⟩ := zx_p hf
          refine zg_call (pc' := 48) (y := s_11) (rv := none) (rest := [.ref (h0 + a_7), .ref (h0 + a0)]) X hR (zm_Search_init hq) (fun H locs ls k j hsz hI hU hk => va_runI (As := [.ref (h0 + a_9), .long j2, .int i4, .int i5]) (rest := [.ref (h0 + a_7), .ref (h0 + a0)]) ⟨hx, hb, hml, hown, htT⟩ (zc_Search_init l h0 D dA tb n hq) (cwI 4 htT (zw_g zt_653) rfl rfl rfl (htT _ zt_76) (htT _ zt_651) (htT _ zt_652) rfl (by decide +kernel) ⟨Nat.le_trans (Nat.le_of_ble_eq_true rfl) hF.1, Nat.le_trans (Nat.le_of_ble_eq_true rfl) hF.2⟩) (zg_pre hU) rfl rfl hsz rfl (lv_room (Nat.le_of_ble_eq_true rfl)) zd_V_validate_45 hk) rfl ?_
          obtain ⟨h_13, hf⟩ := zx_ck hf
          obtain ⟨s_12, e_s_12, hf⟩ := zx_l hf
          refine zg_putR (pc' := 51) (ci := 7) (ty := (.object zr_Search)) hx hb htT zi_V zy_V zo_V zj_V hown hK h_13 rfl rfl 3 (by decide) (htT _ zt_305) (fun _ h9 => h9) (Or.inl rfl) (by decide +kernel) rfl rfl rfl e_s_12 zd_V_validate_48 rfl ?_
          refine zg_1 (pc' := 52) (fun _ _ _ _ _ hl w => lv_aload_n hx hb zd_V_validate_51 rfl (lv_at hl 0 rfl) w) ?_
          have ho := zx_o hf
          clear hf
          rcases ho with ⟨eo, hf⟩ | ⟨a_14, eo, hf⟩
          · skip
            refine zg_get (pc' := 55) (ci := 7) hx hb htT zi_V hown hK (zx_oR e_s_12 h_13) rfl rfl 3 (by decide) (htT _ zt_305) (fun _ h9 => h9) (zx_hn eo) zd_V_validate_52 rfl ?_
            refine zg_1 (pc' := 56) (fun _ _ _ _ _ hl w => lv_iload_n hx hb zd_V_validate_55 rfl (lv_at hl 1 rfl) w) ?_
            cases hf
          · skip
            refine zg_get (pc' := 55) (ci := 7) hx hb htT zi_V hown hK (zx_oR e_s_12 h_13) rfl rfl 3 (by decide) (htT _ zt_305) (fun _ h9 => h9) (zx_hv eo) zd_V_validate_52 rfl ?_
            refine zg_1 (pc' := 56) (fun _ _ _ _ _ hl w => lv_iload_n hx hb zd_V_validate_55 rfl (lv_at hl 1 rfl) w) ?_
            obtain ⟨h_16, hf⟩ := zx_ck hf
            obtain ⟨i_17, s_15, hq, hf⟩ := zx_b hf
            refine zg_call (pc' := 59) (y := s_15) (rv := (some (.int i_17))) (rest := []) X hR (zm_Search_lookFor hq) (fun H locs ls k j hsz hI hU hk => va_runV (As := [.int i1]) (rest := []) ⟨hx, hb, hml, hown, htT⟩ (zc_Search_lookFor l h0 D dA tb n hq) (cwV 1 htT (zw_gV zt_681 zt_682 zt_683 zt_76 zt_684) rfl rfl rfl (by decide +kernel) ⟨Nat.le_trans (Nat.le_of_ble_eq_true rfl) hF.1, Nat.le_trans (Nat.le_of_ble_eq_true rfl) hF.2⟩) ⟨(zg_pre hU).1, zg_recv hK hI h_16 rfl, (zg_pre hU).2⟩ rfl rfl hsz rfl (lv_room (Nat.le_of_ble_eq_true rfl)) zd_V_validate_56 hk) rfl ?_
            obtain ⟨rfl, rfl⟩ := zx_r2 hf
            exact hret _ _ zd_V_validate_59
        · rw [if_neg hc] at hf
          refine zg_1 (pc' := 30) (fun _ _ _ _ _ hl w => lv_iconst (v := (-1 : Int32)) hx hb zd_V_validate_29 (by decide) w) ?_
          obtain ⟨rfl, rfl⟩ := zx_r2 hf
          exact hret _ _ zd_V_validate_30
set_option maxHeartbeats 4000000 in
theorem zc_M_of (l : Launch) (h0 : Nat) (D : va_G) (dA : Nat → ClassId) (tb : Nat → Nat) (n : Nat) {s0 : zh_S} {a0 : Nat} {i1 : Int32} {i2 : Int32} {r : Int64} (hf : zf_M_of n s0 a0 i1 i2 = some r) : zc_M l zn_M_of zs_M_of 0 0 h0 D dA tb [.ref (h0 + a0), .int i1, .int i2] s0 (some (.long r)) s0 := by
  rw [zf_M_of] at hf
  refine zc_of (cc := ze_M_of) (maxL := 3) (ret := (some .long)) (lv := [(0, .ref (h0 + a0)), (1, .int i1), (2, .int i2)]) (by decide) rfl (Nat.le_of_ble_eq_true rfl) rfl ?_
  intro p e s m args below meth c X hnm
  obtain ⟨hx, hb, hml, hown, htT, hrt, hlk, x00, hIn⟩ := id X
  have hK := hIn.2.1
  have hT := hIn.2.2.1
  have hNe := hIn.2.2.2
  have hR : zg_R { frames := 0, cells := zh_N s0 - zh_N s0, slots := zh_M s0 - zh_M s0, locals := 0 } (zh_N s0) (zh_M s0) s0 := ⟨by show zh_N s0 ≤ zh_N s0 + (zh_N s0 - zh_N s0); omega, by show zh_M s0 ≤ zh_M s0 + (zh_M s0 - zh_M s0); omega⟩
  have hF : 0 ≤ ({ frames := 0, cells := zh_N s0 - zh_N s0, slots := zh_M s0 - zh_M s0, locals := 0 } : Room).frames ∧ 0 ≤ ({ frames := 0, cells := zh_N s0 - zh_N s0, slots := zh_M s0 - zh_M s0, locals := 0 } : Room).locals := ⟨Nat.le_refl _, Nat.le_refl _⟩
  have hret := fun (pc : Nat) (lv : List (Nat × Value)) (hd : decode ze_M_of pc = .ok (.lreturn, 1)) => zg_lret (R := { frames := 0, cells := zh_N s0 - zh_N s0, slots := zh_M s0 - zh_M s0, locals := 0 }) (l := l) (e := e) (below := below) (c0 := zh_N s0) (s0 := zh_M s0) (z := s0) (lv := lv) (v := r) X hd
  refine zg_1 (pc' := 1) (fun _ _ _ _ _ hl w => lv_aload_n hx hb zd_M_of_0 rfl (lv_at hl 0 rfl) w) ?_
  obtain ⟨h_1, hf⟩ := zx_ck hf
  obtain ⟨a_2, h_3, hf⟩ := zx_p hf
  refine zg_get (pc' := 4) (ci := 8) hx hb htT zi_M hown hK h_1 rfl rfl 16 (by decide) (htT _ zt_821) (fun _ h9 => h9) (zx_hv h_3) zd_M_of_1 rfl ?_
  refine zg_1 (pc' := 6) (fun _ _ _ _ _ hl w => lv_bipush (v := (15 : Int32)) hx hb zd_M_of_4 (by decide) w) ?_
  refine zg_1 (pc' := 7) (fun _ _ _ _ _ hl w => lv_iload_n hx hb zd_M_of_6 rfl (lv_at hl 1 rfl) w) ?_
  refine zg_1 (pc' := 8) (fun _ _ _ _ _ hl w => lv_imul hx hb zd_M_of_7 w) ?_
  refine zg_1 (pc' := 9) (fun _ _ _ _ _ hl w => lv_iload_n hx hb zd_M_of_8 rfl (lv_at hl 2 rfl) w) ?_
  refine zg_1 (pc' := 10) (fun _ _ _ _ _ hl w => lv_iadd hx hb zd_M_of_9 w) ?_
  obtain ⟨h_4, hf⟩ := zx_ck hf
  refine zg_lald (pc' := 11) hx hb hK h_4 zd_M_of_10 rfl ?_
  obtain rfl := zx_r1 hf
  exact hret _ _ zd_M_of_11
set_option maxHeartbeats 4000000 in
theorem zc_M_flag (l : Launch) (h0 : Nat) (D : va_G) (dA : Nat → ClassId) (tb : Nat → Nat) (n : Nat) {s0 : zh_S} {a0 : Nat} {i1 : Int32} {j2 : Int64} {r : Int32} (hf : zf_M_flag n s0 a0 i1 j2 = some r) : zc_M l zn_M_flag zs_M_flag 1 22 h0 D dA tb [.ref (h0 + a0), .int i1, .long j2] s0 (some (.int r)) s0 := by
  rw [zf_M_flag] at hf
  refine zc_of (cc := ze_M_flag) (maxL := 4) (ret := (some .boolean)) (lv := [(0, .ref (h0 + a0)), (1, .int i1), (2, .long j2)]) (by decide) rfl (Nat.le_of_ble_eq_true rfl) rfl ?_
  intro p e s m args below meth c X hnm
  obtain ⟨hx, hb, hml, hown, htT, hrt, hlk, x00, hIn⟩ := id X
  have hK := hIn.2.1
  have hT := hIn.2.2.1
  have hNe := hIn.2.2.2
  have hR : zg_R { frames := 1, cells := zh_N s0 - zh_N s0, slots := zh_M s0 - zh_M s0, locals := 22 } (zh_N s0) (zh_M s0) s0 := ⟨by show zh_N s0 ≤ zh_N s0 + (zh_N s0 - zh_N s0); omega, by show zh_M s0 ≤ zh_M s0 + (zh_M s0 - zh_M s0); omega⟩
  have hF : 1 ≤ ({ frames := 1, cells := zh_N s0 - zh_N s0, slots := zh_M s0 - zh_M s0, locals := 22 } : Room).frames ∧ 22 ≤ ({ frames := 1, cells := zh_N s0 - zh_N s0, slots := zh_M s0 - zh_M s0, locals := 22 } : Room).locals := ⟨Nat.le_refl _, Nat.le_refl _⟩
  have hret := fun (hz : r = 0 ∨ r = 1) (pc : Nat) (lv : List (Nat × Value)) (hd : decode ze_M_flag pc = .ok (.ireturn, 1)) => zg_iret (R := { frames := 1, cells := zh_N s0 - zh_N s0, slots := zh_M s0 - zh_M s0, locals := 22 }) (l := l) (e := e) (below := below) (c0 := zh_N s0) (s0 := zh_M s0) (z := s0) (lv := lv) (v := r) X (zx_nz hz) hd
  refine zg_1 (pc' := 1) (fun _ _ _ _ _ hl w => lv_aload_n hx hb zd_M_flag_0 rfl (lv_at hl 0 rfl) w) ?_
  refine zg_1 (pc' := 2) (fun _ _ _ _ _ hl w => lv_iload_n hx hb zd_M_flag_1 rfl (lv_at hl 1 rfl) w) ?_
  refine zg_1 (pc' := 4) (fun _ _ _ _ _ hl w => lv_bipush (v := (14 : Int32)) hx hb zd_M_flag_2 (by decide) w) ?_
  obtain ⟨h_1, hf⟩ := zx_ck hf
  obtain ⟨j_2, hq, hf⟩ := zx_p hf
  refine zg_call (pc' := 7) (y := s0) (rv := (some (.long j_2))) (rest := []) X hR ⟨Nat.le_refl _, Nat.le_refl _⟩ (fun H locs ls k j hsz hI hU hk => va_runV (As := [.int i1, .int (14 : Int32)]) (rest := []) ⟨hx, hb, hml, hown, htT⟩ (zc_M_of l h0 D dA tb n hq) (cwV 2 htT (zw_gV zt_1066 zt_1068 zt_52 zt_71 zt_1069) rfl rfl rfl (by decide +kernel) ⟨Nat.le_trans (Nat.le_of_ble_eq_true rfl) hF.1, Nat.le_trans (Nat.le_of_ble_eq_true rfl) hF.2⟩) ⟨(zg_pre hU).1, zg_recv hK hI h_1 rfl, (zg_pre hU).2⟩ rfl rfl hsz rfl (lv_room (Nat.le_of_ble_eq_true rfl)) zd_M_flag_4 hk) rfl ?_
  refine zg_1 (pc' := 8) (fun _ _ _ _ _ hl w => lv_lload_n hx hb zd_M_flag_7 rfl (lv_at hl 2 rfl) w) ?_
  refine zg_1 (pc' := 9) (fun _ _ _ _ _ hl w => lv_land hx hb zd_M_flag_8 w) ?_
  refine zg_1 (pc' := 10) (fun _ _ _ _ _ hl w => lv_lconst (v := (0 : Int64)) hx hb zd_M_flag_9 (by decide) w) ?_
  refine zg_1 (pc' := 11) (fun _ _ _ _ _ hl w => W.lcmp hx hb zd_M_flag_10 w) ?_
  refine zg_2 (pc1 := 18) (pc2 := 14) (Classical.em _) (fun _ _ _ _ _ w1 w2 => lv_if_eq hx hb zd_M_flag_11 (by decide) w1 w2) (fun hc => ?_) (fun hc => ?_)
  · rw [if_pos hc] at hf
    refine zg_1 (pc' := 19) (fun _ _ _ _ _ hl w => lv_iconst (v := (0 : Int32)) hx hb zd_M_flag_18 (by decide) w) ?_
    obtain rfl := zx_r1 hf
    exact hret (Or.inl rfl) _ _ zd_M_flag_19
  · rw [if_neg hc] at hf
    refine zg_1 (pc' := 15) (fun _ _ _ _ _ hl w => lv_iconst (v := (1 : Int32)) hx hb zd_M_flag_14 (by decide) w) ?_
    refine zg_1 (pc' := 19) (fun _ _ _ _ _ hl w => lv_goto hx hb zd_M_flag_15 (by decide) w) ?_
    obtain rfl := zx_r1 hf
    exact hret (Or.inr rfl) _ _ zd_M_flag_19
set_option maxHeartbeats 4000000 in
theorem zw_M_suits_91 {p : Program} {l : Launch} {e : Env} {R : Room} {s : State} {m : MethodId} {args : Array Value} {below : List Frame} {meth : Method} {c : Code} {Q : State → Prop} {h0 : Nat} {D : va_G} {dA : Nat → ClassId} {tb : Nat → Nat} {c0 k0 : Nat} {s0 : zh_S} {r : Int32} (X : zg_X p s m args meth c ze_M_suits 6 zr_M (some .boolean) h0 D dA tb) (hR : zg_R R c0 k0 s0) (hF : 2 ≤ R.frames ∧ 45 ≤ R.locals) (hret : (r = 0 ∨ r = 1) → ∀ (pc : Nat) (lv : List (Nat × Value)), decode ze_M_suits pc = .ok (.ireturn, 1) → zg_G p l e R s m args below meth c Q h0 D dA 6 c0 k0 s0 s0 pc lv [.int r]) (n : Nat) (r64 : zh_S → Nat → Int32 → Int32 → Int32 → Int32 → Option Int32) (hr64 : ∀ (a0 : Nat) (i2 : Int32) (i3 : Int32) (i4 : Int32) (i5 : Int32), r64 s0 a0 i2 i3 i4 i5 = some r → zg_G p l e R s m args below meth c Q h0 D dA 6 c0 k0 s0 s0 64 [(0, .ref (h0 + a0)), (2, .int i2), (3, .int i3), (4, .int i4), (5, .int i5)] []) : ∀ (a0 : Nat) (i2 : Int32) (i3 : Int32) (i5 : Int32) (it0 : Int32), zb_M_suits_91 n r64 s0 a0 i2 i3 i5 it0 = some r → zg_G p l e R s m args below meth c Q h0 D dA 6 c0 k0 s0 s0 91 [(0, .ref (h0 + a0)), (2, .int i2), (3, .int i3), (5, .int i5)] [.int it0] := by
  obtain ⟨hx, hb, hml, hown, htT, hrt, hlk, x00, hIn⟩ := id X
  have hK := hIn.2.1
  have hT := hIn.2.2.1
  have hNe := hIn.2.2.2
  intro a0 i2 i3 i5 it0 hf
  rw [zb_M_suits_91] at hf
  refine zg_s (pc' := 93) (lv' := [(4, .int it0), (0, .ref (h0 + a0)), (2, .int i2), (3, .int i3), (5, .int i5)]) (fun _ _ _ _ _ hl w => lv_istore hx hb zd_M_suits_91 hl (by decide) rfl w) ?_
  obtain ⟨i_1, e_i_1, hf⟩ := zx_l hf
  refine zg_s (pc' := 96) (lv' := [(5, .int i_1), (4, .int it0), (0, .ref (h0 + a0)), (2, .int i2), (3, .int i3)]) (fun _ _ _ _ _ hl w => lv_iinc (k := 4) (v := i_1) hx hb zd_M_suits_93 hl rfl (by rw [e_i_1]; rfl) (by decide) rfl w) ?_
  refine zg_1 (pc' := 64) (fun _ _ _ _ _ hl w => lv_goto hx hb zd_M_suits_96 (by decide) w) ?_
  refine zg_v [2, 3, 4, 1, 0] rfl ?_
  exact hr64 a0 i2 i3 it0 i_1 hf
set_option maxHeartbeats 4000000 in
theorem zw_M_suits_86 {p : Program} {l : Launch} {e : Env} {R : Room} {s : State} {m : MethodId} {args : Array Value} {below : List Frame} {meth : Method} {c : Code} {Q : State → Prop} {h0 : Nat} {D : va_G} {dA : Nat → ClassId} {tb : Nat → Nat} {c0 k0 : Nat} {s0 : zh_S} {r : Int32} (X : zg_X p s m args meth c ze_M_suits 6 zr_M (some .boolean) h0 D dA tb) (hR : zg_R R c0 k0 s0) (hF : 2 ≤ R.frames ∧ 45 ≤ R.locals) (hret : (r = 0 ∨ r = 1) → ∀ (pc : Nat) (lv : List (Nat × Value)), decode ze_M_suits pc = .ok (.ireturn, 1) → zg_G p l e R s m args below meth c Q h0 D dA 6 c0 k0 s0 s0 pc lv [.int r]) (n : Nat) (r64 : zh_S → Nat → Int32 → Int32 → Int32 → Int32 → Option Int32) (hr64 : ∀ (a0 : Nat) (i2 : Int32) (i3 : Int32) (i4 : Int32) (i5 : Int32), r64 s0 a0 i2 i3 i4 i5 = some r → zg_G p l e R s m args below meth c Q h0 D dA 6 c0 k0 s0 s0 64 [(0, .ref (h0 + a0)), (2, .int i2), (3, .int i3), (4, .int i4), (5, .int i5)] []) : ∀ (a0 : Nat) (i2 : Int32) (i3 : Int32) (i5 : Int32), zb_M_suits_86 n r64 s0 a0 i2 i3 i5 = some r → zg_G p l e R s m args below meth c Q h0 D dA 6 c0 k0 s0 s0 86 [(0, .ref (h0 + a0)), (2, .int i2), (3, .int i3), (5, .int i5)] [] := by
  obtain ⟨hx, hb, hml, hown, htT, hrt, hlk, x00, hIn⟩ := id X
  have hK := hIn.2.1
  have hT := hIn.2.2.1
  have hNe := hIn.2.2.2
  intro a0 i2 i3 i5 hf
  rw [zb_M_suits_86] at hf
  refine zg_1 (pc' := 87) (fun _ _ _ _ _ hl w => lv_iconst (v := (1 : Int32)) hx hb zd_M_suits_86 (by decide) w) ?_
  refine zg_1 (pc' := 91) (fun _ _ _ _ _ hl w => lv_goto hx hb zd_M_suits_87 (by decide) w) ?_
  exact zw_M_suits_91 X hR hF hret n _ hr64 a0 i2 i3 i5 (1 : Int32) hf
set_option maxHeartbeats 4000000 in
theorem zw_M_suits_64 {p : Program} {l : Launch} {e : Env} {R : Room} {s : State} {m : MethodId} {args : Array Value} {below : List Frame} {meth : Method} {c : Code} {Q : State → Prop} {h0 : Nat} {D : va_G} {dA : Nat → ClassId} {tb : Nat → Nat} {c0 k0 : Nat} {s0 : zh_S} {r : Int32} (X : zg_X p s m args meth c ze_M_suits 6 zr_M (some .boolean) h0 D dA tb) (hR : zg_R R c0 k0 s0) (hF : 2 ≤ R.frames ∧ 45 ≤ R.locals) (hret : (r = 0 ∨ r = 1) → ∀ (pc : Nat) (lv : List (Nat × Value)), decode ze_M_suits pc = .ok (.ireturn, 1) → zg_G p l e R s m args below meth c Q h0 D dA 6 c0 k0 s0 s0 pc lv [.int r]) (n : Nat) (k : Nat) : ∀ (a0 : Nat) (i2 : Int32) (i3 : Int32) (i4 : Int32) (i5 : Int32), zl_M_suits_64 n k s0 a0 i2 i3 i4 i5 = some r → zg_G p l e R s m args below meth c Q h0 D dA 6 c0 k0 s0 s0 64 [(0, .ref (h0 + a0)), (2, .int i2), (3, .int i3), (4, .int i4), (5, .int i5)] [] := by
  obtain ⟨hx, hb, hml, hown, htT, hrt, hlk, x00, hIn⟩ := id X
  have hK := hIn.2.1
  have hT := hIn.2.2.1
  have hNe := hIn.2.2.2
  induction k with
  | zero => intro a0 i2 i3 i4 i5 hf; cases hf
  | succ k ih =>
    intro a0 i2 i3 i4 i5 hf
    rw [zl_M_suits_64] at hf
    refine zg_1 (pc' := 66) (fun _ _ _ _ _ hl w => lv_iload hx hb zd_M_suits_64 (lv_at hl 4 rfl) w) ?_
    refine zg_1 (pc' := 67) (fun _ _ _ _ _ hl w => lv_iload_n hx hb zd_M_suits_66 rfl (lv_at hl 1 rfl) w) ?_
    refine zg_2 (pc1 := 99) (pc2 := 70) (Classical.em _) (fun _ _ _ _ _ w1 w2 => lv_icmp_ge hx hb zd_M_suits_67 (by decide) w1 w2) (fun hc => ?_) (fun hc => ?_)
    · rw [if_pos hc] at hf
      refine zg_1 (pc' := 101) (fun _ _ _ _ _ hl w => lv_iload hx hb zd_M_suits_99 (lv_at hl 3 rfl) w) ?_
      refine zg_2 (pc1 := 108) (pc2 := 104) (Classical.em _).symm (fun _ _ _ _ _ w1 w2 => lv_if_ne hx hb zd_M_suits_101 (by decide) w1 w2) (fun hc => ?_) (fun hc => ?_)
      · rw [if_neg hc] at hf
        refine zg_1 (pc' := 109) (fun _ _ _ _ _ hl w => lv_iconst (v := (0 : Int32)) hx hb zd_M_suits_108 (by decide) w) ?_
        obtain rfl := zx_r1 hf
        exact hret (Or.inl rfl) _ _ zd_M_suits_109
      · rw [if_pos hc] at hf
        refine zg_1 (pc' := 105) (fun _ _ _ _ _ hl w => lv_iconst (v := (1 : Int32)) hx hb zd_M_suits_104 (by decide) w) ?_
        refine zg_1 (pc' := 109) (fun _ _ _ _ _ hl w => lv_goto hx hb zd_M_suits_105 (by decide) w) ?_
        obtain rfl := zx_r1 hf
        exact hret (Or.inr rfl) _ _ zd_M_suits_109
    · rw [if_neg hc] at hf
      refine zg_1 (pc' := 72) (fun _ _ _ _ _ hl w => lv_iload hx hb zd_M_suits_70 (lv_at hl 3 rfl) w) ?_
      refine zg_2 (pc1 := 86) (pc2 := 75) (Classical.em _).symm (fun _ _ _ _ _ w1 w2 => lv_if_ne hx hb zd_M_suits_72 (by decide) w1 w2) (fun hc => ?_) (fun hc => ?_)
      · rw [if_neg hc] at hf
        refine zg_v [0, 1, 2, 4] rfl ?_
        exact zw_M_suits_86 X hR hF hret n _ ih a0 i2 i3 i5 hf
      · rw [if_pos hc] at hf
        refine zg_1 (pc' := 76) (fun _ _ _ _ _ hl w => lv_aload_n hx hb zd_M_suits_75 rfl (lv_at hl 0 rfl) w) ?_
        obtain ⟨h_1, hf⟩ := zx_ck hf
        obtain ⟨a_2, h_3, hf⟩ := zx_p hf
        refine zg_get (pc' := 79) (ci := 8) hx hb htT zi_M hown hK h_1 rfl rfl 21 (by decide) (htT _ zt_826) (fun _ h9 => h9) (zx_hv h_3) zd_M_suits_76 rfl ?_
        refine zg_1 (pc' := 81) (fun _ _ _ _ _ hl w => lv_iload hx hb zd_M_suits_79 (lv_at hl 4 rfl) w) ?_
        obtain ⟨h_4, hf⟩ := zx_ck hf
        refine zg_iald (pc' := 82) hx hb hK h_4 zd_M_suits_81 rfl ?_
        refine zg_1 (pc' := 83) (fun _ _ _ _ _ hl w => lv_iload_n hx hb zd_M_suits_82 rfl (lv_at hl 2 rfl) w) ?_
        refine zg_2 (pc1 := 90) (pc2 := 86) (Classical.em _).symm (fun _ _ _ _ _ w1 w2 => lv_icmp_ne hx hb zd_M_suits_83 (by decide) w1 w2) (fun hc => ?_) (fun hc => ?_)
        · rw [if_neg hc] at hf
          refine zg_1 (pc' := 91) (fun _ _ _ _ _ hl w => lv_iconst (v := (0 : Int32)) hx hb zd_M_suits_90 (by decide) w) ?_
          refine zg_v [0, 1, 2, 4] rfl ?_
          exact zw_M_suits_91 X hR hF hret n _ ih a0 i2 i3 i5 (0 : Int32) hf
        · rw [if_pos hc] at hf
          refine zg_v [0, 1, 2, 4] rfl ?_
          exact zw_M_suits_86 X hR hF hret n _ ih a0 i2 i3 i5 hf
set_option maxHeartbeats 4000000 in
theorem zw_M_suits_30 {p : Program} {l : Launch} {e : Env} {R : Room} {s : State} {m : MethodId} {args : Array Value} {below : List Frame} {meth : Method} {c : Code} {Q : State → Prop} {h0 : Nat} {D : va_G} {dA : Nat → ClassId} {tb : Nat → Nat} {c0 k0 : Nat} {s0 : zh_S} {r : Int32} (X : zg_X p s m args meth c ze_M_suits 6 zr_M (some .boolean) h0 D dA tb) (hR : zg_R R c0 k0 s0) (hF : 2 ≤ R.frames ∧ 45 ≤ R.locals) (hret : (r = 0 ∨ r = 1) → ∀ (pc : Nat) (lv : List (Nat × Value)), decode ze_M_suits pc = .ok (.ireturn, 1) → zg_G p l e R s m args below meth c Q h0 D dA 6 c0 k0 s0 s0 pc lv [.int r]) (n : Nat) : ∀ (a0 : Nat) (i2 : Int32) (i3 : Int32) (it0 : Int32) (it1 : Int32), zb_M_suits_30 n s0 a0 i2 i3 it0 it1 = some r → zg_G p l e R s m args below meth c Q h0 D dA 6 c0 k0 s0 s0 30 [(0, .ref (h0 + a0)), (2, .int i2), (3, .int i3)] [.int it1, .int it0] := by
  obtain ⟨hx, hb, hml, hown, htT, hrt, hlk, x00, hIn⟩ := id X
  have hK := hIn.2.1
  have hT := hIn.2.2.1
  have hNe := hIn.2.2.2
  intro a0 i2 i3 it0 it1 hf
  rw [zb_M_suits_30] at hf
  refine zg_2 (pc1 := 56) (pc2 := 33) (Classical.em _).symm (fun _ _ _ _ _ w1 w2 => lv_icmp_ne hx hb zd_M_suits_30 (by decide) w1 w2) (fun hc => ?_) (fun hc => ?_)
  · rw [if_neg hc] at hf
    refine zg_1 (pc' := 57) (fun _ _ _ _ _ hl w => lv_iconst (v := (0 : Int32)) hx hb zd_M_suits_56 (by decide) w) ?_
    obtain rfl := zx_r1 hf
    exact hret (Or.inl rfl) _ _ zd_M_suits_57
  · rw [if_pos hc] at hf
    refine zg_1 (pc' := 34) (fun _ _ _ _ _ hl w => lv_aload_n hx hb zd_M_suits_33 rfl (lv_at hl 0 rfl) w) ?_
    refine zg_1 (pc' := 35) (fun _ _ _ _ _ hl w => lv_iload_n hx hb zd_M_suits_34 rfl (lv_at hl 2 rfl) w) ?_
    refine zg_1 (pc' := 36) (fun _ _ _ _ _ hl w => lv_iconst (v := (4 : Int32)) hx hb zd_M_suits_35 (by decide) w) ?_
    obtain ⟨h_1, hf⟩ := zx_ck hf
    obtain ⟨j_2, hq, hf⟩ := zx_p hf
    refine zg_call (pc' := 39) (y := s0) (rv := (some (.long j_2))) (rest := []) X hR ⟨Nat.le_refl _, Nat.le_refl _⟩ (fun H locs ls k j hsz hI hU hk => va_runV (As := [.int i3, .int (4 : Int32)]) (rest := []) ⟨hx, hb, hml, hown, htT⟩ (zc_M_of l h0 D dA tb n hq) (cwV 2 htT (zw_gV zt_1066 zt_1068 zt_52 zt_71 zt_1069) rfl rfl rfl (by decide +kernel) ⟨Nat.le_trans (Nat.le_of_ble_eq_true rfl) hF.1, Nat.le_trans (Nat.le_of_ble_eq_true rfl) hF.2⟩) ⟨(zg_pre hU).1, zg_recv hK hI h_1 rfl, (zg_pre hU).2⟩ rfl rfl hsz rfl (lv_room (Nat.le_of_ble_eq_true rfl)) zd_M_suits_36 hk) rfl ?_
    refine zg_1 (pc' := 40) (fun _ _ _ _ _ hl w => lv_aload_n hx hb zd_M_suits_39 rfl (lv_at hl 0 rfl) w) ?_
    refine zg_1 (pc' := 41) (fun _ _ _ _ _ hl w => lv_aload_n hx hb zd_M_suits_40 rfl (lv_at hl 0 rfl) w) ?_
    obtain ⟨a_3, h_4, hf⟩ := zx_p hf
    refine zg_get (pc' := 44) (ci := 8) hx hb htT zi_M hown hK h_1 rfl rfl 21 (by decide) (htT _ zt_826) (fun _ h9 => h9) (zx_hv h_4) zd_M_suits_41 rfl ?_
    refine zg_1 (pc' := 45) (fun _ _ _ _ _ hl w => lv_iload_n hx hb zd_M_suits_44 rfl (lv_at hl 1 rfl) w) ?_
    refine zg_1 (pc' := 46) (fun _ _ _ _ _ hl w => lv_iconst (v := (1 : Int32)) hx hb zd_M_suits_45 (by decide) w) ?_
    refine zg_1 (pc' := 47) (fun _ _ _ _ _ hl w => lv_isub hx hb zd_M_suits_46 w) ?_
    obtain ⟨h_5, hf⟩ := zx_ck hf
    refine zg_iald (pc' := 48) hx hb hK h_5 zd_M_suits_47 rfl ?_
    refine zg_1 (pc' := 49) (fun _ _ _ _ _ hl w => lv_iconst (v := (1 : Int32)) hx hb zd_M_suits_48 (by decide) w) ?_
    obtain ⟨j_6, hq, hf⟩ := zx_p hf
    refine zg_call (pc' := 52) (y := s0) (rv := (some (.long j_6))) (rest := [.long j_2]) X hR ⟨Nat.le_refl _, Nat.le_refl _⟩ (fun H locs ls k j hsz hI hU hk => va_runV (As := [.int (zh_I s0 a_3 ((i2 - (1 : Int32)).toNatClampNeg)), .int (1 : Int32)]) (rest := [.long j_2]) ⟨hx, hb, hml, hown, htT⟩ (zc_M_of l h0 D dA tb n hq) (cwV 2 htT (zw_gV zt_1066 zt_1068 zt_52 zt_71 zt_1069) rfl rfl rfl (by decide +kernel) ⟨Nat.le_trans (Nat.le_of_ble_eq_true rfl) hF.1, Nat.le_trans (Nat.le_of_ble_eq_true rfl) hF.2⟩) ⟨(zg_pre hU).1, zg_recv hK hI h_1 rfl, (zg_pre hU).2⟩ rfl rfl hsz rfl (lv_room (Nat.le_of_ble_eq_true rfl)) zd_M_suits_49 hk) rfl ?_
    refine zg_1 (pc' := 53) (fun _ _ _ _ _ hl w => W.lcmp hx hb zd_M_suits_52 w) ?_
    refine zg_2 (pc1 := 58) (pc2 := 56) (Classical.em _) (fun _ _ _ _ _ w1 w2 => lv_if_eq hx hb zd_M_suits_53 (by decide) w1 w2) (fun hc => ?_) (fun hc => ?_)
    · rw [if_pos hc] at hf
      refine zg_1 (pc' := 59) (fun _ _ _ _ _ hl w => lv_iconst (v := (0 : Int32)) hx hb zd_M_suits_58 (by decide) w) ?_
      refine zg_s (pc' := 61) (lv' := [(4, .int (0 : Int32)), (0, .ref (h0 + a0)), (2, .int i2), (3, .int i3)]) (fun _ _ _ _ _ hl w => lv_istore hx hb zd_M_suits_59 hl (by decide) rfl w) ?_
      refine zg_1 (pc' := 62) (fun _ _ _ _ _ hl w => lv_iconst (v := (0 : Int32)) hx hb zd_M_suits_61 (by decide) w) ?_
      refine zg_s (pc' := 64) (lv' := [(5, .int (0 : Int32)), (4, .int (0 : Int32)), (0, .ref (h0 + a0)), (2, .int i2), (3, .int i3)]) (fun _ _ _ _ _ hl w => lv_istore hx hb zd_M_suits_62 hl (by decide) rfl w) ?_
      refine zg_v [2, 3, 4, 1, 0] rfl ?_
      exact zw_M_suits_64 X hR hF hret n n a0 i2 i3 (0 : Int32) (0 : Int32) hf
    · rw [if_neg hc] at hf
      refine zg_1 (pc' := 57) (fun _ _ _ _ _ hl w => lv_iconst (v := (0 : Int32)) hx hb zd_M_suits_56 (by decide) w) ?_
      obtain rfl := zx_r1 hf
      exact hret (Or.inl rfl) _ _ zd_M_suits_57
set_option maxHeartbeats 4000000 in
theorem zc_M_suits (l : Launch) (h0 : Nat) (D : va_G) (dA : Nat → ClassId) (tb : Nat → Nat) (n : Nat) {s0 : zh_S} {a0 : Nat} {i1 : Int32} {i2 : Int32} {r : Int32} (hf : zf_M_suits n s0 a0 i1 i2 = some r) : zc_M l zn_M_suits zs_M_suits 2 45 h0 D dA tb [.ref (h0 + a0), .int i1, .int i2] s0 (some (.int r)) s0 := by
  rw [zf_M_suits] at hf
  refine zc_of (cc := ze_M_suits) (maxL := 6) (ret := (some .boolean)) (lv := [(0, .ref (h0 + a0)), (1, .int i1), (2, .int i2)]) (by decide) rfl (Nat.le_of_ble_eq_true rfl) rfl ?_
  intro p e s m args below meth c X hnm
  obtain ⟨hx, hb, hml, hown, htT, hrt, hlk, x00, hIn⟩ := id X
  have hK := hIn.2.1
  have hT := hIn.2.2.1
  have hNe := hIn.2.2.2
  have hR : zg_R { frames := 2, cells := zh_N s0 - zh_N s0, slots := zh_M s0 - zh_M s0, locals := 45 } (zh_N s0) (zh_M s0) s0 := ⟨by show zh_N s0 ≤ zh_N s0 + (zh_N s0 - zh_N s0); omega, by show zh_M s0 ≤ zh_M s0 + (zh_M s0 - zh_M s0); omega⟩
  have hF : 2 ≤ ({ frames := 2, cells := zh_N s0 - zh_N s0, slots := zh_M s0 - zh_M s0, locals := 45 } : Room).frames ∧ 45 ≤ ({ frames := 2, cells := zh_N s0 - zh_N s0, slots := zh_M s0 - zh_M s0, locals := 45 } : Room).locals := ⟨Nat.le_refl _, Nat.le_refl _⟩
  have hret := fun (hz : r = 0 ∨ r = 1) (pc : Nat) (lv : List (Nat × Value)) (hd : decode ze_M_suits pc = .ok (.ireturn, 1)) => zg_iret (R := { frames := 2, cells := zh_N s0 - zh_N s0, slots := zh_M s0 - zh_M s0, locals := 45 }) (l := l) (e := e) (below := below) (c0 := zh_N s0) (s0 := zh_M s0) (z := s0) (lv := lv) (v := r) X (zx_nz hz) hd
  refine zg_1 (pc' := 1) (fun _ _ _ _ _ hl w => lv_iload_n hx hb zd_M_suits_0 rfl (lv_at hl 1 rfl) w) ?_
  refine zg_1 (pc' := 3) (fun _ _ _ _ _ hl w => lv_bipush (v := (12 : Int32)) hx hb zd_M_suits_1 (by decide) w) ?_
  obtain ⟨h_1, hf⟩ := zx_ck hf
  refine zg_1 (pc' := 4) (fun _ _ _ _ _ hl w => lv_irem hx hb zd_M_suits_3 h_1 w) ?_
  obtain ⟨i_2, e_i_2, hf⟩ := zx_l hf
  refine zg_ti e_i_2 ?_
  refine zg_s (pc' := 5) (lv' := [(3, .int i_2), (0, .ref (h0 + a0)), (1, .int i1), (2, .int i2)]) (fun _ _ _ _ _ hl w => lv_istore_n hx hb zd_M_suits_4 rfl hl (by decide) rfl w) ?_
  refine zg_1 (pc' := 6) (fun _ _ _ _ _ hl w => lv_iload_n hx hb zd_M_suits_5 rfl (lv_at hl 0 rfl) w) ?_
  refine zg_1 (pc' := 7) (fun _ _ _ _ _ hl w => lv_aload_n hx hb zd_M_suits_6 rfl (lv_at hl 1 rfl) w) ?_
  obtain ⟨h_3, hf⟩ := zx_ck hf
  refine zg_get (pc' := 10) (ci := 8) hx hb htT zi_M hown hK h_3 rfl rfl 15 (by decide) (htT _ zt_820) (fun _ h9 => h9) rfl zd_M_suits_7 rfl ?_
  refine zg_2 (pc1 := 56) (pc2 := 13) (Classical.em _) (fun _ _ _ _ _ w1 w2 => lv_icmp_ge hx hb zd_M_suits_10 (by decide) w1 w2) (fun hc => ?_) (fun hc => ?_)
  · rw [if_pos hc] at hf
    refine zg_1 (pc' := 57) (fun _ _ _ _ _ hl w => lv_iconst (v := (0 : Int32)) hx hb zd_M_suits_56 (by decide) w) ?_
    obtain rfl := zx_r1 hf
    exact hret (Or.inl rfl) _ _ zd_M_suits_57
  · rw [if_neg hc] at hf
    refine zg_1 (pc' := 14) (fun _ _ _ _ _ hl w => lv_aload_n hx hb zd_M_suits_13 rfl (lv_at hl 1 rfl) w) ?_
    refine zg_1 (pc' := 15) (fun _ _ _ _ _ hl w => lv_iload_n hx hb zd_M_suits_14 rfl (lv_at hl 0 rfl) w) ?_
    refine zg_1 (pc' := 16) (fun _ _ _ _ _ hl w => lv_lconst (v := (1 : Int64)) hx hb zd_M_suits_15 (by decide) w) ?_
    obtain ⟨i_4, hq, hf⟩ := zx_p hf
    refine zg_call (pc' := 19) (y := s0) (rv := (some (.int i_4))) (rest := []) X hR ⟨Nat.le_refl _, Nat.le_refl _⟩ (fun H locs ls k j hsz hI hU hk => va_runV (As := [.int i_2, .long (1 : Int64)]) (rest := []) ⟨hx, hb, hml, hown, htT⟩ (zc_M_flag l h0 D dA tb n hq) (cwV 2 htT (zw_gV zt_1082 zt_1084 zt_54 zt_71 zt_1085) rfl rfl rfl (by decide +kernel) ⟨Nat.le_trans (Nat.le_of_ble_eq_true rfl) hF.1, Nat.le_trans (Nat.le_of_ble_eq_true rfl) hF.2⟩) ⟨(zg_pre hU).1, zg_recv hK hI h_3 rfl, (zg_pre hU).2⟩ rfl rfl hsz rfl (lv_room (Nat.le_of_ble_eq_true rfl)) zd_M_suits_16 hk) rfl ?_
    refine zg_1 (pc' := 20) (fun _ _ _ _ _ hl w => lv_iload_n hx hb zd_M_suits_19 rfl (lv_at hl 2 rfl) w) ?_
    refine zg_1 (pc' := 22) (fun _ _ _ _ _ hl w => lv_bipush (v := (12 : Int32)) hx hb zd_M_suits_20 (by decide) w) ?_
    refine zg_2 (pc1 := 29) (pc2 := 25) (Classical.em _) (fun _ _ _ _ _ w1 w2 => lv_icmp_ge hx hb zd_M_suits_22 (by decide) w1 w2) (fun hc => ?_) (fun hc => ?_)
    · rw [if_pos hc] at hf
      refine zg_1 (pc' := 30) (fun _ _ _ _ _ hl w => lv_iconst (v := (0 : Int32)) hx hb zd_M_suits_29 (by decide) w) ?_
      refine zg_v [1, 3, 0] rfl ?_
      exact zw_M_suits_30 X hR hF hret n a0 i2 i_2 i_4 (0 : Int32) hf
    · rw [if_neg hc] at hf
      refine zg_1 (pc' := 26) (fun _ _ _ _ _ hl w => lv_iconst (v := (1 : Int32)) hx hb zd_M_suits_25 (by decide) w) ?_
      refine zg_1 (pc' := 30) (fun _ _ _ _ _ hl w => lv_goto hx hb zd_M_suits_26 (by decide) w) ?_
      refine zg_v [1, 3, 0] rfl ?_
      exact zw_M_suits_30 X hR hF hret n a0 i2 i_2 i_4 (1 : Int32) hf
set_option maxHeartbeats 4000000 in
theorem zc_M_signedBy (l : Launch) (h0 : Nat) (D : va_G) (dA : Nat → ClassId) (tb : Nat → Nat) (n : Nat) {s0 : zh_S} {a0 : Nat} {j1 : Int64} {j3 : Int64} {i5 : Int32} {r : Int32} (hf : zf_M_signedBy n s0 a0 j1 j3 i5 = some r) : zc_M l zn_M_signedBy zs_M_signedBy 3 91 h0 D dA tb [.ref (h0 + a0), .long j1, .long j3, .int i5] s0 (some (.int r)) s0 := by
  rw [zf_M_signedBy] at hf
  refine zc_of (cc := ze_M_signedBy) (maxL := 6) (ret := (some .boolean)) (lv := [(0, .ref (h0 + a0)), (1, .long j1), (3, .long j3), (5, .int i5)]) (by decide) rfl (Nat.le_of_ble_eq_true rfl) rfl ?_
  intro p e s m args below meth c X hnm
  obtain ⟨hx, hb, hml, hown, htT, hrt, hlk, x00, hIn⟩ := id X
  have hK := hIn.2.1
  have hT := hIn.2.2.1
  have hNe := hIn.2.2.2
  have hR : zg_R { frames := 3, cells := zh_N s0 - zh_N s0, slots := zh_M s0 - zh_M s0, locals := 91 } (zh_N s0) (zh_M s0) s0 := ⟨by show zh_N s0 ≤ zh_N s0 + (zh_N s0 - zh_N s0); omega, by show zh_M s0 ≤ zh_M s0 + (zh_M s0 - zh_M s0); omega⟩
  have hF : 3 ≤ ({ frames := 3, cells := zh_N s0 - zh_N s0, slots := zh_M s0 - zh_M s0, locals := 91 } : Room).frames ∧ 91 ≤ ({ frames := 3, cells := zh_N s0 - zh_N s0, slots := zh_M s0 - zh_M s0, locals := 91 } : Room).locals := ⟨Nat.le_refl _, Nat.le_refl _⟩
  have hret := fun (hz : r = 0 ∨ r = 1) (pc : Nat) (lv : List (Nat × Value)) (hd : decode ze_M_signedBy pc = .ok (.ireturn, 1)) => zg_iret (R := { frames := 3, cells := zh_N s0 - zh_N s0, slots := zh_M s0 - zh_M s0, locals := 91 }) (l := l) (e := e) (below := below) (c0 := zh_N s0) (s0 := zh_M s0) (z := s0) (lv := lv) (v := r) X (zx_nz hz) hd
  refine zg_1 (pc' := 1) (fun _ _ _ _ _ hl w => lv_aload_n hx hb zd_M_signedBy_0 rfl (lv_at hl 0 rfl) w) ?_
  refine zg_1 (pc' := 2) (fun _ _ _ _ _ hl w => lv_lload_n hx hb zd_M_signedBy_1 rfl (lv_at hl 1 rfl) w) ?_
  refine zg_1 (pc' := 3) (fun _ _ _ _ _ hl w => lv_aload_n hx hb zd_M_signedBy_2 rfl (lv_at hl 0 rfl) w) ?_
  refine zg_1 (pc' := 5) (fun _ _ _ _ _ hl w => lv_iload hx hb zd_M_signedBy_3 (lv_at hl 3 rfl) w) ?_
  refine zg_1 (pc' := 6) (fun _ _ _ _ _ hl w => lv_iconst (v := (5 : Int32)) hx hb zd_M_signedBy_5 (by decide) w) ?_
  obtain ⟨h_1, hf⟩ := zx_ck hf
  obtain ⟨j_2, hq, hf⟩ := zx_p hf
  refine zg_call (pc' := 9) (y := s0) (rv := (some (.long j_2))) (rest := [.long j1, .ref (h0 + a0)]) X hR ⟨Nat.le_refl _, Nat.le_refl _⟩ (fun H locs ls k j hsz hI hU hk => va_runV (As := [.int i5, .int (5 : Int32)]) (rest := [.long j1, .ref (h0 + a0)]) ⟨hx, hb, hml, hown, htT⟩ (zc_M_of l h0 D dA tb n hq) (cwV 2 htT (zw_gV zt_1066 zt_1068 zt_52 zt_71 zt_1069) rfl rfl rfl (by decide +kernel) ⟨Nat.le_trans (Nat.le_of_ble_eq_true rfl) hF.1, Nat.le_trans (Nat.le_of_ble_eq_true rfl) hF.2⟩) ⟨(zg_pre hU).1, zg_recv hK hI h_1 rfl, (zg_pre hU).2⟩ rfl rfl hsz rfl (lv_room (Nat.le_of_ble_eq_true rfl)) zd_M_signedBy_6 hk) rfl ?_
  refine zg_1 (pc' := 10) (fun _ _ _ _ _ hl w => lv_aload_n hx hb zd_M_signedBy_9 rfl (lv_at hl 0 rfl) w) ?_
  refine zg_1 (pc' := 12) (fun _ _ _ _ _ hl w => lv_iload hx hb zd_M_signedBy_10 (lv_at hl 3 rfl) w) ?_
  refine zg_1 (pc' := 14) (fun _ _ _ _ _ hl w => lv_bipush (v := (6 : Int32)) hx hb zd_M_signedBy_12 (by decide) w) ?_
  obtain ⟨j_3, hq, hf⟩ := zx_p hf
  refine zg_call (pc' := 17) (y := s0) (rv := (some (.long j_3))) (rest := [.long j_2, .long j1, .ref (h0 + a0)]) X hR ⟨Nat.le_refl _, Nat.le_refl _⟩ (fun H locs ls k j hsz hI hU hk => va_runV (As := [.int i5, .int (6 : Int32)]) (rest := [.long j_2, .long j1, .ref (h0 + a0)]) ⟨hx, hb, hml, hown, htT⟩ (zc_M_of l h0 D dA tb n hq) (cwV 2 htT (zw_gV zt_1066 zt_1068 zt_52 zt_71 zt_1069) rfl rfl rfl (by decide +kernel) ⟨Nat.le_trans (Nat.le_of_ble_eq_true rfl) hF.1, Nat.le_trans (Nat.le_of_ble_eq_true rfl) hF.2⟩) ⟨(zg_pre hU).1, zg_recv hK hI h_1 rfl, (zg_pre hU).2⟩ rfl rfl hsz rfl (lv_room (Nat.le_of_ble_eq_true rfl)) zd_M_signedBy_14 hk) rfl ?_
  refine zg_1 (pc' := 18) (fun _ _ _ _ _ hl w => lv_lload_n hx hb zd_M_signedBy_17 rfl (lv_at hl 2 rfl) w) ?_
  refine zg_1 (pc' := 19) (fun _ _ _ _ _ hl w => lv_l2i (v := j3.toInt32) hx hb zd_M_signedBy_18 rfl w) ?_
  obtain ⟨i_4, hq, hf⟩ := zx_p hf
  refine zg_call (pc' := 22) (y := s0) (rv := (some (.int i_4))) (rest := []) X hR ⟨Nat.le_refl _, Nat.le_refl _⟩ (fun H locs ls k j hsz hI hU hk => va_runV (As := [.long j1, .long j_2, .long j_3, .int (j3.toInt32)]) (rest := []) ⟨hx, hb, hml, hown, htT⟩ (zc_M_good l h0 D dA tb n hq) (cwV 4 htT (zw_gV zt_1098 zt_903 zt_904 zt_71 zt_905) rfl rfl rfl (by decide +kernel) ⟨Nat.le_trans (Nat.le_of_ble_eq_true rfl) hF.1, Nat.le_trans (Nat.le_of_ble_eq_true rfl) hF.2⟩) ⟨(zg_pre hU).1, zg_recv hK hI h_1 rfl, (zg_pre hU).2⟩ rfl rfl hsz rfl (lv_room (Nat.le_of_ble_eq_true rfl)) zd_M_signedBy_19 hk) rfl ?_
  obtain ⟨h_5, hf⟩ := zx_ck hf
  obtain rfl := zx_r1 hf
  exact hret h_5 _ _ zd_M_signedBy_22
set_option maxHeartbeats 4000000 in
theorem zw_M_listFor_186 {p : Program} {l : Launch} {e : Env} {R : Room} {s : State} {m : MethodId} {args : Array Value} {below : List Frame} {meth : Method} {c : Code} {Q : State → Prop} {h0 : Nat} {D : va_G} {dA : Nat → ClassId} {tb : Nat → Nat} {c0 k0 : Nat} {s0 : zh_S} {r : Int32} (X : zg_X p s m args meth c ze_M_listFor 11 zr_M (some .int) h0 D dA tb) (hR : zg_R R c0 k0 s0) (hF : 4 ≤ R.frames ∧ 116 ≤ R.locals) (hret : ∀ (pc : Nat) (lv : List (Nat × Value)), decode ze_M_listFor pc = .ok (.ireturn, 1) → zg_G p l e R s m args below meth c Q h0 D dA 11 c0 k0 s0 s0 pc lv [.int r]) (n : Nat) (r15 : zh_S → Nat → Int32 → Int32 → Int64 → Int32 → Int64 → Int32 → Option Int32) (hr15 : ∀ (a0 : Nat) (i1 : Int32) (i2 : Int32) (j3 : Int64) (i5 : Int32) (j6 : Int64) (i8 : Int32), r15 s0 a0 i1 i2 j3 i5 j6 i8 = some r → zg_G p l e R s m args below meth c Q h0 D dA 11 c0 k0 s0 s0 15 [(0, .ref (h0 + a0)), (1, .int i1), (2, .int i2), (3, .long j3), (5, .int i5), (6, .long j6), (8, .int i8)] []) : ∀ (a0 : Nat) (i1 : Int32) (i2 : Int32) (j3 : Int64) (i5 : Int32) (j6 : Int64) (i8 : Int32), zb_M_listFor_186 n r15 s0 a0 i1 i2 j3 i5 j6 i8 = some r → zg_G p l e R s m args below meth c Q h0 D dA 11 c0 k0 s0 s0 186 [(0, .ref (h0 + a0)), (1, .int i1), (2, .int i2), (3, .long j3), (5, .int i5), (6, .long j6), (8, .int i8)] [] := by
  obtain ⟨hx, hb, hml, hown, htT, hrt, hlk, x00, hIn⟩ := id X
  have hK := hIn.2.1
  have hT := hIn.2.2.1
  have hNe := hIn.2.2.2
  intro a0 i1 i2 j3 i5 j6 i8 hf
  rw [zb_M_listFor_186] at hf
  obtain ⟨i_1, e_i_1, hf⟩ := zx_l hf
  refine zg_s (pc' := 189) (lv' := [(8, .int i_1), (0, .ref (h0 + a0)), (1, .int i1), (2, .int i2), (3, .long j3), (5, .int i5), (6, .long j6)]) (fun _ _ _ _ _ hl w => lv_iinc (k := 6) (v := i_1) hx hb zd_M_listFor_186 hl rfl (by rw [e_i_1]; rfl) (by decide) rfl w) ?_
  refine zg_1 (pc' := 15) (fun _ _ _ _ _ hl w => lv_goto hx hb zd_M_listFor_189 (by decide) w) ?_
  refine zg_v [1, 2, 3, 4, 5, 6, 0] rfl ?_
  exact hr15 a0 i1 i2 j3 i5 j6 i_1 hf
set_option maxHeartbeats 4000000 in
theorem zw_M_listFor_138 {p : Program} {l : Launch} {e : Env} {R : Room} {s : State} {m : MethodId} {args : Array Value} {below : List Frame} {meth : Method} {c : Code} {Q : State → Prop} {h0 : Nat} {D : va_G} {dA : Nat → ClassId} {tb : Nat → Nat} {c0 k0 : Nat} {s0 : zh_S} {r : Int32} (X : zg_X p s m args meth c ze_M_listFor 11 zr_M (some .int) h0 D dA tb) (hR : zg_R R c0 k0 s0) (hF : 4 ≤ R.frames ∧ 116 ≤ R.locals) (hret : ∀ (pc : Nat) (lv : List (Nat × Value)), decode ze_M_listFor pc = .ok (.ireturn, 1) → zg_G p l e R s m args below meth c Q h0 D dA 11 c0 k0 s0 s0 pc lv [.int r]) (n : Nat) (r15 : zh_S → Nat → Int32 → Int32 → Int64 → Int32 → Int64 → Int32 → Option Int32) (hr15 : ∀ (a0 : Nat) (i1 : Int32) (i2 : Int32) (j3 : Int64) (i5 : Int32) (j6 : Int64) (i8 : Int32), r15 s0 a0 i1 i2 j3 i5 j6 i8 = some r → zg_G p l e R s m args below meth c Q h0 D dA 11 c0 k0 s0 s0 15 [(0, .ref (h0 + a0)), (1, .int i1), (2, .int i2), (3, .long j3), (5, .int i5), (6, .long j6), (8, .int i8)] []) : ∀ (a0 : Nat) (i1 : Int32) (i2 : Int32) (j3 : Int64) (i5 : Int32) (j6 : Int64) (i8 : Int32) (i9 : Int32) (it0 : Int32), zb_M_listFor_138 n r15 s0 a0 i1 i2 j3 i5 j6 i8 i9 it0 = some r → zg_G p l e R s m args below meth c Q h0 D dA 11 c0 k0 s0 s0 138 [(0, .ref (h0 + a0)), (1, .int i1), (2, .int i2), (3, .long j3), (5, .int i5), (6, .long j6), (8, .int i8), (9, .int i9)] [.int it0] := by
  obtain ⟨hx, hb, hml, hown, htT, hrt, hlk, x00, hIn⟩ := id X
  have hK := hIn.2.1
  have hT := hIn.2.2.1
  have hNe := hIn.2.2.2
  intro a0 i1 i2 j3 i5 j6 i8 i9 it0 hf
  rw [zb_M_listFor_138] at hf
  refine zg_s (pc' := 140) (lv' := [(10, .int it0), (0, .ref (h0 + a0)), (1, .int i1), (2, .int i2), (3, .long j3), (5, .int i5), (6, .long j6), (8, .int i8), (9, .int i9)]) (fun _ _ _ _ _ hl w => lv_istore hx hb zd_M_listFor_138 hl (by decide) rfl w) ?_
  refine zg_1 (pc' := 142) (fun _ _ _ _ _ hl w => lv_iload hx hb zd_M_listFor_140 (lv_at hl 8 rfl) w) ?_
  refine zg_2 (pc1 := 186) (pc2 := 145) (Classical.em _) (fun _ _ _ _ _ w1 w2 => lv_if_eq hx hb zd_M_listFor_142 (by decide) w1 w2) (fun hc => ?_) (fun hc => ?_)
  · rw [if_pos hc] at hf
    refine zg_v [1, 2, 3, 4, 5, 6, 7] rfl ?_
    exact zw_M_listFor_186 X hR hF hret n _ hr15 a0 i1 i2 j3 i5 j6 i8 hf
  · rw [if_neg hc] at hf
    refine zg_1 (pc' := 147) (fun _ _ _ _ _ hl w => lv_iload hx hb zd_M_listFor_145 (lv_at hl 0 rfl) w) ?_
    refine zg_2 (pc1 := 186) (pc2 := 150) (Classical.em _) (fun _ _ _ _ _ w1 w2 => lv_if_eq hx hb zd_M_listFor_147 (by decide) w1 w2) (fun hc => ?_) (fun hc => ?_)
    · rw [if_pos hc] at hf
      refine zg_v [1, 2, 3, 4, 5, 6, 7] rfl ?_
      exact zw_M_listFor_186 X hR hF hret n _ hr15 a0 i1 i2 j3 i5 j6 i8 hf
    · rw [if_neg hc] at hf
      refine zg_1 (pc' := 151) (fun _ _ _ _ _ hl w => lv_aload_n hx hb zd_M_listFor_150 rfl (lv_at hl 1 rfl) w) ?_
      refine zg_1 (pc' := 152) (fun _ _ _ _ _ hl w => lv_aload_n hx hb zd_M_listFor_151 rfl (lv_at hl 1 rfl) w) ?_
      obtain ⟨h_1, hf⟩ := zx_ck hf
      obtain ⟨a_2, h_3, hf⟩ := zx_p hf
      refine zg_get (pc' := 155) (ci := 8) hx hb htT zi_M hown hK h_1 rfl rfl 18 (by decide) (htT _ zt_823) (fun _ h9 => h9) (zx_hv h_3) zd_M_listFor_152 rfl ?_
      refine zg_1 (pc' := 157) (fun _ _ _ _ _ hl w => lv_bipush (v := (6 : Int32)) hx hb zd_M_listFor_155 (by decide) w) ?_
      refine zg_1 (pc' := 159) (fun _ _ _ _ _ hl w => lv_iload hx hb zd_M_listFor_157 (lv_at hl 7 rfl) w) ?_
      refine zg_1 (pc' := 160) (fun _ _ _ _ _ hl w => lv_imul hx hb zd_M_listFor_159 w) ?_
      refine zg_1 (pc' := 161) (fun _ _ _ _ _ hl w => lv_iconst (v := (4 : Int32)) hx hb zd_M_listFor_160 (by decide) w) ?_
      refine zg_1 (pc' := 162) (fun _ _ _ _ _ hl w => lv_iadd hx hb zd_M_listFor_161 w) ?_
      obtain ⟨h_4, hf⟩ := zx_ck hf
      refine zg_lald (pc' := 163) hx hb hK h_4 zd_M_listFor_162 rfl ?_
      refine zg_1 (pc' := 164) (fun _ _ _ _ _ hl w => lv_aload_n hx hb zd_M_listFor_163 rfl (lv_at hl 1 rfl) w) ?_
      obtain ⟨a_5, h_6, hf⟩ := zx_p hf
      refine zg_get (pc' := 167) (ci := 8) hx hb htT zi_M hown hK h_1 rfl rfl 18 (by decide) (htT _ zt_823) (fun _ h9 => h9) (zx_hv h_6) zd_M_listFor_164 rfl ?_
      refine zg_1 (pc' := 169) (fun _ _ _ _ _ hl w => lv_bipush (v := (6 : Int32)) hx hb zd_M_listFor_167 (by decide) w) ?_
      refine zg_1 (pc' := 171) (fun _ _ _ _ _ hl w => lv_iload hx hb zd_M_listFor_169 (lv_at hl 7 rfl) w) ?_
      refine zg_1 (pc' := 172) (fun _ _ _ _ _ hl w => lv_imul hx hb zd_M_listFor_171 w) ?_
      refine zg_1 (pc' := 173) (fun _ _ _ _ _ hl w => lv_iconst (v := (5 : Int32)) hx hb zd_M_listFor_172 (by decide) w) ?_
      refine zg_1 (pc' := 174) (fun _ _ _ _ _ hl w => lv_iadd hx hb zd_M_listFor_173 w) ?_
      obtain ⟨h_7, hf⟩ := zx_ck hf
      refine zg_lald (pc' := 175) hx hb hK h_7 zd_M_listFor_174 rfl ?_
      refine zg_1 (pc' := 176) (fun _ _ _ _ _ hl w => lv_iload_n hx hb zd_M_listFor_175 rfl (lv_at hl 3 rfl) w) ?_
      obtain ⟨i_8, hq, hf⟩ := zx_p hf
      refine zg_call (pc' := 179) (y := s0) (rv := (some (.int i_8))) (rest := []) X hR ⟨Nat.le_refl _, Nat.le_refl _⟩ (fun H locs ls k j hsz hI hU hk => va_runV (As := [.long (zh_J s0 a_2 ((((6 : Int32) * i8) + (4 : Int32)).toNatClampNeg)), .long (zh_J s0 a_5 ((((6 : Int32) * i8) + (5 : Int32)).toNatClampNeg)), .int i2]) (rest := []) ⟨hx, hb, hml, hown, htT⟩ (zc_M_signedBy l h0 D dA tb n hq) (cwV 3 htT (zw_gV zt_1094 zt_1096 zt_57 zt_71 zt_1097) rfl rfl rfl (by decide +kernel) ⟨Nat.le_trans (Nat.le_of_ble_eq_true rfl) hF.1, Nat.le_trans (Nat.le_of_ble_eq_true rfl) hF.2⟩) ⟨(zg_pre hU).1, zg_recv hK hI h_1 rfl, (zg_pre hU).2⟩ rfl rfl hsz rfl (lv_room (Nat.le_of_ble_eq_true rfl)) zd_M_listFor_176 hk) rfl ?_
      refine zg_2 (pc1 := 186) (pc2 := 182) (Classical.em _) (fun _ _ _ _ _ w1 w2 => lv_if_eq hx hb zd_M_listFor_179 (by decide) w1 w2) (fun hc => ?_) (fun hc => ?_)
      · rw [if_pos hc] at hf
        refine zg_v [1, 2, 3, 4, 5, 6, 7] rfl ?_
        exact zw_M_listFor_186 X hR hF hret n _ hr15 a0 i1 i2 j3 i5 j6 i8 hf
      · rw [if_neg hc] at hf
        refine zg_1 (pc' := 184) (fun _ _ _ _ _ hl w => lv_iload hx hb zd_M_listFor_182 (lv_at hl 7 rfl) w) ?_
        refine zg_s (pc' := 186) (lv' := [(5, .int i8), (10, .int it0), (0, .ref (h0 + a0)), (1, .int i1), (2, .int i2), (3, .long j3), (6, .long j6), (8, .int i8), (9, .int i9)]) (fun _ _ _ _ _ hl w => lv_istore hx hb zd_M_listFor_184 hl (by decide) rfl w) ?_
        refine zg_v [2, 3, 4, 5, 0, 6, 7] rfl ?_
        exact zw_M_listFor_186 X hR hF hret n _ hr15 a0 i1 i2 j3 i8 j6 i8 hf
set_option maxHeartbeats 4000000 in
theorem zw_M_listFor_133 {p : Program} {l : Launch} {e : Env} {R : Room} {s : State} {m : MethodId} {args : Array Value} {below : List Frame} {meth : Method} {c : Code} {Q : State → Prop} {h0 : Nat} {D : va_G} {dA : Nat → ClassId} {tb : Nat → Nat} {c0 k0 : Nat} {s0 : zh_S} {r : Int32} (X : zg_X p s m args meth c ze_M_listFor 11 zr_M (some .int) h0 D dA tb) (hR : zg_R R c0 k0 s0) (hF : 4 ≤ R.frames ∧ 116 ≤ R.locals) (hret : ∀ (pc : Nat) (lv : List (Nat × Value)), decode ze_M_listFor pc = .ok (.ireturn, 1) → zg_G p l e R s m args below meth c Q h0 D dA 11 c0 k0 s0 s0 pc lv [.int r]) (n : Nat) (r15 : zh_S → Nat → Int32 → Int32 → Int64 → Int32 → Int64 → Int32 → Option Int32) (hr15 : ∀ (a0 : Nat) (i1 : Int32) (i2 : Int32) (j3 : Int64) (i5 : Int32) (j6 : Int64) (i8 : Int32), r15 s0 a0 i1 i2 j3 i5 j6 i8 = some r → zg_G p l e R s m args below meth c Q h0 D dA 11 c0 k0 s0 s0 15 [(0, .ref (h0 + a0)), (1, .int i1), (2, .int i2), (3, .long j3), (5, .int i5), (6, .long j6), (8, .int i8)] []) : ∀ (a0 : Nat) (i1 : Int32) (i2 : Int32) (j3 : Int64) (i5 : Int32) (j6 : Int64) (i8 : Int32) (i9 : Int32), zb_M_listFor_133 n r15 s0 a0 i1 i2 j3 i5 j6 i8 i9 = some r → zg_G p l e R s m args below meth c Q h0 D dA 11 c0 k0 s0 s0 133 [(0, .ref (h0 + a0)), (1, .int i1), (2, .int i2), (3, .long j3), (5, .int i5), (6, .long j6), (8, .int i8), (9, .int i9)] [] := by
  obtain ⟨hx, hb, hml, hown, htT, hrt, hlk, x00, hIn⟩ := id X
  have hK := hIn.2.1
  have hT := hIn.2.2.1
  have hNe := hIn.2.2.2
  intro a0 i1 i2 j3 i5 j6 i8 i9 hf
  rw [zb_M_listFor_133] at hf
  refine zg_1 (pc' := 134) (fun _ _ _ _ _ hl w => lv_iconst (v := (1 : Int32)) hx hb zd_M_listFor_133 (by decide) w) ?_
  refine zg_1 (pc' := 138) (fun _ _ _ _ _ hl w => lv_goto hx hb zd_M_listFor_134 (by decide) w) ?_
  exact zw_M_listFor_138 X hR hF hret n _ hr15 a0 i1 i2 j3 i5 j6 i8 i9 (1 : Int32) hf
set_option maxHeartbeats 4000000 in
theorem zw_M_listFor_98 {p : Program} {l : Launch} {e : Env} {R : Room} {s : State} {m : MethodId} {args : Array Value} {below : List Frame} {meth : Method} {c : Code} {Q : State → Prop} {h0 : Nat} {D : va_G} {dA : Nat → ClassId} {tb : Nat → Nat} {c0 k0 : Nat} {s0 : zh_S} {r : Int32} (X : zg_X p s m args meth c ze_M_listFor 11 zr_M (some .int) h0 D dA tb) (hR : zg_R R c0 k0 s0) (hF : 4 ≤ R.frames ∧ 116 ≤ R.locals) (hret : ∀ (pc : Nat) (lv : List (Nat × Value)), decode ze_M_listFor pc = .ok (.ireturn, 1) → zg_G p l e R s m args below meth c Q h0 D dA 11 c0 k0 s0 s0 pc lv [.int r]) (n : Nat) (r15 : zh_S → Nat → Int32 → Int32 → Int64 → Int32 → Int64 → Int32 → Option Int32) (hr15 : ∀ (a0 : Nat) (i1 : Int32) (i2 : Int32) (j3 : Int64) (i5 : Int32) (j6 : Int64) (i8 : Int32), r15 s0 a0 i1 i2 j3 i5 j6 i8 = some r → zg_G p l e R s m args below meth c Q h0 D dA 11 c0 k0 s0 s0 15 [(0, .ref (h0 + a0)), (1, .int i1), (2, .int i2), (3, .long j3), (5, .int i5), (6, .long j6), (8, .int i8)] []) : ∀ (a0 : Nat) (i1 : Int32) (i2 : Int32) (j3 : Int64) (i5 : Int32) (j6 : Int64) (i8 : Int32) (it0 : Int32), zb_M_listFor_98 n r15 s0 a0 i1 i2 j3 i5 j6 i8 it0 = some r → zg_G p l e R s m args below meth c Q h0 D dA 11 c0 k0 s0 s0 98 [(0, .ref (h0 + a0)), (1, .int i1), (2, .int i2), (3, .long j3), (5, .int i5), (6, .long j6), (8, .int i8)] [.int it0] := by
  obtain ⟨hx, hb, hml, hown, htT, hrt, hlk, x00, hIn⟩ := id X
  have hK := hIn.2.1
  have hT := hIn.2.2.1
  have hNe := hIn.2.2.2
  intro a0 i1 i2 j3 i5 j6 i8 it0 hf
  rw [zb_M_listFor_98] at hf
  refine zg_s (pc' := 100) (lv' := [(9, .int it0), (0, .ref (h0 + a0)), (1, .int i1), (2, .int i2), (3, .long j3), (5, .int i5), (6, .long j6), (8, .int i8)]) (fun _ _ _ _ _ hl w => lv_istore hx hb zd_M_listFor_98 hl (by decide) rfl w) ?_
  refine zg_1 (pc' := 102) (fun _ _ _ _ _ hl w => lv_iload hx hb zd_M_listFor_100 (lv_at hl 5 rfl) w) ?_
  refine zg_2 (pc1 := 133) (pc2 := 105) (Classical.em _) (fun _ _ _ _ _ w1 w2 => lv_if_lt hx hb zd_M_listFor_102 (by decide) w1 w2) (fun hc => ?_) (fun hc => ?_)
  · rw [if_pos hc] at hf
    refine zg_v [1, 2, 3, 4, 5, 6, 7, 0] rfl ?_
    exact zw_M_listFor_133 X hR hF hret n _ hr15 a0 i1 i2 j3 i5 j6 i8 it0 hf
  · rw [if_neg hc] at hf
    refine zg_1 (pc' := 106) (fun _ _ _ _ _ hl w => lv_aload_n hx hb zd_M_listFor_105 rfl (lv_at hl 1 rfl) w) ?_
    obtain ⟨h_1, hf⟩ := zx_ck hf
    obtain ⟨a_2, h_3, hf⟩ := zx_p hf
    refine zg_get (pc' := 109) (ci := 8) hx hb htT zi_M hown hK h_1 rfl rfl 18 (by decide) (htT _ zt_823) (fun _ h9 => h9) (zx_hv h_3) zd_M_listFor_106 rfl ?_
    refine zg_1 (pc' := 111) (fun _ _ _ _ _ hl w => lv_bipush (v := (6 : Int32)) hx hb zd_M_listFor_109 (by decide) w) ?_
    refine zg_1 (pc' := 113) (fun _ _ _ _ _ hl w => lv_iload hx hb zd_M_listFor_111 (lv_at hl 7 rfl) w) ?_
    refine zg_1 (pc' := 114) (fun _ _ _ _ _ hl w => lv_imul hx hb zd_M_listFor_113 w) ?_
    refine zg_1 (pc' := 115) (fun _ _ _ _ _ hl w => lv_iconst (v := (1 : Int32)) hx hb zd_M_listFor_114 (by decide) w) ?_
    refine zg_1 (pc' := 116) (fun _ _ _ _ _ hl w => lv_iadd hx hb zd_M_listFor_115 w) ?_
    obtain ⟨h_4, hf⟩ := zx_ck hf
    refine zg_lald (pc' := 117) hx hb hK h_4 zd_M_listFor_116 rfl ?_
    refine zg_1 (pc' := 118) (fun _ _ _ _ _ hl w => lv_aload_n hx hb zd_M_listFor_117 rfl (lv_at hl 1 rfl) w) ?_
    obtain ⟨a_5, h_6, hf⟩ := zx_p hf
    refine zg_get (pc' := 121) (ci := 8) hx hb htT zi_M hown hK h_1 rfl rfl 18 (by decide) (htT _ zt_823) (fun _ h9 => h9) (zx_hv h_6) zd_M_listFor_118 rfl ?_
    refine zg_1 (pc' := 123) (fun _ _ _ _ _ hl w => lv_bipush (v := (6 : Int32)) hx hb zd_M_listFor_121 (by decide) w) ?_
    refine zg_1 (pc' := 125) (fun _ _ _ _ _ hl w => lv_iload hx hb zd_M_listFor_123 (lv_at hl 5 rfl) w) ?_
    refine zg_1 (pc' := 126) (fun _ _ _ _ _ hl w => lv_imul hx hb zd_M_listFor_125 w) ?_
    refine zg_1 (pc' := 127) (fun _ _ _ _ _ hl w => lv_iconst (v := (1 : Int32)) hx hb zd_M_listFor_126 (by decide) w) ?_
    refine zg_1 (pc' := 128) (fun _ _ _ _ _ hl w => lv_iadd hx hb zd_M_listFor_127 w) ?_
    obtain ⟨h_7, hf⟩ := zx_ck hf
    refine zg_lald (pc' := 129) hx hb hK h_7 zd_M_listFor_128 rfl ?_
    refine zg_1 (pc' := 130) (fun _ _ _ _ _ hl w => W.lcmp hx hb zd_M_listFor_129 w) ?_
    refine zg_2 (pc1 := 137) (pc2 := 133) (Classical.em _) (fun _ _ _ _ _ w1 w2 => lv_if_le hx hb zd_M_listFor_130 (by decide) w1 w2) (fun hc => ?_) (fun hc => ?_)
    · rw [if_pos hc] at hf
      refine zg_1 (pc' := 138) (fun _ _ _ _ _ hl w => lv_iconst (v := (0 : Int32)) hx hb zd_M_listFor_137 (by decide) w) ?_
      refine zg_v [1, 2, 3, 4, 5, 6, 7, 0] rfl ?_
      exact zw_M_listFor_138 X hR hF hret n _ hr15 a0 i1 i2 j3 i5 j6 i8 it0 (0 : Int32) hf
    · rw [if_neg hc] at hf
      refine zg_v [1, 2, 3, 4, 5, 6, 7, 0] rfl ?_
      exact zw_M_listFor_133 X hR hF hret n _ hr15 a0 i1 i2 j3 i5 j6 i8 it0 hf
set_option maxHeartbeats 4000000 in
theorem zw_M_listFor_97 {p : Program} {l : Launch} {e : Env} {R : Room} {s : State} {m : MethodId} {args : Array Value} {below : List Frame} {meth : Method} {c : Code} {Q : State → Prop} {h0 : Nat} {D : va_G} {dA : Nat → ClassId} {tb : Nat → Nat} {c0 k0 : Nat} {s0 : zh_S} {r : Int32} (X : zg_X p s m args meth c ze_M_listFor 11 zr_M (some .int) h0 D dA tb) (hR : zg_R R c0 k0 s0) (hF : 4 ≤ R.frames ∧ 116 ≤ R.locals) (hret : ∀ (pc : Nat) (lv : List (Nat × Value)), decode ze_M_listFor pc = .ok (.ireturn, 1) → zg_G p l e R s m args below meth c Q h0 D dA 11 c0 k0 s0 s0 pc lv [.int r]) (n : Nat) (r15 : zh_S → Nat → Int32 → Int32 → Int64 → Int32 → Int64 → Int32 → Option Int32) (hr15 : ∀ (a0 : Nat) (i1 : Int32) (i2 : Int32) (j3 : Int64) (i5 : Int32) (j6 : Int64) (i8 : Int32), r15 s0 a0 i1 i2 j3 i5 j6 i8 = some r → zg_G p l e R s m args below meth c Q h0 D dA 11 c0 k0 s0 s0 15 [(0, .ref (h0 + a0)), (1, .int i1), (2, .int i2), (3, .long j3), (5, .int i5), (6, .long j6), (8, .int i8)] []) : ∀ (a0 : Nat) (i1 : Int32) (i2 : Int32) (j3 : Int64) (i5 : Int32) (j6 : Int64) (i8 : Int32), zb_M_listFor_97 n r15 s0 a0 i1 i2 j3 i5 j6 i8 = some r → zg_G p l e R s m args below meth c Q h0 D dA 11 c0 k0 s0 s0 97 [(0, .ref (h0 + a0)), (1, .int i1), (2, .int i2), (3, .long j3), (5, .int i5), (6, .long j6), (8, .int i8)] [] := by
  obtain ⟨hx, hb, hml, hown, htT, hrt, hlk, x00, hIn⟩ := id X
  have hK := hIn.2.1
  have hT := hIn.2.2.1
  have hNe := hIn.2.2.2
  intro a0 i1 i2 j3 i5 j6 i8 hf
  rw [zb_M_listFor_97] at hf
  refine zg_1 (pc' := 98) (fun _ _ _ _ _ hl w => lv_iconst (v := (0 : Int32)) hx hb zd_M_listFor_97 (by decide) w) ?_
  exact zw_M_listFor_98 X hR hF hret n _ hr15 a0 i1 i2 j3 i5 j6 i8 (0 : Int32) hf
set_option maxHeartbeats 4000000 in
theorem zw_M_listFor_93 {p : Program} {l : Launch} {e : Env} {R : Room} {s : State} {m : MethodId} {args : Array Value} {below : List Frame} {meth : Method} {c : Code} {Q : State → Prop} {h0 : Nat} {D : va_G} {dA : Nat → ClassId} {tb : Nat → Nat} {c0 k0 : Nat} {s0 : zh_S} {r : Int32} (X : zg_X p s m args meth c ze_M_listFor 11 zr_M (some .int) h0 D dA tb) (hR : zg_R R c0 k0 s0) (hF : 4 ≤ R.frames ∧ 116 ≤ R.locals) (hret : ∀ (pc : Nat) (lv : List (Nat × Value)), decode ze_M_listFor pc = .ok (.ireturn, 1) → zg_G p l e R s m args below meth c Q h0 D dA 11 c0 k0 s0 s0 pc lv [.int r]) (n : Nat) (r15 : zh_S → Nat → Int32 → Int32 → Int64 → Int32 → Int64 → Int32 → Option Int32) (hr15 : ∀ (a0 : Nat) (i1 : Int32) (i2 : Int32) (j3 : Int64) (i5 : Int32) (j6 : Int64) (i8 : Int32), r15 s0 a0 i1 i2 j3 i5 j6 i8 = some r → zg_G p l e R s m args below meth c Q h0 D dA 11 c0 k0 s0 s0 15 [(0, .ref (h0 + a0)), (1, .int i1), (2, .int i2), (3, .long j3), (5, .int i5), (6, .long j6), (8, .int i8)] []) : ∀ (a0 : Nat) (i1 : Int32) (i2 : Int32) (j3 : Int64) (i5 : Int32) (j6 : Int64) (i8 : Int32), zb_M_listFor_93 n r15 s0 a0 i1 i2 j3 i5 j6 i8 = some r → zg_G p l e R s m args below meth c Q h0 D dA 11 c0 k0 s0 s0 93 [(0, .ref (h0 + a0)), (1, .int i1), (2, .int i2), (3, .long j3), (5, .int i5), (6, .long j6), (8, .int i8)] [] := by
  obtain ⟨hx, hb, hml, hown, htT, hrt, hlk, x00, hIn⟩ := id X
  have hK := hIn.2.1
  have hT := hIn.2.2.1
  have hNe := hIn.2.2.2
  intro a0 i1 i2 j3 i5 j6 i8 hf
  rw [zb_M_listFor_93] at hf
  refine zg_1 (pc' := 94) (fun _ _ _ _ _ hl w => lv_iconst (v := (1 : Int32)) hx hb zd_M_listFor_93 (by decide) w) ?_
  refine zg_1 (pc' := 98) (fun _ _ _ _ _ hl w => lv_goto hx hb zd_M_listFor_94 (by decide) w) ?_
  exact zw_M_listFor_98 X hR hF hret n _ hr15 a0 i1 i2 j3 i5 j6 i8 (1 : Int32) hf
set_option maxHeartbeats 4000000 in
theorem zw_M_listFor_15 {p : Program} {l : Launch} {e : Env} {R : Room} {s : State} {m : MethodId} {args : Array Value} {below : List Frame} {meth : Method} {c : Code} {Q : State → Prop} {h0 : Nat} {D : va_G} {dA : Nat → ClassId} {tb : Nat → Nat} {c0 k0 : Nat} {s0 : zh_S} {r : Int32} (X : zg_X p s m args meth c ze_M_listFor 11 zr_M (some .int) h0 D dA tb) (hR : zg_R R c0 k0 s0) (hF : 4 ≤ R.frames ∧ 116 ≤ R.locals) (hret : ∀ (pc : Nat) (lv : List (Nat × Value)), decode ze_M_listFor pc = .ok (.ireturn, 1) → zg_G p l e R s m args below meth c Q h0 D dA 11 c0 k0 s0 s0 pc lv [.int r]) (n : Nat) (k : Nat) : ∀ (a0 : Nat) (i1 : Int32) (i2 : Int32) (j3 : Int64) (i5 : Int32) (j6 : Int64) (i8 : Int32), zl_M_listFor_15 n k s0 a0 i1 i2 j3 i5 j6 i8 = some r → zg_G p l e R s m args below meth c Q h0 D dA 11 c0 k0 s0 s0 15 [(0, .ref (h0 + a0)), (1, .int i1), (2, .int i2), (3, .long j3), (5, .int i5), (6, .long j6), (8, .int i8)] [] := by
  obtain ⟨hx, hb, hml, hown, htT, hrt, hlk, x00, hIn⟩ := id X
  have hK := hIn.2.1
  have hT := hIn.2.2.1
  have hNe := hIn.2.2.2
  induction k with
  | zero => intro a0 i1 i2 j3 i5 j6 i8 hf; cases hf
  | succ k ih =>
    intro a0 i1 i2 j3 i5 j6 i8 hf
    rw [zl_M_listFor_15] at hf
    refine zg_1 (pc' := 17) (fun _ _ _ _ _ hl w => lv_iload hx hb zd_M_listFor_15 (lv_at hl 6 rfl) w) ?_
    refine zg_1 (pc' := 18) (fun _ _ _ _ _ hl w => lv_aload_n hx hb zd_M_listFor_17 rfl (lv_at hl 0 rfl) w) ?_
    obtain ⟨h_1, hf⟩ := zx_ck hf
    refine zg_get (pc' := 21) (ci := 8) hx hb htT zi_M hown hK h_1 rfl rfl 17 (by decide) (htT _ zt_822) (fun _ h9 => h9) rfl zd_M_listFor_18 rfl ?_
    refine zg_2 (pc1 := 192) (pc2 := 24) (Classical.em _) (fun _ _ _ _ _ w1 w2 => lv_icmp_ge hx hb zd_M_listFor_21 (by decide) w1 w2) (fun hc => ?_) (fun hc => ?_)
    · rw [if_pos hc] at hf
      refine zg_1 (pc' := 194) (fun _ _ _ _ _ hl w => lv_iload hx hb zd_M_listFor_192 (lv_at hl 4 rfl) w) ?_
      obtain rfl := zx_r1 hf
      exact hret _ _ zd_M_listFor_194
    · rw [if_neg hc] at hf
      refine zg_1 (pc' := 25) (fun _ _ _ _ _ hl w => lv_aload_n hx hb zd_M_listFor_24 rfl (lv_at hl 0 rfl) w) ?_
      obtain ⟨a_2, h_3, hf⟩ := zx_p hf
      refine zg_get (pc' := 28) (ci := 8) hx hb htT zi_M hown hK h_1 rfl rfl 18 (by decide) (htT _ zt_823) (fun _ h9 => h9) (zx_hv h_3) zd_M_listFor_25 rfl ?_
      refine zg_1 (pc' := 30) (fun _ _ _ _ _ hl w => lv_bipush (v := (6 : Int32)) hx hb zd_M_listFor_28 (by decide) w) ?_
      refine zg_1 (pc' := 32) (fun _ _ _ _ _ hl w => lv_iload hx hb zd_M_listFor_30 (lv_at hl 6 rfl) w) ?_
      refine zg_1 (pc' := 33) (fun _ _ _ _ _ hl w => lv_imul hx hb zd_M_listFor_32 w) ?_
      obtain ⟨h_4, hf⟩ := zx_ck hf
      refine zg_lald (pc' := 34) hx hb hK h_4 zd_M_listFor_33 rfl ?_
      refine zg_1 (pc' := 35) (fun _ _ _ _ _ hl w => lv_aload_n hx hb zd_M_listFor_34 rfl (lv_at hl 0 rfl) w) ?_
      refine zg_1 (pc' := 36) (fun _ _ _ _ _ hl w => lv_iload_n hx hb zd_M_listFor_35 rfl (lv_at hl 1 rfl) w) ?_
      refine zg_1 (pc' := 37) (fun _ _ _ _ _ hl w => lv_iconst (v := (1 : Int32)) hx hb zd_M_listFor_36 (by decide) w) ?_
      obtain ⟨j_5, hq, hf⟩ := zx_p hf
      refine zg_call (pc' := 40) (y := s0) (rv := (some (.long j_5))) (rest := [.long (zh_J s0 a_2 (((6 : Int32) * i8).toNatClampNeg))]) X hR ⟨Nat.le_refl _, Nat.le_refl _⟩ (fun H locs ls k j hsz hI hU hk => va_runV (As := [.int i1, .int (1 : Int32)]) (rest := [.long (zh_J s0 a_2 (((6 : Int32) * i8).toNatClampNeg))]) ⟨hx, hb, hml, hown, htT⟩ (zc_M_of l h0 D dA tb n hq) (cwV 2 htT (zw_gV zt_1066 zt_1068 zt_52 zt_71 zt_1069) rfl rfl rfl (by decide +kernel) ⟨Nat.le_trans (Nat.le_of_ble_eq_true rfl) hF.1, Nat.le_trans (Nat.le_of_ble_eq_true rfl) hF.2⟩) ⟨(zg_pre hU).1, zg_recv hK hI h_1 rfl, (zg_pre hU).2⟩ rfl rfl hsz rfl (lv_room (Nat.le_of_ble_eq_true rfl)) zd_M_listFor_37 hk) rfl ?_
      refine zg_1 (pc' := 41) (fun _ _ _ _ _ hl w => W.lcmp hx hb zd_M_listFor_40 w) ?_
      refine zg_2 (pc1 := 97) (pc2 := 44) (Classical.em _).symm (fun _ _ _ _ _ w1 w2 => lv_if_ne hx hb zd_M_listFor_41 (by decide) w1 w2) (fun hc => ?_) (fun hc => ?_)
      · rw [if_neg hc] at hf
        exact zw_M_listFor_97 X hR hF hret n _ ih a0 i1 i2 j3 i5 j6 i8 hf
      · rw [if_pos hc] at hf
        refine zg_1 (pc' := 45) (fun _ _ _ _ _ hl w => lv_lload_n hx hb zd_M_listFor_44 rfl (lv_at hl 3 rfl) w) ?_
        refine zg_1 (pc' := 46) (fun _ _ _ _ _ hl w => lv_aload_n hx hb zd_M_listFor_45 rfl (lv_at hl 0 rfl) w) ?_
        obtain ⟨a_6, h_7, hf⟩ := zx_p hf
        refine zg_get (pc' := 49) (ci := 8) hx hb htT zi_M hown hK h_1 rfl rfl 18 (by decide) (htT _ zt_823) (fun _ h9 => h9) (zx_hv h_7) zd_M_listFor_46 rfl ?_
        refine zg_1 (pc' := 51) (fun _ _ _ _ _ hl w => lv_bipush (v := (6 : Int32)) hx hb zd_M_listFor_49 (by decide) w) ?_
        refine zg_1 (pc' := 53) (fun _ _ _ _ _ hl w => lv_iload hx hb zd_M_listFor_51 (lv_at hl 6 rfl) w) ?_
        refine zg_1 (pc' := 54) (fun _ _ _ _ _ hl w => lv_imul hx hb zd_M_listFor_53 w) ?_
        refine zg_1 (pc' := 55) (fun _ _ _ _ _ hl w => lv_iconst (v := (1 : Int32)) hx hb zd_M_listFor_54 (by decide) w) ?_
        refine zg_1 (pc' := 56) (fun _ _ _ _ _ hl w => lv_iadd hx hb zd_M_listFor_55 w) ?_
        obtain ⟨h_8, hf⟩ := zx_ck hf
        refine zg_lald (pc' := 57) hx hb hK h_8 zd_M_listFor_56 rfl ?_
        refine zg_1 (pc' := 58) (fun _ _ _ _ _ hl w => lv_aload_n hx hb zd_M_listFor_57 rfl (lv_at hl 0 rfl) w) ?_
        obtain ⟨a_9, h_10, hf⟩ := zx_p hf
        refine zg_get (pc' := 61) (ci := 8) hx hb htT zi_M hown hK h_1 rfl rfl 18 (by decide) (htT _ zt_823) (fun _ h9 => h9) (zx_hv h_10) zd_M_listFor_58 rfl ?_
        refine zg_1 (pc' := 63) (fun _ _ _ _ _ hl w => lv_bipush (v := (6 : Int32)) hx hb zd_M_listFor_61 (by decide) w) ?_
        refine zg_1 (pc' := 65) (fun _ _ _ _ _ hl w => lv_iload hx hb zd_M_listFor_63 (lv_at hl 6 rfl) w) ?_
        refine zg_1 (pc' := 66) (fun _ _ _ _ _ hl w => lv_imul hx hb zd_M_listFor_65 w) ?_
        refine zg_1 (pc' := 67) (fun _ _ _ _ _ hl w => lv_iconst (v := (2 : Int32)) hx hb zd_M_listFor_66 (by decide) w) ?_
        refine zg_1 (pc' := 68) (fun _ _ _ _ _ hl w => lv_iadd hx hb zd_M_listFor_67 w) ?_
        obtain ⟨h_11, hf⟩ := zx_ck hf
        refine zg_lald (pc' := 69) hx hb hK h_11 zd_M_listFor_68 rfl ?_
        obtain ⟨i_12, hq, hf⟩ := zx_p hf
        refine zg_call (pc' := 72) (y := s0) (rv := (some (.int i_12))) (rest := []) X hR ⟨Nat.le_refl _, Nat.le_refl _⟩ (fun H locs ls k j hsz hI hU hk => va_runS (As := [.long j3, .long (zh_J s0 a_6 ((((6 : Int32) * i8) + (1 : Int32)).toNatClampNeg)), .long (zh_J s0 a_9 ((((6 : Int32) * i8) + (2 : Int32)).toNatClampNeg))]) (rest := []) ⟨hx, hb, hml, hown, htT⟩ (zc_M_in l h0 D dA tb n hq) (va_cwS 3 htT (zw_gS zt_909 zt_910 zt_71 zt_911) rfl rfl rfl (by decide +kernel) ⟨Nat.le_trans (Nat.le_of_ble_eq_true rfl) hF.1, Nat.le_trans (Nat.le_of_ble_eq_true rfl) hF.2⟩) (zg_pre hU) rfl rfl hsz rfl (lv_room (Nat.le_of_ble_eq_true rfl)) zd_M_listFor_69 hk) rfl ?_
        refine zg_2 (pc1 := 97) (pc2 := 75) (Classical.em _) (fun _ _ _ _ _ w1 w2 => lv_if_eq hx hb zd_M_listFor_72 (by decide) w1 w2) (fun hc => ?_) (fun hc => ?_)
        · rw [if_pos hc] at hf
          exact zw_M_listFor_97 X hR hF hret n _ ih a0 i1 i2 j3 i5 j6 i8 hf
        · rw [if_neg hc] at hf
          refine zg_1 (pc' := 77) (fun _ _ _ _ _ hl w => lv_lload hx hb zd_M_listFor_75 (lv_at hl 5 rfl) w) ?_
          refine zg_1 (pc' := 78) (fun _ _ _ _ _ hl w => lv_lconst (v := (0 : Int64)) hx hb zd_M_listFor_77 (by decide) w) ?_
          refine zg_1 (pc' := 79) (fun _ _ _ _ _ hl w => W.lcmp hx hb zd_M_listFor_78 w) ?_
          refine zg_2 (pc1 := 93) (pc2 := 82) (Classical.em _) (fun _ _ _ _ _ w1 w2 => lv_if_eq hx hb zd_M_listFor_79 (by decide) w1 w2) (fun hc => ?_) (fun hc => ?_)
          · rw [if_pos hc] at hf
            exact zw_M_listFor_93 X hR hF hret n _ ih a0 i1 i2 j3 i5 j6 i8 hf
          · rw [if_neg hc] at hf
            refine zg_1 (pc' := 84) (fun _ _ _ _ _ hl w => lv_lload hx hb zd_M_listFor_82 (lv_at hl 5 rfl) w) ?_
            refine zg_1 (pc' := 87) (fun _ _ _ _ _ hl w => lv_ldc2 (v := (2 : Int64)) hx hb hown (htT _ zt_906) zd_M_listFor_84 w) ?_
            refine zg_1 (pc' := 88) (fun _ _ _ _ _ hl w => lv_land hx hb zd_M_listFor_87 w) ?_
            refine zg_1 (pc' := 89) (fun _ _ _ _ _ hl w => lv_lconst (v := (0 : Int64)) hx hb zd_M_listFor_88 (by decide) w) ?_
            refine zg_1 (pc' := 90) (fun _ _ _ _ _ hl w => W.lcmp hx hb zd_M_listFor_89 w) ?_
            refine zg_2 (pc1 := 97) (pc2 := 93) (Classical.em _) (fun _ _ _ _ _ w1 w2 => lv_if_eq hx hb zd_M_listFor_90 (by decide) w1 w2) (fun hc => ?_) (fun hc => ?_)
            · rw [if_pos hc] at hf
              exact zw_M_listFor_97 X hR hF hret n _ ih a0 i1 i2 j3 i5 j6 i8 hf
            · rw [if_neg hc] at hf
              exact zw_M_listFor_93 X hR hF hret n _ ih a0 i1 i2 j3 i5 j6 i8 hf
set_option maxHeartbeats 4000000 in
theorem zc_M_listFor (l : Launch) (h0 : Nat) (D : va_G) (dA : Nat → ClassId) (tb : Nat → Nat) (n : Nat) {s0 : zh_S} {a0 : Nat} {i1 : Int32} {i2 : Int32} {j3 : Int64} {r : Int32} (hf : zf_M_listFor n s0 a0 i1 i2 j3 = some r) : zc_M l zn_M_listFor zs_M_listFor 4 116 h0 D dA tb [.ref (h0 + a0), .int i1, .int i2, .long j3] s0 (some (.int r)) s0 := by
  rw [zf_M_listFor] at hf
  refine zc_of (cc := ze_M_listFor) (maxL := 11) (ret := (some .int)) (lv := [(0, .ref (h0 + a0)), (1, .int i1), (2, .int i2), (3, .long j3)]) (by decide) rfl (Nat.le_of_ble_eq_true rfl) rfl ?_
  intro p e s m args below meth c X hnm
  obtain ⟨hx, hb, hml, hown, htT, hrt, hlk, x00, hIn⟩ := id X
  have hK := hIn.2.1
  have hT := hIn.2.2.1
  have hNe := hIn.2.2.2
  have hR : zg_R { frames := 4, cells := zh_N s0 - zh_N s0, slots := zh_M s0 - zh_M s0, locals := 116 } (zh_N s0) (zh_M s0) s0 := ⟨by show zh_N s0 ≤ zh_N s0 + (zh_N s0 - zh_N s0); omega, by show zh_M s0 ≤ zh_M s0 + (zh_M s0 - zh_M s0); omega⟩
  have hF : 4 ≤ ({ frames := 4, cells := zh_N s0 - zh_N s0, slots := zh_M s0 - zh_M s0, locals := 116 } : Room).frames ∧ 116 ≤ ({ frames := 4, cells := zh_N s0 - zh_N s0, slots := zh_M s0 - zh_M s0, locals := 116 } : Room).locals := ⟨Nat.le_refl _, Nat.le_refl _⟩
  have hret := fun (pc : Nat) (lv : List (Nat × Value)) (hd : decode ze_M_listFor pc = .ok (.ireturn, 1)) => zg_iret (R := { frames := 4, cells := zh_N s0 - zh_N s0, slots := zh_M s0 - zh_M s0, locals := 116 }) (l := l) (e := e) (below := below) (c0 := zh_N s0) (s0 := zh_M s0) (z := s0) (lv := lv) (v := r) X rfl hd
  refine zg_1 (pc' := 1) (fun _ _ _ _ _ hl w => lv_iconst (v := (-1 : Int32)) hx hb zd_M_listFor_0 (by decide) w) ?_
  refine zg_s (pc' := 3) (lv' := [(5, .int (-1 : Int32)), (0, .ref (h0 + a0)), (1, .int i1), (2, .int i2), (3, .long j3)]) (fun _ _ _ _ _ hl w => lv_istore hx hb zd_M_listFor_1 hl (by decide) rfl w) ?_
  refine zg_1 (pc' := 4) (fun _ _ _ _ _ hl w => lv_aload_n hx hb zd_M_listFor_3 rfl (lv_at hl 1 rfl) w) ?_
  refine zg_1 (pc' := 5) (fun _ _ _ _ _ hl w => lv_iload_n hx hb zd_M_listFor_4 rfl (lv_at hl 3 rfl) w) ?_
  refine zg_1 (pc' := 7) (fun _ _ _ _ _ hl w => lv_bipush (v := (10 : Int32)) hx hb zd_M_listFor_5 (by decide) w) ?_
  obtain ⟨h_1, hf⟩ := zx_ck hf
  obtain ⟨j_2, hq, hf⟩ := zx_p hf
  refine zg_call (pc' := 10) (y := s0) (rv := (some (.long j_2))) (rest := []) X hR ⟨Nat.le_refl _, Nat.le_refl _⟩ (fun H locs ls k j hsz hI hU hk => va_runV (As := [.int i2, .int (10 : Int32)]) (rest := []) ⟨hx, hb, hml, hown, htT⟩ (zc_M_of l h0 D dA tb n hq) (cwV 2 htT (zw_gV zt_1066 zt_1068 zt_52 zt_71 zt_1069) rfl rfl rfl (by decide +kernel) ⟨Nat.le_trans (Nat.le_of_ble_eq_true rfl) hF.1, Nat.le_trans (Nat.le_of_ble_eq_true rfl) hF.2⟩) ⟨(zg_pre hU).1, zg_recv hK hI h_1 rfl, (zg_pre hU).2⟩ rfl rfl hsz rfl (lv_room (Nat.le_of_ble_eq_true rfl)) zd_M_listFor_7 hk) rfl ?_
  refine zg_s (pc' := 12) (lv' := [(6, .long j_2), (5, .int (-1 : Int32)), (0, .ref (h0 + a0)), (1, .int i1), (2, .int i2), (3, .long j3)]) (fun _ _ _ _ _ hl w => lv_lstore hx hb zd_M_listFor_10 hl (by decide) rfl w) ?_
  refine zg_1 (pc' := 13) (fun _ _ _ _ _ hl w => lv_iconst (v := (0 : Int32)) hx hb zd_M_listFor_12 (by decide) w) ?_
  refine zg_s (pc' := 15) (lv' := [(8, .int (0 : Int32)), (6, .long j_2), (5, .int (-1 : Int32)), (0, .ref (h0 + a0)), (1, .int i1), (2, .int i2), (3, .long j3)]) (fun _ _ _ _ _ hl w => lv_istore hx hb zd_M_listFor_13 hl (by decide) rfl w) ?_
  refine zg_v [3, 4, 5, 6, 2, 1, 0] rfl ?_
  exact zw_M_listFor_15 X hR hF hret n n a0 i1 i2 j3 (-1 : Int32) j_2 (0 : Int32) hf
