set_option maxHeartbeats 4000000 in
theorem zc_Signed_noteSigner_R (l : Launch) (h0 : Nat) (D : va_G) (dA : Nat → ClassId) (tb : Nat → Nat) (n : Nat) {s0 : zh_S} {a0 : Nat} {i1 : Int32} {a2 : Nat} {z : zh_S} (hf : zf_Signed_noteSigner_R n s0 a0 i1 a2 = some z) : zc_M l zn_Signed_noteSigner zs_Signed_noteSigner 4 121 h0 D dA tb [.ref (h0 + a0), .int i1, .ref (h0 + a2)] s0 none z := by
  rw [zf_Signed_noteSigner_R] at hf
  refine zc_of (cc := ze_Signed_noteSigner) (maxL := 3) (ret := none) (lv := [(0, .ref (h0 + a0)), (1, .int i1), (2, .ref (h0 + a2))]) (by decide) rfl (Nat.le_of_ble_eq_true rfl) rfl ?_
  intro p e s m args below meth c X hnm
  obtain ⟨hx, hb, hml, hown, htT, hrt, hlk, x00, hIn⟩ := id X
  have hK := hIn.2.1
  have hT := hIn.2.2.1
  have hNe := hIn.2.2.2
  have hR : zg_R { frames := 4, cells := zh_N z - zh_N s0, slots := zh_M z - zh_M s0, locals := 121 } (zh_N s0) (zh_M s0) z := ⟨by show zh_N z ≤ zh_N s0 + (zh_N z - zh_N s0); omega, by show zh_M z ≤ zh_M s0 + (zh_M z - zh_M s0); omega⟩
  have hF : 4 ≤ ({ frames := 4, cells := zh_N z - zh_N s0, slots := zh_M z - zh_M s0, locals := 121 } : Room).frames ∧ 121 ≤ ({ frames := 4, cells := zh_N z - zh_N s0, slots := zh_M z - zh_M s0, locals := 121 } : Room).locals := ⟨Nat.le_refl _, Nat.le_refl _⟩
  have hret := fun (pc : Nat) (lv : List (Nat × Value)) (hd : decode ze_Signed_noteSigner pc = .ok (.return_, 1)) => zg_vret (R := { frames := 4, cells := zh_N z - zh_N s0, slots := zh_M z - zh_M s0, locals := 121 }) (l := l) (e := e) (below := below) (c0 := zh_N s0) (s0 := zh_M s0) (z := z) (lv := lv) X hd
  refine zg_1 (pc' := 1) (fun _ _ _ _ _ hl w => lv_aload_n hx hb zd_Signed_noteSigner_0 rfl (lv_at hl 0 rfl) w) ?_
  obtain ⟨h_1, hf⟩ := zx_ck hf
  refine zg_get (pc' := 4) (ci := 3) hx hb htT zi_RevokedList hown hK h_1 rfl rfl 0 (by decide) (htT _ zt_187) (fun _ h9 => h9) rfl zd_Signed_noteSigner_1 rfl ?_
  refine zg_1 (pc' := 5) (fun _ _ _ _ _ hl w => lv_aload_n hx hb zd_Signed_noteSigner_4 rfl (lv_at hl 2 rfl) w) ?_
  obtain ⟨h_2, hf⟩ := zx_ck hf
  refine zg_get (pc' := 8) (ci := 0) hx hb htT zi_Certificate hown hK h_2 rfl rfl 7 (by decide) (htT _ zt_149) (fun _ h9 => h9) rfl zd_Signed_noteSigner_5 rfl ?_
  refine zg_1 (pc' := 9) (fun _ _ _ _ _ hl w => W.lcmp hx hb zd_Signed_noteSigner_8 w) ?_
  refine zg_2 (pc1 := 46) (pc2 := 12) (Classical.em _).symm (fun _ _ _ _ _ w1 w2 => lv_if_ne hx hb zd_Signed_noteSigner_9 (by decide) w1 w2) (fun hc => ?_) (fun hc => ?_)
  · rw [if_neg hc] at hf
    obtain rfl := zx_r1 hf
    exact hret _ _ zd_Signed_noteSigner_46
  · rw [if_pos hc] at hf
    refine zg_1 (pc' := 13) (fun _ _ _ _ _ hl w => lv_aload_n hx hb zd_Signed_noteSigner_12 rfl (lv_at hl 0 rfl) w) ?_
    refine zg_get (pc' := 16) (ci := 3) hx hb htT zi_RevokedList hown hK h_1 rfl rfl 3 (by decide) (htT _ zt_207) (fun _ h9 => h9) rfl zd_Signed_noteSigner_13 rfl ?_
    refine zg_1 (pc' := 17) (fun _ _ _ _ _ hl w => lv_aload_n hx hb zd_Signed_noteSigner_16 rfl (lv_at hl 2 rfl) w) ?_
    refine zg_get (pc' := 20) (ci := 0) hx hb htT zi_Certificate hown hK h_2 rfl rfl 8 (by decide) (htT _ zt_152) (fun _ h9 => h9) rfl zd_Signed_noteSigner_17 rfl ?_
    refine zg_1 (pc' := 21) (fun _ _ _ _ _ hl w => lv_aload_n hx hb zd_Signed_noteSigner_20 rfl (lv_at hl 2 rfl) w) ?_
    refine zg_get (pc' := 24) (ci := 0) hx hb htT zi_Certificate hown hK h_2 rfl rfl 9 (by decide) (htT _ zt_155) (fun _ h9 => h9) rfl zd_Signed_noteSigner_21 rfl ?_
    refine zg_1 (pc' := 25) (fun _ _ _ _ _ hl w => lv_aload_n hx hb zd_Signed_noteSigner_24 rfl (lv_at hl 0 rfl) w) ?_
    refine zg_get (pc' := 28) (ci := 3) hx hb htT zi_RevokedList hown hK h_1 rfl rfl 4 (by decide) (htT _ zt_214) (fun _ h9 => h9) rfl zd_Signed_noteSigner_25 rfl ?_
    obtain ⟨i_3, hq, hf⟩ := zx_p hf
    refine zg_call (pc' := 31) (y := s0) (rv := (some (.int i_3))) (rest := []) X hR ⟨Nat.le_refl _, Nat.le_refl _⟩ (fun H locs ls k j hsz hI hU hk => va_runS (As := [.long (zh_J s0 a0 3), .long (zh_J s0 a2 8), .long (zh_J s0 a2 9), .int (zh_I s0 a0 4)]) (rest := []) ⟨hx, hb, hml, hown, htT⟩ (zc_Numbers_isGood l h0 D dA tb n hq) (va_cwS 4 htT (zw_gS zt_610 zt_611 zt_73 zt_612) rfl rfl rfl (by decide +kernel) ⟨Nat.le_trans (Nat.le_of_ble_eq_true rfl) hF.1, Nat.le_trans (Nat.le_of_ble_eq_true rfl) hF.2⟩) (zg_pre hU) rfl rfl hsz rfl (lv_room (Nat.le_of_ble_eq_true rfl)) zd_Signed_noteSigner_28 hk) rfl ?_
    refine zg_2 (pc1 := 46) (pc2 := 34) (Classical.em _) (fun _ _ _ _ _ w1 w2 => lv_if_eq hx hb zd_Signed_noteSigner_31 (by decide) w1 w2) (fun hc => ?_) (fun hc => ?_)
    · rw [if_pos hc] at hf
      obtain rfl := zx_r1 hf
      exact hret _ _ zd_Signed_noteSigner_46
    · rw [if_neg hc] at hf
      refine zg_1 (pc' := 35) (fun _ _ _ _ _ hl w => lv_aload_n hx hb zd_Signed_noteSigner_34 rfl (lv_at hl 0 rfl) w) ?_
      refine zg_1 (pc' := 36) (fun _ _ _ _ _ hl w => lv_dup hx hb zd_Signed_noteSigner_35 rfl w) ?_
      refine zg_get (pc' := 39) (ci := 3) hx hb htT zi_RevokedList hown hK h_1 rfl rfl 5 (by decide) (htT _ zt_217) (fun _ h9 => h9) rfl zd_Signed_noteSigner_36 rfl ?_
      refine zg_1 (pc' := 40) (fun _ _ _ _ _ hl w => lv_iconst (v := (1 : Int32)) hx hb zd_Signed_noteSigner_39 (by decide) w) ?_
      refine zg_1 (pc' := 41) (fun _ _ _ _ _ hl w => lv_iload_n hx hb zd_Signed_noteSigner_40 rfl (lv_at hl 1 rfl) w) ?_
      refine zg_1 (pc' := 42) (fun _ _ _ _ _ hl w => lv_ishl hx hb zd_Signed_noteSigner_41 w) ?_
      refine zg_1 (pc' := 43) (fun _ _ _ _ _ hl w => lv_ior hx hb zd_Signed_noteSigner_42 w) ?_
      obtain ⟨s_4, e_s_4, hf⟩ := zx_l hf
      refine zg_putI (pc' := 46) (ci := 3) (ty := .int) hx hb htT zi_RevokedList zy_RevokedList zo_RevokedList zj_RevokedList hown hK h_1 rfl rfl 5 (by decide) (htT _ zt_217) (fun _ h9 => h9) (Or.inl rfl) (by decide +kernel) rfl rfl rfl e_s_4 zd_Signed_noteSigner_43 rfl ?_
      obtain rfl := zx_r1 hf
      exact hret _ _ zd_Signed_noteSigner_46
set_option maxHeartbeats 4000000 in
theorem zc_Signed_noteSigner_C (l : Launch) (h0 : Nat) (D : va_G) (dA : Nat → ClassId) (tb : Nat → Nat) (n : Nat) {s0 : zh_S} {a0 : Nat} {i1 : Int32} {a2 : Nat} {z : zh_S} (hf : zf_Signed_noteSigner_C n s0 a0 i1 a2 = some z) : zc_M l zn_Signed_noteSigner zs_Signed_noteSigner 4 121 h0 D dA tb [.ref (h0 + a0), .int i1, .ref (h0 + a2)] s0 none z := by
  rw [zf_Signed_noteSigner_C] at hf
  refine zc_of (cc := ze_Signed_noteSigner) (maxL := 3) (ret := none) (lv := [(0, .ref (h0 + a0)), (1, .int i1), (2, .ref (h0 + a2))]) (by decide) rfl (Nat.le_of_ble_eq_true rfl) rfl ?_
  intro p e s m args below meth c X hnm
  obtain ⟨hx, hb, hml, hown, htT, hrt, hlk, x00, hIn⟩ := id X
  have hK := hIn.2.1
  have hT := hIn.2.2.1
  have hNe := hIn.2.2.2
  have hR : zg_R { frames := 4, cells := zh_N z - zh_N s0, slots := zh_M z - zh_M s0, locals := 121 } (zh_N s0) (zh_M s0) z := ⟨by show zh_N z ≤ zh_N s0 + (zh_N z - zh_N s0); omega, by show zh_M z ≤ zh_M s0 + (zh_M z - zh_M s0); omega⟩
  have hF : 4 ≤ ({ frames := 4, cells := zh_N z - zh_N s0, slots := zh_M z - zh_M s0, locals := 121 } : Room).frames ∧ 121 ≤ ({ frames := 4, cells := zh_N z - zh_N s0, slots := zh_M z - zh_M s0, locals := 121 } : Room).locals := ⟨Nat.le_refl _, Nat.le_refl _⟩
  have hret := fun (pc : Nat) (lv : List (Nat × Value)) (hd : decode ze_Signed_noteSigner pc = .ok (.return_, 1)) => zg_vret (R := { frames := 4, cells := zh_N z - zh_N s0, slots := zh_M z - zh_M s0, locals := 121 }) (l := l) (e := e) (below := below) (c0 := zh_N s0) (s0 := zh_M s0) (z := z) (lv := lv) X hd
  refine zg_1 (pc' := 1) (fun _ _ _ _ _ hl w => lv_aload_n hx hb zd_Signed_noteSigner_0 rfl (lv_at hl 0 rfl) w) ?_
  obtain ⟨h_1, hf⟩ := zx_ck hf
  refine zg_get (pc' := 4) (ci := 0) hx hb htT zi_Certificate hown hK h_1 rfl rfl 0 (by decide) (htT _ zt_187) (fun _ h9 => h9) rfl zd_Signed_noteSigner_1 rfl ?_
  refine zg_1 (pc' := 5) (fun _ _ _ _ _ hl w => lv_aload_n hx hb zd_Signed_noteSigner_4 rfl (lv_at hl 2 rfl) w) ?_
  obtain ⟨h_2, hf⟩ := zx_ck hf
  refine zg_get (pc' := 8) (ci := 0) hx hb htT zi_Certificate hown hK h_2 rfl rfl 7 (by decide) (htT _ zt_149) (fun _ h9 => h9) rfl zd_Signed_noteSigner_5 rfl ?_
  refine zg_1 (pc' := 9) (fun _ _ _ _ _ hl w => W.lcmp hx hb zd_Signed_noteSigner_8 w) ?_
  refine zg_2 (pc1 := 46) (pc2 := 12) (Classical.em _).symm (fun _ _ _ _ _ w1 w2 => lv_if_ne hx hb zd_Signed_noteSigner_9 (by decide) w1 w2) (fun hc => ?_) (fun hc => ?_)
  · rw [if_neg hc] at hf
    obtain rfl := zx_r1 hf
    exact hret _ _ zd_Signed_noteSigner_46
  · rw [if_pos hc] at hf
    refine zg_1 (pc' := 13) (fun _ _ _ _ _ hl w => lv_aload_n hx hb zd_Signed_noteSigner_12 rfl (lv_at hl 0 rfl) w) ?_
    refine zg_get (pc' := 16) (ci := 0) hx hb htT zi_Certificate hown hK h_1 rfl rfl 3 (by decide) (htT _ zt_207) (fun _ h9 => h9) rfl zd_Signed_noteSigner_13 rfl ?_
    refine zg_1 (pc' := 17) (fun _ _ _ _ _ hl w => lv_aload_n hx hb zd_Signed_noteSigner_16 rfl (lv_at hl 2 rfl) w) ?_
    refine zg_get (pc' := 20) (ci := 0) hx hb htT zi_Certificate hown hK h_2 rfl rfl 8 (by decide) (htT _ zt_152) (fun _ h9 => h9) rfl zd_Signed_noteSigner_17 rfl ?_
    refine zg_1 (pc' := 21) (fun _ _ _ _ _ hl w => lv_aload_n hx hb zd_Signed_noteSigner_20 rfl (lv_at hl 2 rfl) w) ?_
    refine zg_get (pc' := 24) (ci := 0) hx hb htT zi_Certificate hown hK h_2 rfl rfl 9 (by decide) (htT _ zt_155) (fun _ h9 => h9) rfl zd_Signed_noteSigner_21 rfl ?_
    refine zg_1 (pc' := 25) (fun _ _ _ _ _ hl w => lv_aload_n hx hb zd_Signed_noteSigner_24 rfl (lv_at hl 0 rfl) w) ?_
    refine zg_get (pc' := 28) (ci := 0) hx hb htT zi_Certificate hown hK h_1 rfl rfl 4 (by decide) (htT _ zt_214) (fun _ h9 => h9) rfl zd_Signed_noteSigner_25 rfl ?_
    obtain ⟨i_3, hq, hf⟩ := zx_p hf
    refine zg_call (pc' := 31) (y := s0) (rv := (some (.int i_3))) (rest := []) X hR ⟨Nat.le_refl _, Nat.le_refl _⟩ (fun H locs ls k j hsz hI hU hk => va_runS (As := [.long (zh_J s0 a0 3), .long (zh_J s0 a2 8), .long (zh_J s0 a2 9), .int (zh_I s0 a0 4)]) (rest := []) ⟨hx, hb, hml, hown, htT⟩ (zc_Numbers_isGood l h0 D dA tb n hq) (va_cwS 4 htT (zw_gS zt_610 zt_611 zt_73 zt_612) rfl rfl rfl (by decide +kernel) ⟨Nat.le_trans (Nat.le_of_ble_eq_true rfl) hF.1, Nat.le_trans (Nat.le_of_ble_eq_true rfl) hF.2⟩) (zg_pre hU) rfl rfl hsz rfl (lv_room (Nat.le_of_ble_eq_true rfl)) zd_Signed_noteSigner_28 hk) rfl ?_
    refine zg_2 (pc1 := 46) (pc2 := 34) (Classical.em _) (fun _ _ _ _ _ w1 w2 => lv_if_eq hx hb zd_Signed_noteSigner_31 (by decide) w1 w2) (fun hc => ?_) (fun hc => ?_)
    · rw [if_pos hc] at hf
      obtain rfl := zx_r1 hf
      exact hret _ _ zd_Signed_noteSigner_46
    · rw [if_neg hc] at hf
      refine zg_1 (pc' := 35) (fun _ _ _ _ _ hl w => lv_aload_n hx hb zd_Signed_noteSigner_34 rfl (lv_at hl 0 rfl) w) ?_
      refine zg_1 (pc' := 36) (fun _ _ _ _ _ hl w => lv_dup hx hb zd_Signed_noteSigner_35 rfl w) ?_
      refine zg_get (pc' := 39) (ci := 0) hx hb htT zi_Certificate hown hK h_1 rfl rfl 5 (by decide) (htT _ zt_217) (fun _ h9 => h9) rfl zd_Signed_noteSigner_36 rfl ?_
      refine zg_1 (pc' := 40) (fun _ _ _ _ _ hl w => lv_iconst (v := (1 : Int32)) hx hb zd_Signed_noteSigner_39 (by decide) w) ?_
      refine zg_1 (pc' := 41) (fun _ _ _ _ _ hl w => lv_iload_n hx hb zd_Signed_noteSigner_40 rfl (lv_at hl 1 rfl) w) ?_
      refine zg_1 (pc' := 42) (fun _ _ _ _ _ hl w => lv_ishl hx hb zd_Signed_noteSigner_41 w) ?_
      refine zg_1 (pc' := 43) (fun _ _ _ _ _ hl w => lv_ior hx hb zd_Signed_noteSigner_42 w) ?_
      obtain ⟨s_4, e_s_4, hf⟩ := zx_l hf
      refine zg_putI (pc' := 46) (ci := 0) (ty := .int) hx hb htT zi_Certificate zy_Certificate zo_Certificate zj_Certificate hown hK h_1 rfl rfl 5 (by decide) (htT _ zt_217) (fun _ h9 => h9) (Or.inl rfl) (by decide +kernel) rfl rfl rfl e_s_4 zd_Signed_noteSigner_43 rfl ?_
      obtain rfl := zx_r1 hf
      exact hret _ _ zd_Signed_noteSigner_46
set_option maxHeartbeats 4000000 in
theorem zw_Shelf_keepCertificate_60 {p : Program} {l : Launch} {e : Env} {R : Room} {s : State} {m : MethodId} {args : Array Value} {below : List Frame} {meth : Method} {c : Code} {Q : State → Prop} {h0 : Nat} {D : va_G} {dA : Nat → ClassId} {tb : Nat → Nat} {c0 k0 : Nat} {z : zh_S} {r : Int32} (X : zg_X p s m args meth c ze_Shelf_keepCertificate 5 zr_Shelf (some .int) h0 D dA tb) (hR : zg_R R c0 k0 z) (hF : 5 ≤ R.frames ∧ 143 ≤ R.locals) (hret : ∀ (pc : Nat) (lv : List (Nat × Value)), decode ze_Shelf_keepCertificate pc = .ok (.ireturn, 1) → zg_G p l e R s m args below meth c Q h0 D dA 5 c0 k0 z z pc lv [.int r]) (n : Nat) (k : Nat) : ∀ (s0 : zh_S) (a0 : Nat) (i2 : Int32) (a3 : Nat) (i4 : Int32), zl_Shelf_keepCertificate_60 n k s0 a0 i2 a3 i4 = some (r, z) → zg_G p l e R s m args below meth c Q h0 D dA 5 c0 k0 z s0 60 [(0, .ref (h0 + a0)), (2, .int i2), (3, .ref (h0 + a3)), (4, .int i4)] [] := by
  obtain ⟨hx, hb, hml, hown, htT, hrt, hlk, x00, hIn⟩ := id X
  have hK := hIn.2.1
  have hT := hIn.2.2.1
  have hNe := hIn.2.2.2
  induction k with
  | zero => intro s0 a0 i2 a3 i4 hf; cases hf
  | succ k ih =>
    intro s0 a0 i2 a3 i4 hf
    rw [zl_Shelf_keepCertificate_60] at hf
    refine zg_1 (pc' := 62) (fun _ _ _ _ _ hl w => lv_iload hx hb zd_Shelf_keepCertificate_60 (lv_at hl 3 rfl) w) ?_
    refine zg_1 (pc' := 63) (fun _ _ _ _ _ hl w => lv_aload_n hx hb zd_Shelf_keepCertificate_62 rfl (lv_at hl 0 rfl) w) ?_
    obtain ⟨h_1, hf⟩ := zx_ck hf
    refine zg_get (pc' := 66) (ci := 5) hx hb htT zi_Shelf hown hK h_1 rfl rfl 3 (by decide) (htT _ zt_290) (fun _ h9 => h9) rfl zd_Shelf_keepCertificate_63 rfl ?_
    refine zg_2 (pc1 := 87) (pc2 := 69) (Classical.em _) (fun _ _ _ _ _ w1 w2 => lv_icmp_ge hx hb zd_Shelf_keepCertificate_66 (by decide) w1 w2) (fun hc => ?_) (fun hc => ?_)
    · rw [if_pos hc] at hf
      refine zg_1 (pc' := 88) (fun _ _ _ _ _ hl w => lv_aload_n hx hb zd_Shelf_keepCertificate_87 rfl (lv_at hl 0 rfl) w) ?_
      refine zg_1 (pc' := 89) (fun _ _ _ _ _ hl w => lv_dup hx hb zd_Shelf_keepCertificate_88 rfl w) ?_
      refine zg_get (pc' := 92) (ci := 5) hx hb htT zi_Shelf hown hK h_1 rfl rfl 2 (by decide) (htT _ zt_287) (fun _ h9 => h9) rfl zd_Shelf_keepCertificate_89 rfl ?_
      refine zg_1 (pc' := 93) (fun _ _ _ _ _ hl w => lv_iconst (v := (1 : Int32)) hx hb zd_Shelf_keepCertificate_92 (by decide) w) ?_
      refine zg_1 (pc' := 94) (fun _ _ _ _ _ hl w => lv_iadd hx hb zd_Shelf_keepCertificate_93 w) ?_
      obtain ⟨s_2, e_s_2, hf⟩ := zx_l hf
      refine zg_putI (pc' := 97) (ci := 5) (ty := .int) hx hb htT zi_Shelf zy_Shelf zo_Shelf zj_Shelf hown hK h_1 rfl rfl 2 (by decide) (htT _ zt_287) (fun _ h9 => h9) (Or.inl rfl) (by decide +kernel) rfl rfl rfl e_s_2 zd_Shelf_keepCertificate_94 rfl ?_
      refine zg_1 (pc' := 98) (fun _ _ _ _ _ hl w => lv_iload_n hx hb zd_Shelf_keepCertificate_97 rfl (lv_at hl 1 rfl) w) ?_
      obtain ⟨rfl, rfl⟩ := zx_r2 hf
      exact hret _ _ zd_Shelf_keepCertificate_98
    · rw [if_neg hc] at hf
      refine zg_1 (pc' := 70) (fun _ _ _ _ _ hl w => lv_aload_n hx hb zd_Shelf_keepCertificate_69 rfl (lv_at hl 0 rfl) w) ?_
      obtain ⟨a_3, h_4, hf⟩ := zx_p hf
      refine zg_get (pc' := 73) (ci := 5) hx hb htT zi_Shelf hown hK h_1 rfl rfl 1 (by decide) (htT _ zt_284) (fun _ h9 => h9) (zx_hv h_4) zd_Shelf_keepCertificate_70 rfl ?_
      refine zg_1 (pc' := 75) (fun _ _ _ _ _ hl w => lv_iload hx hb zd_Shelf_keepCertificate_73 (lv_at hl 3 rfl) w) ?_
      obtain ⟨h_5, hf⟩ := zx_ck hf
      obtain ⟨a_6, h_7, hf⟩ := zx_p hf
      refine zg_aald (pc' := 76) (t := 1) (t0 := 3) hx hb hK rfl h_5 h_7 zd_Shelf_keepCertificate_75 rfl ?_
      refine zg_1 (pc' := 77) (fun _ _ _ _ _ hl w => lv_iload_n hx hb zd_Shelf_keepCertificate_76 rfl (lv_at hl 1 rfl) w) ?_
      refine zg_1 (pc' := 78) (fun _ _ _ _ _ hl w => lv_aload_n hx hb zd_Shelf_keepCertificate_77 rfl (lv_at hl 2 rfl) w) ?_
      obtain ⟨h_9, hf⟩ := zx_ck hf
      obtain ⟨s_8, hq, hf⟩ := zx_p hf
      refine zg_call (pc' := 81) (y := s_8) (rv := none) (rest := []) X hR (zm_Signed_noteSigner_R hq) (fun H locs ls k j hsz hI hU hk => va_runU (As := [.int i2, .ref (h0 + a3)]) (rest := []) ⟨hx, hb, hml, hown, htT⟩ (zc_Signed_noteSigner_R l h0 D dA tb n hq) (va_cwU 2 htT (zw_gU zt_604 zt_605 zt_607 zt_608 zt_68 zt_609) rfl rfl rfl rfl (by decide +kernel) ⟨Nat.le_trans (Nat.le_of_ble_eq_true rfl) hF.1, Nat.le_trans (Nat.le_of_ble_eq_true rfl) hF.2⟩) ⟨(zg_pre hU).1, zg_recv hK hI h_9 rfl, (zg_pre hU).2⟩ rfl rfl hsz rfl (lv_room (Nat.le_of_ble_eq_true rfl)) zd_Shelf_keepCertificate_78 hk) rfl ?_
      obtain ⟨i_10, e_i_10, hf⟩ := zx_l hf
      refine zg_s (pc' := 84) (lv' := [(4, .int i_10), (0, .ref (h0 + a0)), (2, .int i2), (3, .ref (h0 + a3))]) (fun _ _ _ _ _ hl w => lv_iinc (k := 3) (v := i_10) hx hb zd_Shelf_keepCertificate_81 hl rfl (by rw [e_i_10]; rfl) (by decide) rfl w) ?_
      refine zg_1 (pc' := 60) (fun _ _ _ _ _ hl w => lv_goto hx hb zd_Shelf_keepCertificate_84 (by decide) w) ?_
      refine zg_v [1, 2, 3, 0] rfl ?_
      exact ih s_8 a0 i2 a3 i_10 hf
set_option maxHeartbeats 4000000 in
theorem zw_Shelf_keepCertificate_20 {p : Program} {l : Launch} {e : Env} {R : Room} {s : State} {m : MethodId} {args : Array Value} {below : List Frame} {meth : Method} {c : Code} {Q : State → Prop} {h0 : Nat} {D : va_G} {dA : Nat → ClassId} {tb : Nat → Nat} {c0 k0 : Nat} {z : zh_S} {r : Int32} (X : zg_X p s m args meth c ze_Shelf_keepCertificate 5 zr_Shelf (some .int) h0 D dA tb) (hR : zg_R R c0 k0 z) (hF : 5 ≤ R.frames ∧ 143 ≤ R.locals) (hret : ∀ (pc : Nat) (lv : List (Nat × Value)), decode ze_Shelf_keepCertificate pc = .ok (.ireturn, 1) → zg_G p l e R s m args below meth c Q h0 D dA 5 c0 k0 z z pc lv [.int r]) (n : Nat) (k : Nat) : ∀ (s0 : zh_S) (a0 : Nat) (i2 : Int32) (a3 : Nat) (i4 : Int32), zl_Shelf_keepCertificate_20 n k s0 a0 i2 a3 i4 = some (r, z) → zg_G p l e R s m args below meth c Q h0 D dA 5 c0 k0 z s0 20 [(0, .ref (h0 + a0)), (2, .int i2), (3, .ref (h0 + a3)), (4, .int i4)] [] := by
  obtain ⟨hx, hb, hml, hown, htT, hrt, hlk, x00, hIn⟩ := id X
  have hK := hIn.2.1
  have hT := hIn.2.2.1
  have hNe := hIn.2.2.2
  induction k with
  | zero => intro s0 a0 i2 a3 i4 hf; cases hf
  | succ k ih =>
    intro s0 a0 i2 a3 i4 hf
    rw [zl_Shelf_keepCertificate_20] at hf
    refine zg_1 (pc' := 22) (fun _ _ _ _ _ hl w => lv_iload hx hb zd_Shelf_keepCertificate_20 (lv_at hl 3 rfl) w) ?_
    refine zg_1 (pc' := 23) (fun _ _ _ _ _ hl w => lv_iload_n hx hb zd_Shelf_keepCertificate_22 rfl (lv_at hl 1 rfl) w) ?_
    refine zg_2 (pc1 := 57) (pc2 := 26) (Classical.em _) (fun _ _ _ _ _ w1 w2 => lv_icmp_ge hx hb zd_Shelf_keepCertificate_23 (by decide) w1 w2) (fun hc => ?_) (fun hc => ?_)
    · rw [if_pos hc] at hf
      refine zg_1 (pc' := 58) (fun _ _ _ _ _ hl w => lv_iconst (v := (0 : Int32)) hx hb zd_Shelf_keepCertificate_57 (by decide) w) ?_
      refine zg_s (pc' := 60) (lv' := [(4, .int (0 : Int32)), (0, .ref (h0 + a0)), (2, .int i2), (3, .ref (h0 + a3))]) (fun _ _ _ _ _ hl w => lv_istore hx hb zd_Shelf_keepCertificate_58 hl (by decide) rfl w) ?_
      refine zg_v [1, 2, 3, 0] rfl ?_
      exact zw_Shelf_keepCertificate_60 X hR hF hret n n s0 a0 i2 a3 (0 : Int32) hf
    · rw [if_neg hc] at hf
      refine zg_1 (pc' := 27) (fun _ _ _ _ _ hl w => lv_aload_n hx hb zd_Shelf_keepCertificate_26 rfl (lv_at hl 2 rfl) w) ?_
      refine zg_1 (pc' := 29) (fun _ _ _ _ _ hl w => lv_iload hx hb zd_Shelf_keepCertificate_27 (lv_at hl 3 rfl) w) ?_
      refine zg_1 (pc' := 30) (fun _ _ _ _ _ hl w => lv_aload_n hx hb zd_Shelf_keepCertificate_29 rfl (lv_at hl 0 rfl) w) ?_
      obtain ⟨h_1, hf⟩ := zx_ck hf
      obtain ⟨a_2, h_3, hf⟩ := zx_p hf
      refine zg_get (pc' := 33) (ci := 5) hx hb htT zi_Shelf hown hK h_1 rfl rfl 0 (by decide) (htT _ zt_281) (fun _ h9 => h9) (zx_hv h_3) zd_Shelf_keepCertificate_30 rfl ?_
      refine zg_1 (pc' := 35) (fun _ _ _ _ _ hl w => lv_iload hx hb zd_Shelf_keepCertificate_33 (lv_at hl 3 rfl) w) ?_
      obtain ⟨h_4, hf⟩ := zx_ck hf
      obtain ⟨a_5, h_6, hf⟩ := zx_p hf
      refine zg_aald (pc' := 36) (t := 0) (t0 := 2) hx hb hK rfl h_4 h_6 zd_Shelf_keepCertificate_35 rfl ?_
      obtain ⟨h_8, hf⟩ := zx_ck hf
      obtain ⟨s_7, hq, hf⟩ := zx_p hf
      refine zg_call (pc' := 39) (y := s_7) (rv := none) (rest := []) X hR (zm_Signed_noteSigner_C hq) (fun H locs ls k j hsz hI hU hk => va_runU (As := [.int i4, .ref (h0 + a_5)]) (rest := []) ⟨hx, hb, hml, hown, htT⟩ (zc_Signed_noteSigner_C l h0 D dA tb n hq) (va_cwU 2 htT (zw_gU zt_620 zt_621 zt_622 zt_608 zt_68 zt_609) rfl rfl rfl rfl (by decide +kernel) ⟨Nat.le_trans (Nat.le_of_ble_eq_true rfl) hF.1, Nat.le_trans (Nat.le_of_ble_eq_true rfl) hF.2⟩) ⟨(zg_pre hU).1, zg_recv hK hI h_8 rfl, (zg_pre hU).2⟩ rfl rfl hsz rfl (lv_room (Nat.le_of_ble_eq_true rfl)) zd_Shelf_keepCertificate_36 hk) rfl ?_
      refine zg_1 (pc' := 40) (fun _ _ _ _ _ hl w => lv_aload_n hx hb zd_Shelf_keepCertificate_39 rfl (lv_at hl 0 rfl) w) ?_
      obtain ⟨h_9, hf⟩ := zx_ck hf
      obtain ⟨a_10, h_11, hf⟩ := zx_p hf
      refine zg_get (pc' := 43) (ci := 5) hx hb htT zi_Shelf hown hK h_9 rfl rfl 0 (by decide) (htT _ zt_281) (fun _ h9 => h9) (zx_hv h_11) zd_Shelf_keepCertificate_40 rfl ?_
      refine zg_1 (pc' := 45) (fun _ _ _ _ _ hl w => lv_iload hx hb zd_Shelf_keepCertificate_43 (lv_at hl 3 rfl) w) ?_
      obtain ⟨h_12, hf⟩ := zx_ck hf
      obtain ⟨a_13, h_14, hf⟩ := zx_p hf
      refine zg_aald (pc' := 46) (t := 0) (t0 := 2) hx hb hK rfl h_12 h_14 zd_Shelf_keepCertificate_45 rfl ?_
      refine zg_1 (pc' := 47) (fun _ _ _ _ _ hl w => lv_iload_n hx hb zd_Shelf_keepCertificate_46 rfl (lv_at hl 1 rfl) w) ?_
      refine zg_1 (pc' := 48) (fun _ _ _ _ _ hl w => lv_aload_n hx hb zd_Shelf_keepCertificate_47 rfl (lv_at hl 2 rfl) w) ?_
      obtain ⟨h_16, hf⟩ := zx_ck hf
      obtain ⟨s_15, hq, hf⟩ := zx_p hf
      refine zg_call (pc' := 51) (y := s_15) (rv := none) (rest := []) X hR (zm_Signed_noteSigner_C hq) (fun H locs ls k j hsz hI hU hk => va_runU (As := [.int i2, .ref (h0 + a3)]) (rest := []) ⟨hx, hb, hml, hown, htT⟩ (zc_Signed_noteSigner_C l h0 D dA tb n hq) (va_cwU 2 htT (zw_gU zt_620 zt_621 zt_622 zt_608 zt_68 zt_609) rfl rfl rfl rfl (by decide +kernel) ⟨Nat.le_trans (Nat.le_of_ble_eq_true rfl) hF.1, Nat.le_trans (Nat.le_of_ble_eq_true rfl) hF.2⟩) ⟨(zg_pre hU).1, zg_recv hK hI h_16 rfl, (zg_pre hU).2⟩ rfl rfl hsz rfl (lv_room (Nat.le_of_ble_eq_true rfl)) zd_Shelf_keepCertificate_48 hk) rfl ?_
      obtain ⟨i_17, e_i_17, hf⟩ := zx_l hf
      refine zg_s (pc' := 54) (lv' := [(4, .int i_17), (0, .ref (h0 + a0)), (2, .int i2), (3, .ref (h0 + a3))]) (fun _ _ _ _ _ hl w => lv_iinc (k := 3) (v := i_17) hx hb zd_Shelf_keepCertificate_51 hl rfl (by rw [e_i_17]; rfl) (by decide) rfl w) ?_
      refine zg_1 (pc' := 20) (fun _ _ _ _ _ hl w => lv_goto hx hb zd_Shelf_keepCertificate_54 (by decide) w) ?_
      refine zg_v [1, 2, 3, 0] rfl ?_
      exact ih s_15 a0 i2 a3 i_17 hf
set_option maxHeartbeats 4000000 in
theorem zc_Shelf_keepCertificate (l : Launch) (h0 : Nat) (D : va_G) (dA : Nat → ClassId) (tb : Nat → Nat) (n : Nat) {s0 : zh_S} {a0 : Nat} {i1 : Int32} {r : Int32} {z : zh_S} (hf : zf_Shelf_keepCertificate n s0 a0 i1 = some (r, z)) : zc_M l zn_Shelf_keepCertificate zs_Shelf_keepCertificate 5 143 h0 D dA tb [.ref (h0 + a0), .int i1] s0 (some (.int r)) z := by
  rw [zf_Shelf_keepCertificate] at hf
  refine zc_of (cc := ze_Shelf_keepCertificate) (maxL := 5) (ret := (some .int)) (lv := [(0, .ref (h0 + a0)), (1, .int i1)]) (by decide) rfl (Nat.le_of_ble_eq_true rfl) rfl ?_
  intro p e s m args below meth c X hnm
  obtain ⟨hx, hb, hml, hown, htT, hrt, hlk, x00, hIn⟩ := id X
  have hK := hIn.2.1
  have hT := hIn.2.2.1
  have hNe := hIn.2.2.2
  have hR : zg_R { frames := 5, cells := zh_N z - zh_N s0, slots := zh_M z - zh_M s0, locals := 143 } (zh_N s0) (zh_M s0) z := ⟨by show zh_N z ≤ zh_N s0 + (zh_N z - zh_N s0); omega, by show zh_M z ≤ zh_M s0 + (zh_M z - zh_M s0); omega⟩
  have hF : 5 ≤ ({ frames := 5, cells := zh_N z - zh_N s0, slots := zh_M z - zh_M s0, locals := 143 } : Room).frames ∧ 143 ≤ ({ frames := 5, cells := zh_N z - zh_N s0, slots := zh_M z - zh_M s0, locals := 143 } : Room).locals := ⟨Nat.le_refl _, Nat.le_refl _⟩
  have hret := fun (pc : Nat) (lv : List (Nat × Value)) (hd : decode ze_Shelf_keepCertificate pc = .ok (.ireturn, 1)) => zg_iret (R := { frames := 5, cells := zh_N z - zh_N s0, slots := zh_M z - zh_M s0, locals := 143 }) (l := l) (e := e) (below := below) (c0 := zh_N s0) (s0 := zh_M s0) (z := z) (lv := lv) (v := r) X rfl hd
  refine zg_1 (pc' := 1) (fun _ _ _ _ _ hl w => lv_aload_n hx hb zd_Shelf_keepCertificate_0 rfl (lv_at hl 0 rfl) w) ?_
  obtain ⟨h_1, hf⟩ := zx_ck hf
  refine zg_get (pc' := 4) (ci := 5) hx hb htT zi_Shelf hown hK h_1 rfl rfl 2 (by decide) (htT _ zt_287) (fun _ h9 => h9) rfl zd_Shelf_keepCertificate_1 rfl ?_
  obtain ⟨i_2, e_i_2, hf⟩ := zx_l hf
  refine zg_ti e_i_2 ?_
  refine zg_s (pc' := 5) (lv' := [(2, .int i_2), (0, .ref (h0 + a0)), (1, .int i1)]) (fun _ _ _ _ _ hl w => lv_istore_n hx hb zd_Shelf_keepCertificate_4 rfl hl (by decide) rfl w) ?_
  refine zg_1 (pc' := 6) (fun _ _ _ _ _ hl w => lv_aload_n hx hb zd_Shelf_keepCertificate_5 rfl (lv_at hl 1 rfl) w) ?_
  obtain ⟨a_3, h_4, hf⟩ := zx_p hf
  refine zg_get (pc' := 9) (ci := 5) hx hb htT zi_Shelf hown hK h_1 rfl rfl 0 (by decide) (htT _ zt_281) (fun _ h9 => h9) (zx_hv h_4) zd_Shelf_keepCertificate_6 rfl ?_
  refine zg_1 (pc' := 10) (fun _ _ _ _ _ hl w => lv_iload_n hx hb zd_Shelf_keepCertificate_9 rfl (lv_at hl 0 rfl) w) ?_
  obtain ⟨h_5, hf⟩ := zx_ck hf
  obtain ⟨a_6, h_7, hf⟩ := zx_p hf
  refine zg_aald (pc' := 11) (t := 0) (t0 := 2) hx hb hK rfl h_5 h_7 zd_Shelf_keepCertificate_10 rfl ?_
  refine zg_s (pc' := 12) (lv' := [(3, .ref (h0 + a_6)), (2, .int i_2), (0, .ref (h0 + a0)), (1, .int i1)]) (fun _ _ _ _ _ hl w => lv_astore_n hx hb zd_Shelf_keepCertificate_11 rfl hl (by decide) rfl w) ?_
  refine zg_1 (pc' := 13) (fun _ _ _ _ _ hl w => lv_aload_n hx hb zd_Shelf_keepCertificate_12 rfl (lv_at hl 0 rfl) w) ?_
  refine zg_1 (pc' := 14) (fun _ _ _ _ _ hl w => lv_iload_n hx hb zd_Shelf_keepCertificate_13 rfl (lv_at hl 3 rfl) w) ?_
  obtain ⟨h_9, hf⟩ := zx_ck hf
  obtain ⟨h_10, hf⟩ := zx_ck hf
  obtain ⟨s_8, e_s_8, hf⟩ := zx_l hf
  refine zg_putI (pc' := 17) (ci := 0) (ty := .boolean) hx hb htT zi_Certificate zy_Certificate zo_Certificate zj_Certificate hown hK h_9 rfl rfl 18 (by decide) (htT _ zt_179) (fun _ h9 => h9) (Or.inl rfl) (by decide +kernel) (zx_nz h_10) (zx_fz h_10) rfl e_s_8 zd_Shelf_keepCertificate_14 rfl ?_
  refine zg_1 (pc' := 18) (fun _ _ _ _ _ hl w => lv_iconst (v := (0 : Int32)) hx hb zd_Shelf_keepCertificate_17 (by decide) w) ?_
  refine zg_s (pc' := 20) (lv' := [(4, .int (0 : Int32)), (3, .ref (h0 + a_6)), (2, .int i_2), (0, .ref (h0 + a0)), (1, .int i1)]) (fun _ _ _ _ _ hl w => lv_istore hx hb zd_Shelf_keepCertificate_18 hl (by decide) rfl w) ?_
  refine zg_v [3, 2, 1, 0] rfl ?_
  exact zw_Shelf_keepCertificate_20 X hR hF hret n n s_8 a0 i_2 a_6 (0 : Int32) hf
set_option maxHeartbeats 4000000 in
theorem zc_Shelf_nextList (l : Launch) (h0 : Nat) (D : va_G) (dA : Nat → ClassId) (tb : Nat → Nat) (n : Nat) {s0 : zh_S} {a0 : Nat} {r : Nat} (hf : zf_Shelf_nextList n s0 a0 = some r) : zc_M l zn_Shelf_nextList zs_Shelf_nextList 0 0 h0 D dA tb [.ref (h0 + a0)] s0 (some (.ref (h0 + r))) s0 := by
  rw [zf_Shelf_nextList] at hf
  refine zc_of (cc := ze_Shelf_nextList) (maxL := 1) (ret := (some (.object zr_RevokedList))) (lv := [(0, .ref (h0 + a0))]) (by decide) rfl (Nat.le_of_ble_eq_true rfl) rfl ?_
  intro p e s m args below meth c X hnm
  obtain ⟨hx, hb, hml, hown, htT, hrt, hlk, x00, hIn⟩ := id X
  have hK := hIn.2.1
  have hT := hIn.2.2.1
  have hNe := hIn.2.2.2
  have hR : zg_R { frames := 0, cells := zh_N s0 - zh_N s0, slots := zh_M s0 - zh_M s0, locals := 0 } (zh_N s0) (zh_M s0) s0 := ⟨by show zh_N s0 ≤ zh_N s0 + (zh_N s0 - zh_N s0); omega, by show zh_M s0 ≤ zh_M s0 + (zh_M s0 - zh_M s0); omega⟩
  have hF : 0 ≤ ({ frames := 0, cells := zh_N s0 - zh_N s0, slots := zh_M s0 - zh_M s0, locals := 0 } : Room).frames ∧ 0 ≤ ({ frames := 0, cells := zh_N s0 - zh_N s0, slots := zh_M s0 - zh_M s0, locals := 0 } : Room).locals := ⟨Nat.le_refl _, Nat.le_refl _⟩
  have hret := fun (pc : Nat) (lv : List (Nat × Value)) (hd : decode ze_Shelf_nextList pc = .ok (.areturn, 1)) => zg_aret (R := { frames := 0, cells := zh_N s0 - zh_N s0, slots := zh_M s0 - zh_M s0, locals := 0 }) (l := l) (e := e) (below := below) (c0 := zh_N s0) (s0 := zh_M s0) (z := s0) (lv := lv) (v := .ref (h0 + r)) X (Or.inr ⟨_, rfl⟩) hd
  refine zg_1 (pc' := 1) (fun _ _ _ _ _ hl w => lv_aload_n hx hb zd_Shelf_nextList_0 rfl (lv_at hl 0 rfl) w) ?_
  obtain ⟨h_1, hf⟩ := zx_ck hf
  obtain ⟨a_2, h_3, hf⟩ := zx_p hf
  refine zg_get (pc' := 4) (ci := 5) hx hb htT zi_Shelf hown hK h_1 rfl rfl 1 (by decide) (htT _ zt_284) (fun _ h9 => h9) (zx_hv h_3) zd_Shelf_nextList_1 rfl ?_
  refine zg_1 (pc' := 5) (fun _ _ _ _ _ hl w => lv_aload_n hx hb zd_Shelf_nextList_4 rfl (lv_at hl 0 rfl) w) ?_
  refine zg_get (pc' := 8) (ci := 5) hx hb htT zi_Shelf hown hK h_1 rfl rfl 3 (by decide) (htT _ zt_290) (fun _ h9 => h9) rfl zd_Shelf_nextList_5 rfl ?_
  obtain ⟨h_4, hf⟩ := zx_ck hf
  obtain ⟨a_5, h_6, hf⟩ := zx_p hf
  refine zg_aald (pc' := 9) (t := 1) (t0 := 3) hx hb hK rfl h_4 h_6 zd_Shelf_nextList_8 rfl ?_
  obtain rfl := zx_r1 hf
  exact hret _ _ zd_Shelf_nextList_9
set_option maxHeartbeats 4000000 in
theorem zc_Reader_readSignature_R (l : Launch) (h0 : Nat) (D : va_G) (dA : Nat → ClassId) (tb : Nat → Nat) (n : Nat) {s0 : zh_S} {a0 : Nat} {a1 : Nat} {i2 : Int32} {i3 : Int32} {z : zh_S} (hf : zf_Reader_readSignature_R n s0 a0 a1 i2 i3 = some z) : zc_M l zn_Reader_readSignature zs_Reader_readSignature 3 71 h0 D dA tb [.ref (h0 + a0), .ref (h0 + a1), .int i2, .int i3] s0 none z := by
  rw [zf_Reader_readSignature_R] at hf
  refine zc_of (cc := ze_Reader_readSignature) (maxL := 4) (ret := none) (lv := [(0, .ref (h0 + a0)), (1, .ref (h0 + a1)), (2, .int i2), (3, .int i3)]) (by decide) rfl (Nat.le_of_ble_eq_true rfl) rfl ?_
  intro p e s m args below meth c X hnm
  obtain ⟨hx, hb, hml, hown, htT, hrt, hlk, x00, hIn⟩ := id X
  have hK := hIn.2.1
  have hT := hIn.2.2.1
  have hNe := hIn.2.2.2
  have hR : zg_R { frames := 3, cells := zh_N z - zh_N s0, slots := zh_M z - zh_M s0, locals := 71 } (zh_N s0) (zh_M s0) z := ⟨by show zh_N z ≤ zh_N s0 + (zh_N z - zh_N s0); omega, by show zh_M z ≤ zh_M s0 + (zh_M z - zh_M s0); omega⟩
  have hF : 3 ≤ ({ frames := 3, cells := zh_N z - zh_N s0, slots := zh_M z - zh_M s0, locals := 71 } : Room).frames ∧ 71 ≤ ({ frames := 3, cells := zh_N z - zh_N s0, slots := zh_M z - zh_M s0, locals := 71 } : Room).locals := ⟨Nat.le_refl _, Nat.le_refl _⟩
  have hret := fun (pc : Nat) (lv : List (Nat × Value)) (hd : decode ze_Reader_readSignature pc = .ok (.return_, 1)) => zg_vret (R := { frames := 3, cells := zh_N z - zh_N s0, slots := zh_M z - zh_M s0, locals := 71 }) (l := l) (e := e) (below := below) (c0 := zh_N s0) (s0 := zh_M s0) (z := z) (lv := lv) X hd
  refine zg_1 (pc' := 1) (fun _ _ _ _ _ hl w => lv_aload_n hx hb zd_Reader_readSignature_0 rfl (lv_at hl 0 rfl) w) ?_
  obtain ⟨h_1, hf⟩ := zx_ck hf
  refine zg_get (pc' := 4) (ci := 2) hx hb htT zi_Reader hown hK h_1 rfl rfl 2 (by decide) (htT _ zt_498) (fun _ h9 => h9) rfl zd_Reader_readSignature_1 rfl ?_
  refine zg_2 (pc1 := 8) (pc2 := 7) (Classical.em _) (fun _ _ _ _ _ w1 w2 => lv_if_eq hx hb zd_Reader_readSignature_4 (by decide) w1 w2) (fun hc => ?_) (fun hc => ?_)
  · rw [if_pos hc] at hf
    refine zg_1 (pc' := 9) (fun _ _ _ _ _ hl w => lv_aload_n hx hb zd_Reader_readSignature_8 rfl (lv_at hl 1 rfl) w) ?_
    refine zg_1 (pc' := 10) (fun _ _ _ _ _ hl w => lv_aload_n hx hb zd_Reader_readSignature_9 rfl (lv_at hl 0 rfl) w) ?_
    obtain ⟨a_2, h_3, hf⟩ := zx_p hf
    refine zg_get (pc' := 13) (ci := 2) hx hb htT zi_Reader hown hK h_1 rfl rfl 0 (by decide) (htT _ zt_496) (fun _ h9 => h9) (zx_hv h_3) zd_Reader_readSignature_10 rfl ?_
    refine zg_1 (pc' := 14) (fun _ _ _ _ _ hl w => lv_iload_n hx hb zd_Reader_readSignature_13 rfl (lv_at hl 2 rfl) w) ?_
    refine zg_1 (pc' := 15) (fun _ _ _ _ _ hl w => lv_aload_n hx hb zd_Reader_readSignature_14 rfl (lv_at hl 0 rfl) w) ?_
    refine zg_get (pc' := 18) (ci := 2) hx hb htT zi_Reader hown hK h_1 rfl rfl 1 (by decide) (htT _ zt_497) (fun _ h9 => h9) rfl zd_Reader_readSignature_15 rfl ?_
    obtain ⟨h_4, hf⟩ := zx_ck hf
    obtain ⟨i_5, hq, hf⟩ := zx_p hf
    refine zg_call (pc' := 21) (y := s0) (rv := (some (.int i_5))) (rest := [.ref (h0 + a1)]) X hR ⟨Nat.le_refl _, Nat.le_refl _⟩ (fun H locs ls k j hsz hI hU hk => va_runV (As := [.int i2, .int (zh_I s0 a0 1)]) (rest := [.ref (h0 + a1)]) ⟨hx, hb, hml, hown, htT⟩ (zc_Draft_hash l h0 D dA tb n hq) (cwV 2 htT (zw_gV zt_587 zt_453 zt_454 zt_65 zt_455) rfl rfl rfl (by decide +kernel) ⟨Nat.le_trans (Nat.le_of_ble_eq_true rfl) hF.1, Nat.le_trans (Nat.le_of_ble_eq_true rfl) hF.2⟩) ⟨(zg_pre hU).1, zg_recv hK hI h_4 rfl, (zg_pre hU).2⟩ rfl rfl hsz rfl (lv_room (Nat.le_of_ble_eq_true rfl)) zd_Reader_readSignature_18 hk) rfl ?_
    obtain ⟨h_7, hf⟩ := zx_ck hf
    obtain ⟨s_6, e_s_6, hf⟩ := zx_l hf
    refine zg_putI (pc' := 24) (ci := 3) (ty := .int) hx hb htT zi_RevokedList zy_RevokedList zo_RevokedList zj_RevokedList hown hK h_7 rfl rfl 4 (by decide) (htT _ zt_213) (fun _ h9 => h9) (Or.inl rfl) (by decide +kernel) rfl rfl rfl e_s_6 zd_Reader_readSignature_21 rfl ?_
    refine zg_1 (pc' := 25) (fun _ _ _ _ _ hl w => lv_aload_n hx hb zd_Reader_readSignature_24 rfl (lv_at hl 1 rfl) w) ?_
    refine zg_1 (pc' := 26) (fun _ _ _ _ _ hl w => lv_aload_n hx hb zd_Reader_readSignature_25 rfl (lv_at hl 0 rfl) w) ?_
    refine zg_1 (pc' := 27) (fun _ _ _ _ _ hl w => lv_iload_n hx hb zd_Reader_readSignature_26 rfl (lv_at hl 3 rfl) w) ?_
    obtain ⟨j_9, s_8, hq, hf⟩ := zx_b hf
    refine zg_call (pc' := 30) (y := s_8) (rv := (some (.long j_9))) (rest := [.ref (h0 + a1)]) X hR (zm_Reader_readInteger hq) (fun H locs ls k j hsz hI hU hk => va_runV (As := [.int i3]) (rest := [.ref (h0 + a1)]) ⟨hx, hb, hml, hown, htT⟩ (zc_Reader_readInteger l h0 D dA tb n hq) (cwV 1 htT (zw_gV zt_527 zt_529 zt_8 zt_75 zt_530) rfl rfl rfl (by decide +kernel) ⟨Nat.le_trans (Nat.le_of_ble_eq_true rfl) hF.1, Nat.le_trans (Nat.le_of_ble_eq_true rfl) hF.2⟩) ⟨(zg_pre hU).1, zg_recv hK hI (zx_oI e_s_6 h_1) rfl, (zg_pre hU).2⟩ rfl rfl hsz rfl (lv_room (Nat.le_of_ble_eq_true rfl)) zd_Reader_readSignature_27 hk) rfl ?_
    obtain ⟨h_11, hf⟩ := zx_ck hf
    obtain ⟨s_10, e_s_10, hf⟩ := zx_l hf
    refine zg_putJ (pc' := 33) (ci := 3) (ty := .long) hx hb htT zi_RevokedList zy_RevokedList zo_RevokedList zj_RevokedList hown hK h_11 rfl rfl 3 (by decide) (htT _ zt_208) (fun _ h9 => h9) (Or.inl rfl) (by decide +kernel) rfl rfl rfl e_s_10 zd_Reader_readSignature_30 rfl ?_
    refine zg_1 (pc' := 34) (fun _ _ _ _ _ hl w => lv_aload_n hx hb zd_Reader_readSignature_33 rfl (lv_at hl 0 rfl) w) ?_
    refine zg_1 (pc' := 35) (fun _ _ _ _ _ hl w => lv_iload_n hx hb zd_Reader_readSignature_34 rfl (lv_at hl 3 rfl) w) ?_
    obtain ⟨h_13, hf⟩ := zx_ck hf
    obtain ⟨s_12, hq, hf⟩ := zx_p hf
    refine zg_call (pc' := 38) (y := s_12) (rv := none) (rest := []) X hR (zm_Reader_close hq) (fun H locs ls k j hsz hI hU hk => va_runV (As := [.int i3]) (rest := []) ⟨hx, hb, hml, hown, htT⟩ (zc_Reader_close l h0 D dA tb n hq) (cwV 1 htT (zw_gV zt_564 zt_566 zt_16 zt_75 zt_567) rfl rfl rfl (by decide +kernel) ⟨Nat.le_trans (Nat.le_of_ble_eq_true rfl) hF.1, Nat.le_trans (Nat.le_of_ble_eq_true rfl) hF.2⟩) ⟨(zg_pre hU).1, zg_recv hK hI h_13 rfl, (zg_pre hU).2⟩ rfl rfl hsz rfl (lv_room (Nat.le_of_ble_eq_true rfl)) zd_Reader_readSignature_35 hk) rfl ?_
    refine zg_1 (pc' := 39) (fun _ _ _ _ _ hl w => lv_aload_n hx hb zd_Reader_readSignature_38 rfl (lv_at hl 0 rfl) w) ?_
    refine zg_1 (pc' := 40) (fun _ _ _ _ _ hl w => lv_aload_n hx hb zd_Reader_readSignature_39 rfl (lv_at hl 0 rfl) w) ?_
    obtain ⟨h_14, hf⟩ := zx_ck hf
    obtain ⟨a_15, h_16, hf⟩ := zx_p hf
    refine zg_get (pc' := 43) (ci := 2) hx hb htT zi_Reader hown hK h_14 rfl rfl 0 (by decide) (htT _ zt_496) (fun _ h9 => h9) (zx_hv h_16) zd_Reader_readSignature_40 rfl ?_
    obtain ⟨h_17, hf⟩ := zx_ck hf
    refine zg_get (pc' := 46) (ci := 1) hx hb htT zi_Draft hown hK h_17 rfl rfl 1 (by decide) (htT _ zt_95) (fun _ h9 => h9) rfl zd_Reader_readSignature_43 rfl ?_
    obtain ⟨s_18, hq, hf⟩ := zx_p hf
    refine zg_call (pc' := 49) (y := s_18) (rv := none) (rest := []) X hR (zm_Reader_close hq) (fun H locs ls k j hsz hI hU hk => va_runV (As := [.int (zh_I s_12 a_15 1)]) (rest := []) ⟨hx, hb, hml, hown, htT⟩ (zc_Reader_close l h0 D dA tb n hq) (cwV 1 htT (zw_gV zt_564 zt_566 zt_16 zt_75 zt_567) rfl rfl rfl (by decide +kernel) ⟨Nat.le_trans (Nat.le_of_ble_eq_true rfl) hF.1, Nat.le_trans (Nat.le_of_ble_eq_true rfl) hF.2⟩) ⟨(zg_pre hU).1, zg_recv hK hI h_14 rfl, (zg_pre hU).2⟩ rfl rfl hsz rfl (lv_room (Nat.le_of_ble_eq_true rfl)) zd_Reader_readSignature_46 hk) rfl ?_
    obtain rfl := zx_r1 hf
    exact hret _ _ zd_Reader_readSignature_49
  · rw [if_neg hc] at hf
    obtain rfl := zx_r1 hf
    exact hret _ _ zd_Reader_readSignature_7
set_option maxHeartbeats 4000000 in
theorem zw_Reader_readList_153 {p : Program} {l : Launch} {e : Env} {R : Room} {s : State} {m : MethodId} {args : Array Value} {below : List Frame} {meth : Method} {c : Code} {Q : State → Prop} {h0 : Nat} {D : va_G} {dA : Nat → ClassId} {tb : Nat → Nat} {c0 k0 : Nat} {z : zh_S} {r : Int32} (X : zg_X p s m args meth c ze_Reader_readList 8 zr_Reader (some .int) h0 D dA tb) (hR : zg_R R c0 k0 z) (hF : 4 ≤ R.frames ∧ 94 ≤ R.locals) (hret : ∀ (pc : Nat) (lv : List (Nat × Value)), decode ze_Reader_readList pc = .ok (.ireturn, 1) → zg_G p l e R s m args below meth c Q h0 D dA 8 c0 k0 z z pc lv [.int r]) (n : Nat) : ∀ (s0 : zh_S) (a0 : Nat) (a1 : Nat) (i2 : Int32) (i3 : Int32) (i4 : Int32) (i5 : Int32), zb_Reader_readList_153 n s0 a0 a1 i2 i3 i4 i5 = some (r, z) → zg_G p l e R s m args below meth c Q h0 D dA 8 c0 k0 z s0 153 [(0, .ref (h0 + a0)), (1, .ref (h0 + a1)), (2, .int i2), (3, .int i3), (4, .int i4), (5, .int i5)] [] := by
  obtain ⟨hx, hb, hml, hown, htT, hrt, hlk, x00, hIn⟩ := id X
  have hK := hIn.2.1
  have hT := hIn.2.2.1
  have hNe := hIn.2.2.2
  intro s0 a0 a1 i2 i3 i4 i5 hf
  rw [zb_Reader_readList_153] at hf
  refine zg_1 (pc' := 154) (fun _ _ _ _ _ hl w => lv_aload_n hx hb zd_Reader_readList_153 rfl (lv_at hl 0 rfl) w) ?_
  refine zg_1 (pc' := 156) (fun _ _ _ _ _ hl w => lv_iload hx hb zd_Reader_readList_154 (lv_at hl 5 rfl) w) ?_
  obtain ⟨h_2, hf⟩ := zx_ck hf
  obtain ⟨s_1, hq, hf⟩ := zx_p hf
  refine zg_call (pc' := 159) (y := s_1) (rv := none) (rest := []) X hR (zm_Reader_close hq) (fun H locs ls k j hsz hI hU hk => va_runV (As := [.int i5]) (rest := []) ⟨hx, hb, hml, hown, htT⟩ (zc_Reader_close l h0 D dA tb n hq) (cwV 1 htT (zw_gV zt_564 zt_566 zt_16 zt_75 zt_567) rfl rfl rfl (by decide +kernel) ⟨Nat.le_trans (Nat.le_of_ble_eq_true rfl) hF.1, Nat.le_trans (Nat.le_of_ble_eq_true rfl) hF.2⟩) ⟨(zg_pre hU).1, zg_recv hK hI h_2 rfl, (zg_pre hU).2⟩ rfl rfl hsz rfl (lv_room (Nat.le_of_ble_eq_true rfl)) zd_Reader_readList_156 hk) rfl ?_
  refine zg_1 (pc' := 160) (fun _ _ _ _ _ hl w => lv_aload_n hx hb zd_Reader_readList_159 rfl (lv_at hl 0 rfl) w) ?_
  refine zg_1 (pc' := 162) (fun _ _ _ _ _ hl w => lv_iload hx hb zd_Reader_readList_160 (lv_at hl 4 rfl) w) ?_
  obtain ⟨h_4, hf⟩ := zx_ck hf
  obtain ⟨s_3, hq, hf⟩ := zx_p hf
  refine zg_call (pc' := 165) (y := s_3) (rv := none) (rest := []) X hR (zm_Reader_close hq) (fun H locs ls k j hsz hI hU hk => va_runV (As := [.int i4]) (rest := []) ⟨hx, hb, hml, hown, htT⟩ (zc_Reader_close l h0 D dA tb n hq) (cwV 1 htT (zw_gV zt_564 zt_566 zt_16 zt_75 zt_567) rfl rfl rfl (by decide +kernel) ⟨Nat.le_trans (Nat.le_of_ble_eq_true rfl) hF.1, Nat.le_trans (Nat.le_of_ble_eq_true rfl) hF.2⟩) ⟨(zg_pre hU).1, zg_recv hK hI h_4 rfl, (zg_pre hU).2⟩ rfl rfl hsz rfl (lv_room (Nat.le_of_ble_eq_true rfl)) zd_Reader_readList_162 hk) rfl ?_
  refine zg_1 (pc' := 166) (fun _ _ _ _ _ hl w => lv_aload_n hx hb zd_Reader_readList_165 rfl (lv_at hl 0 rfl) w) ?_
  refine zg_1 (pc' := 167) (fun _ _ _ _ _ hl w => lv_aload_n hx hb zd_Reader_readList_166 rfl (lv_at hl 1 rfl) w) ?_
  refine zg_1 (pc' := 168) (fun _ _ _ _ _ hl w => lv_iload_n hx hb zd_Reader_readList_167 rfl (lv_at hl 3 rfl) w) ?_
  refine zg_1 (pc' := 169) (fun _ _ _ _ _ hl w => lv_iload_n hx hb zd_Reader_readList_168 rfl (lv_at hl 2 rfl) w) ?_
  obtain ⟨h_6, hf⟩ := zx_ck hf
  obtain ⟨s_5, hq, hf⟩ := zx_p hf
  refine zg_call (pc' := 172) (y := s_5) (rv := none) (rest := []) X hR (zm_Reader_readSignature_R hq) (fun H locs ls k j hsz hI hU hk => va_runV (As := [.ref (h0 + a1), .int i3, .int i2]) (rest := []) ⟨hx, hb, hml, hown, htT⟩ (zc_Reader_readSignature_R l h0 D dA tb n hq) (cwV 3 htT (zw_gV zt_583 zt_585 zt_20 zt_75 zt_586) rfl rfl rfl (by decide +kernel) ⟨Nat.le_trans (Nat.le_of_ble_eq_true rfl) hF.1, Nat.le_trans (Nat.le_of_ble_eq_true rfl) hF.2⟩) ⟨(zg_pre hU).1, zg_recv hK hI h_6 rfl, (zg_pre hU).2⟩ rfl rfl hsz rfl (lv_room (Nat.le_of_ble_eq_true rfl)) zd_Reader_readList_169 hk) rfl ?_
  refine zg_1 (pc' := 173) (fun _ _ _ _ _ hl w => lv_aload_n hx hb zd_Reader_readList_172 rfl (lv_at hl 0 rfl) w) ?_
  obtain ⟨h_7, hf⟩ := zx_ck hf
  refine zg_get (pc' := 176) (ci := 2) hx hb htT zi_Reader hown hK h_7 rfl rfl 2 (by decide) (htT _ zt_498) (fun _ h9 => h9) rfl zd_Reader_readList_173 rfl ?_
  obtain ⟨rfl, rfl⟩ := zx_r2 hf
  exact hret _ _ zd_Reader_readList_176
set_option maxHeartbeats 4000000 in
theorem zw_Reader_readList_78 {p : Program} {l : Launch} {e : Env} {R : Room} {s : State} {m : MethodId} {args : Array Value} {below : List Frame} {meth : Method} {c : Code} {Q : State → Prop} {h0 : Nat} {D : va_G} {dA : Nat → ClassId} {tb : Nat → Nat} {c0 k0 : Nat} {z : zh_S} {r : Int32} (X : zg_X p s m args meth c ze_Reader_readList 8 zr_Reader (some .int) h0 D dA tb) (hR : zg_R R c0 k0 z) (hF : 4 ≤ R.frames ∧ 94 ≤ R.locals) (hret : ∀ (pc : Nat) (lv : List (Nat × Value)), decode ze_Reader_readList pc = .ok (.ireturn, 1) → zg_G p l e R s m args below meth c Q h0 D dA 8 c0 k0 z z pc lv [.int r]) (n : Nat) (k : Nat) : ∀ (s0 : zh_S) (a0 : Nat) (a1 : Nat) (i2 : Int32) (i3 : Int32) (i4 : Int32) (i5 : Int32) (i6 : Int32), zl_Reader_readList_78 n k s0 a0 a1 i2 i3 i4 i5 i6 = some (r, z) → zg_G p l e R s m args below meth c Q h0 D dA 8 c0 k0 z s0 78 [(0, .ref (h0 + a0)), (1, .ref (h0 + a1)), (2, .int i2), (3, .int i3), (4, .int i4), (5, .int i5), (6, .int i6)] [] := by
  obtain ⟨hx, hb, hml, hown, htT, hrt, hlk, x00, hIn⟩ := id X
  have hK := hIn.2.1
  have hT := hIn.2.2.1
  have hNe := hIn.2.2.2
  induction k with
  | zero => intro s0 a0 a1 i2 i3 i4 i5 i6 hf; cases hf
  | succ k ih =>
    intro s0 a0 a1 i2 i3 i4 i5 i6 hf
    rw [zl_Reader_readList_78] at hf
    refine zg_1 (pc' := 80) (fun _ _ _ _ _ hl w => lv_iload hx hb zd_Reader_readList_78 (lv_at hl 6 rfl) w) ?_
    refine zg_1 (pc' := 81) (fun _ _ _ _ _ hl w => lv_iconst (v := (4 : Int32)) hx hb zd_Reader_readList_80 (by decide) w) ?_
    refine zg_2 (pc1 := 153) (pc2 := 84) (Classical.em _) (fun _ _ _ _ _ w1 w2 => lv_icmp_ge hx hb zd_Reader_readList_81 (by decide) w1 w2) (fun hc => ?_) (fun hc => ?_)
    · rw [if_pos hc] at hf
      refine zg_v [0, 1, 2, 3, 4, 5] rfl ?_
      exact zw_Reader_readList_153 X hR hF hret n s0 a0 a1 i2 i3 i4 i5 hf
    · rw [if_neg hc] at hf
      refine zg_1 (pc' := 85) (fun _ _ _ _ _ hl w => lv_aload_n hx hb zd_Reader_readList_84 rfl (lv_at hl 0 rfl) w) ?_
      refine zg_1 (pc' := 87) (fun _ _ _ _ _ hl w => lv_bipush (v := (48 : Int32)) hx hb zd_Reader_readList_85 (by decide) w) ?_
      refine zg_1 (pc' := 89) (fun _ _ _ _ _ hl w => lv_iload hx hb zd_Reader_readList_87 (lv_at hl 5 rfl) w) ?_
      obtain ⟨h_1, hf⟩ := zx_ck hf
      obtain ⟨i_2, hq, hf⟩ := zx_p hf
      refine zg_call (pc' := 92) (y := s0) (rv := (some (.int i_2))) (rest := []) X hR ⟨Nat.le_refl _, Nat.le_refl _⟩ (fun H locs ls k j hsz hI hU hk => va_runV (As := [.int (48 : Int32), .int i5]) (rest := []) ⟨hx, hb, hml, hown, htT⟩ (zc_Reader_isNext l h0 D dA tb n hq) (cwV 2 htT (zw_gV zt_543 zt_545 zt_11 zt_75 zt_546) rfl rfl rfl (by decide +kernel) ⟨Nat.le_trans (Nat.le_of_ble_eq_true rfl) hF.1, Nat.le_trans (Nat.le_of_ble_eq_true rfl) hF.2⟩) ⟨(zg_pre hU).1, zg_recv hK hI h_1 rfl, (zg_pre hU).2⟩ rfl rfl hsz rfl (lv_room (Nat.le_of_ble_eq_true rfl)) zd_Reader_readList_89 hk) rfl ?_
      refine zg_2 (pc1 := 153) (pc2 := 95) (Classical.em _) (fun _ _ _ _ _ w1 w2 => lv_if_eq hx hb zd_Reader_readList_92 (by decide) w1 w2) (fun hc => ?_) (fun hc => ?_)
      · rw [if_pos hc] at hf
        refine zg_v [0, 1, 2, 3, 4, 5] rfl ?_
        exact zw_Reader_readList_153 X hR hF hret n s0 a0 a1 i2 i3 i4 i5 hf
      · rw [if_neg hc] at hf
        refine zg_1 (pc' := 96) (fun _ _ _ _ _ hl w => lv_aload_n hx hb zd_Reader_readList_95 rfl (lv_at hl 0 rfl) w) ?_
        refine zg_1 (pc' := 98) (fun _ _ _ _ _ hl w => lv_bipush (v := (48 : Int32)) hx hb zd_Reader_readList_96 (by decide) w) ?_
        refine zg_1 (pc' := 100) (fun _ _ _ _ _ hl w => lv_iload hx hb zd_Reader_readList_98 (lv_at hl 5 rfl) w) ?_
        obtain ⟨i_4, s_3, hq, hf⟩ := zx_b hf
        refine zg_call (pc' := 103) (y := s_3) (rv := (some (.int i_4))) (rest := []) X hR (zm_Reader_open hq) (fun H locs ls k j hsz hI hU hk => va_runV (As := [.int (48 : Int32), .int i5]) (rest := []) ⟨hx, hb, hml, hown, htT⟩ (zc_Reader_open l h0 D dA tb n hq) (cwV 2 htT (zw_gV zt_519 zt_521 zt_6 zt_75 zt_522) rfl rfl rfl (by decide +kernel) ⟨Nat.le_trans (Nat.le_of_ble_eq_true rfl) hF.1, Nat.le_trans (Nat.le_of_ble_eq_true rfl) hF.2⟩) ⟨(zg_pre hU).1, zg_recv hK hI h_1 rfl, (zg_pre hU).2⟩ rfl rfl hsz rfl (lv_room (Nat.le_of_ble_eq_true rfl)) zd_Reader_readList_100 hk) rfl ?_
        refine zg_s (pc' := 105) (lv' := [(7, .int i_4), (0, .ref (h0 + a0)), (1, .ref (h0 + a1)), (2, .int i2), (3, .int i3), (4, .int i4), (5, .int i5), (6, .int i6)]) (fun _ _ _ _ _ hl w => lv_istore hx hb zd_Reader_readList_103 hl (by decide) rfl w) ?_
        refine zg_1 (pc' := 106) (fun _ _ _ _ _ hl w => lv_aload_n hx hb zd_Reader_readList_105 rfl (lv_at hl 2 rfl) w) ?_
        obtain ⟨h_5, hf⟩ := zx_ck hf
        obtain ⟨a_6, h_7, hf⟩ := zx_p hf
        refine zg_get (pc' := 109) (ci := 3) hx hb htT zi_RevokedList hown hK h_5 rfl rfl 6 (by decide) (htT _ zt_263) (fun _ h9 => h9) (zx_hv h_7) zd_Reader_readList_106 rfl ?_
        refine zg_1 (pc' := 111) (fun _ _ _ _ _ hl w => lv_iload hx hb zd_Reader_readList_109 (lv_at hl 7 rfl) w) ?_
        refine zg_1 (pc' := 112) (fun _ _ _ _ _ hl w => lv_aload_n hx hb zd_Reader_readList_111 rfl (lv_at hl 1 rfl) w) ?_
        refine zg_1 (pc' := 114) (fun _ _ _ _ _ hl w => lv_iload hx hb zd_Reader_readList_112 (lv_at hl 0 rfl) w) ?_
        obtain ⟨h_9, hf⟩ := zx_ck hf
        obtain ⟨j_10, s_8, hq, hf⟩ := zx_b hf
        refine zg_call (pc' := 117) (y := s_8) (rv := (some (.long j_10))) (rest := [.int i6, .ref (h0 + a_6)]) X hR (zm_Reader_readInteger hq) (fun H locs ls k j hsz hI hU hk => va_runV (As := [.int i_4]) (rest := [.int i6, .ref (h0 + a_6)]) ⟨hx, hb, hml, hown, htT⟩ (zc_Reader_readInteger l h0 D dA tb n hq) (cwV 1 htT (zw_gV zt_527 zt_529 zt_8 zt_75 zt_530) rfl rfl rfl (by decide +kernel) ⟨Nat.le_trans (Nat.le_of_ble_eq_true rfl) hF.1, Nat.le_trans (Nat.le_of_ble_eq_true rfl) hF.2⟩) ⟨(zg_pre hU).1, zg_recv hK hI h_9 rfl, (zg_pre hU).2⟩ rfl rfl hsz rfl (lv_room (Nat.le_of_ble_eq_true rfl)) zd_Reader_readList_114 hk) rfl ?_
        obtain ⟨h_12, hf⟩ := zx_ck hf
        obtain ⟨s_11, e_s_11, hf⟩ := zx_l hf
        refine zg_last (pc' := 118) hx hb hK h_12 e_s_11 zd_Reader_readList_117 rfl ?_
        refine zg_1 (pc' := 119) (fun _ _ _ _ _ hl w => lv_aload_n hx hb zd_Reader_readList_118 rfl (lv_at hl 2 rfl) w) ?_
        obtain ⟨h_13, hf⟩ := zx_ck hf
        obtain ⟨a_14, h_15, hf⟩ := zx_p hf
        refine zg_get (pc' := 122) (ci := 3) hx hb htT zi_RevokedList hown hK h_13 rfl rfl 7 (by decide) (htT _ zt_265) (fun _ h9 => h9) (zx_hv h_15) zd_Reader_readList_119 rfl ?_
        refine zg_1 (pc' := 124) (fun _ _ _ _ _ hl w => lv_iload hx hb zd_Reader_readList_122 (lv_at hl 7 rfl) w) ?_
        refine zg_1 (pc' := 125) (fun _ _ _ _ _ hl w => lv_aload_n hx hb zd_Reader_readList_124 rfl (lv_at hl 1 rfl) w) ?_
        refine zg_1 (pc' := 127) (fun _ _ _ _ _ hl w => lv_iload hx hb zd_Reader_readList_125 (lv_at hl 0 rfl) w) ?_
        obtain ⟨h_17, hf⟩ := zx_ck hf
        obtain ⟨j_18, s_16, hq, hf⟩ := zx_b hf
        refine zg_call (pc' := 130) (y := s_16) (rv := (some (.long j_18))) (rest := [.int i6, .ref (h0 + a_14)]) X hR (zm_Reader_readInteger hq) (fun H locs ls k j hsz hI hU hk => va_runV (As := [.int i_4]) (rest := [.int i6, .ref (h0 + a_14)]) ⟨hx, hb, hml, hown, htT⟩ (zc_Reader_readInteger l h0 D dA tb n hq) (cwV 1 htT (zw_gV zt_527 zt_529 zt_8 zt_75 zt_530) rfl rfl rfl (by decide +kernel) ⟨Nat.le_trans (Nat.le_of_ble_eq_true rfl) hF.1, Nat.le_trans (Nat.le_of_ble_eq_true rfl) hF.2⟩) ⟨(zg_pre hU).1, zg_recv hK hI h_17 rfl, (zg_pre hU).2⟩ rfl rfl hsz rfl (lv_room (Nat.le_of_ble_eq_true rfl)) zd_Reader_readList_127 hk) rfl ?_
        obtain ⟨h_20, hf⟩ := zx_ck hf
        obtain ⟨s_19, e_s_19, hf⟩ := zx_l hf
        refine zg_last (pc' := 131) hx hb hK h_20 e_s_19 zd_Reader_readList_130 rfl ?_
        refine zg_1 (pc' := 132) (fun _ _ _ _ _ hl w => lv_aload_n hx hb zd_Reader_readList_131 rfl (lv_at hl 2 rfl) w) ?_
        refine zg_1 (pc' := 133) (fun _ _ _ _ _ hl w => lv_dup hx hb zd_Reader_readList_132 rfl w) ?_
        obtain ⟨h_21, hf⟩ := zx_ck hf
        refine zg_get (pc' := 136) (ci := 3) hx hb htT zi_RevokedList hown hK h_21 rfl rfl 8 (by decide) (htT _ zt_267) (fun _ h9 => h9) rfl zd_Reader_readList_133 rfl ?_
        refine zg_1 (pc' := 137) (fun _ _ _ _ _ hl w => lv_iconst (v := (1 : Int32)) hx hb zd_Reader_readList_136 (by decide) w) ?_
        refine zg_1 (pc' := 138) (fun _ _ _ _ _ hl w => lv_iadd hx hb zd_Reader_readList_137 w) ?_
        obtain ⟨s_22, e_s_22, hf⟩ := zx_l hf
        refine zg_putI (pc' := 141) (ci := 3) (ty := .int) hx hb htT zi_RevokedList zy_RevokedList zo_RevokedList zj_RevokedList hown hK h_21 rfl rfl 8 (by decide) (htT _ zt_267) (fun _ h9 => h9) (Or.inl rfl) (by decide +kernel) rfl rfl rfl e_s_22 zd_Reader_readList_138 rfl ?_
        refine zg_1 (pc' := 142) (fun _ _ _ _ _ hl w => lv_aload_n hx hb zd_Reader_readList_141 rfl (lv_at hl 1 rfl) w) ?_
        refine zg_1 (pc' := 144) (fun _ _ _ _ _ hl w => lv_iload hx hb zd_Reader_readList_142 (lv_at hl 0 rfl) w) ?_
        obtain ⟨h_24, hf⟩ := zx_ck hf
        obtain ⟨s_23, hq, hf⟩ := zx_p hf
        refine zg_call (pc' := 147) (y := s_23) (rv := none) (rest := []) X hR (zm_Reader_close hq) (fun H locs ls k j hsz hI hU hk => va_runV (As := [.int i_4]) (rest := []) ⟨hx, hb, hml, hown, htT⟩ (zc_Reader_close l h0 D dA tb n hq) (cwV 1 htT (zw_gV zt_564 zt_566 zt_16 zt_75 zt_567) rfl rfl rfl (by decide +kernel) ⟨Nat.le_trans (Nat.le_of_ble_eq_true rfl) hF.1, Nat.le_trans (Nat.le_of_ble_eq_true rfl) hF.2⟩) ⟨(zg_pre hU).1, zg_recv hK hI h_24 rfl, (zg_pre hU).2⟩ rfl rfl hsz rfl (lv_room (Nat.le_of_ble_eq_true rfl)) zd_Reader_readList_144 hk) rfl ?_
        obtain ⟨i_25, e_i_25, hf⟩ := zx_l hf
        refine zg_s (pc' := 150) (lv' := [(6, .int i_25), (7, .int i_4), (0, .ref (h0 + a0)), (1, .ref (h0 + a1)), (2, .int i2), (3, .int i3), (4, .int i4), (5, .int i5)]) (fun _ _ _ _ _ hl w => lv_iinc (k := 7) (v := i_25) hx hb zd_Reader_readList_147 hl rfl (by rw [e_i_25]; rfl) (by decide) rfl w) ?_
        refine zg_1 (pc' := 78) (fun _ _ _ _ _ hl w => lv_goto hx hb zd_Reader_readList_150 (by decide) w) ?_
        refine zg_v [2, 3, 4, 5, 6, 7, 0] rfl ?_
        exact ih s_23 a0 a1 i2 i3 i4 i5 i_25 hf
set_option maxHeartbeats 4000000 in
theorem zc_Reader_readList (l : Launch) (h0 : Nat) (D : va_G) (dA : Nat → ClassId) (tb : Nat → Nat) (n : Nat) {s0 : zh_S} {a0 : Nat} {a1 : Nat} {r : Int32} {z : zh_S} (hf : zf_Reader_readList n s0 a0 a1 = some (r, z)) : zc_M l zn_Reader_readList zs_Reader_readList 4 94 h0 D dA tb [.ref (h0 + a0), .ref (h0 + a1)] s0 (some (.int r)) z := by
  rw [zf_Reader_readList] at hf
  refine zc_of (cc := ze_Reader_readList) (maxL := 8) (ret := (some .int)) (lv := [(0, .ref (h0 + a0)), (1, .ref (h0 + a1))]) (by decide) rfl (Nat.le_of_ble_eq_true rfl) rfl ?_
  intro p e s m args below meth c X hnm
  obtain ⟨hx, hb, hml, hown, htT, hrt, hlk, x00, hIn⟩ := id X
  have hK := hIn.2.1
  have hT := hIn.2.2.1
  have hNe := hIn.2.2.2
  have hR : zg_R { frames := 4, cells := zh_N z - zh_N s0, slots := zh_M z - zh_M s0, locals := 94 } (zh_N s0) (zh_M s0) z := ⟨by show zh_N z ≤ zh_N s0 + (zh_N z - zh_N s0); omega, by show zh_M z ≤ zh_M s0 + (zh_M z - zh_M s0); omega⟩
  have hF : 4 ≤ ({ frames := 4, cells := zh_N z - zh_N s0, slots := zh_M z - zh_M s0, locals := 94 } : Room).frames ∧ 94 ≤ ({ frames := 4, cells := zh_N z - zh_N s0, slots := zh_M z - zh_M s0, locals := 94 } : Room).locals := ⟨Nat.le_refl _, Nat.le_refl _⟩
  have hret := fun (pc : Nat) (lv : List (Nat × Value)) (hd : decode ze_Reader_readList pc = .ok (.ireturn, 1)) => zg_iret (R := { frames := 4, cells := zh_N z - zh_N s0, slots := zh_M z - zh_M s0, locals := 94 }) (l := l) (e := e) (below := below) (c0 := zh_N s0) (s0 := zh_M s0) (z := z) (lv := lv) (v := r) X rfl hd
  refine zg_1 (pc' := 1) (fun _ _ _ _ _ hl w => lv_aload_n hx hb zd_Reader_readList_0 rfl (lv_at hl 1 rfl) w) ?_
  refine zg_1 (pc' := 2) (fun _ _ _ _ _ hl w => lv_iconst (v := (0 : Int32)) hx hb zd_Reader_readList_1 (by decide) w) ?_
  obtain ⟨h_2, hf⟩ := zx_ck hf
  obtain ⟨s_1, e_s_1, hf⟩ := zx_l hf
  refine zg_putI (pc' := 5) (ci := 3) (ty := .int) hx hb htT zi_RevokedList zy_RevokedList zo_RevokedList zj_RevokedList hown hK h_2 rfl rfl 8 (by decide) (htT _ zt_267) (fun _ h9 => h9) (Or.inl rfl) (by decide +kernel) rfl rfl rfl e_s_1 zd_Reader_readList_2 rfl ?_
  refine zg_1 (pc' := 6) (fun _ _ _ _ _ hl w => lv_aload_n hx hb zd_Reader_readList_5 rfl (lv_at hl 0 rfl) w) ?_
  refine zg_1 (pc' := 8) (fun _ _ _ _ _ hl w => lv_bipush (v := (48 : Int32)) hx hb zd_Reader_readList_6 (by decide) w) ?_
  refine zg_1 (pc' := 9) (fun _ _ _ _ _ hl w => lv_aload_n hx hb zd_Reader_readList_8 rfl (lv_at hl 0 rfl) w) ?_
  obtain ⟨h_3, hf⟩ := zx_ck hf
  obtain ⟨a_4, h_5, hf⟩ := zx_p hf
  refine zg_get (pc' := 12) (ci := 2) hx hb htT zi_Reader hown hK h_3 rfl rfl 0 (by decide) (htT _ zt_496) (fun _ h9 => h9) (zx_hv h_5) zd_Reader_readList_9 rfl ?_
  obtain ⟨h_6, hf⟩ := zx_ck hf
  refine zg_get (pc' := 15) (ci := 1) hx hb htT zi_Draft hown hK h_6 rfl rfl 1 (by decide) (htT _ zt_95) (fun _ h9 => h9) rfl zd_Reader_readList_12 rfl ?_
  obtain ⟨i_8, s_7, hq, hf⟩ := zx_b hf
  refine zg_call (pc' := 18) (y := s_7) (rv := (some (.int i_8))) (rest := []) X hR (zm_Reader_open hq) (fun H locs ls k j hsz hI hU hk => va_runV (As := [.int (48 : Int32), .int (zh_I s_1 a_4 1)]) (rest := []) ⟨hx, hb, hml, hown, htT⟩ (zc_Reader_open l h0 D dA tb n hq) (cwV 2 htT (zw_gV zt_519 zt_521 zt_6 zt_75 zt_522) rfl rfl rfl (by decide +kernel) ⟨Nat.le_trans (Nat.le_of_ble_eq_true rfl) hF.1, Nat.le_trans (Nat.le_of_ble_eq_true rfl) hF.2⟩) ⟨(zg_pre hU).1, zg_recv hK hI h_3 rfl, (zg_pre hU).2⟩ rfl rfl hsz rfl (lv_room (Nat.le_of_ble_eq_true rfl)) zd_Reader_readList_15 hk) rfl ?_
  refine zg_s (pc' := 19) (lv' := [(2, .int i_8), (0, .ref (h0 + a0)), (1, .ref (h0 + a1))]) (fun _ _ _ _ _ hl w => lv_istore_n hx hb zd_Reader_readList_18 rfl hl (by decide) rfl w) ?_
  refine zg_1 (pc' := 20) (fun _ _ _ _ _ hl w => lv_aload_n hx hb zd_Reader_readList_19 rfl (lv_at hl 1 rfl) w) ?_
  obtain ⟨h_9, hf⟩ := zx_ck hf
  refine zg_get (pc' := 23) (ci := 2) hx hb htT zi_Reader hown hK h_9 rfl rfl 1 (by decide) (htT _ zt_497) (fun _ h9 => h9) rfl zd_Reader_readList_20 rfl ?_
  obtain ⟨i_10, e_i_10, hf⟩ := zx_l hf
  refine zg_ti e_i_10 ?_
  refine zg_s (pc' := 24) (lv' := [(3, .int i_10), (2, .int i_8), (0, .ref (h0 + a0)), (1, .ref (h0 + a1))]) (fun _ _ _ _ _ hl w => lv_istore_n hx hb zd_Reader_readList_23 rfl hl (by decide) rfl w) ?_
  refine zg_1 (pc' := 25) (fun _ _ _ _ _ hl w => lv_aload_n hx hb zd_Reader_readList_24 rfl (lv_at hl 2 rfl) w) ?_
  refine zg_1 (pc' := 27) (fun _ _ _ _ _ hl w => lv_bipush (v := (48 : Int32)) hx hb zd_Reader_readList_25 (by decide) w) ?_
  refine zg_1 (pc' := 28) (fun _ _ _ _ _ hl w => lv_iload_n hx hb zd_Reader_readList_27 rfl (lv_at hl 1 rfl) w) ?_
  obtain ⟨i_12, s_11, hq, hf⟩ := zx_b hf
  refine zg_call (pc' := 31) (y := s_11) (rv := (some (.int i_12))) (rest := []) X hR (zm_Reader_open hq) (fun H locs ls k j hsz hI hU hk => va_runV (As := [.int (48 : Int32), .int i_8]) (rest := []) ⟨hx, hb, hml, hown, htT⟩ (zc_Reader_open l h0 D dA tb n hq) (cwV 2 htT (zw_gV zt_519 zt_521 zt_6 zt_75 zt_522) rfl rfl rfl (by decide +kernel) ⟨Nat.le_trans (Nat.le_of_ble_eq_true rfl) hF.1, Nat.le_trans (Nat.le_of_ble_eq_true rfl) hF.2⟩) ⟨(zg_pre hU).1, zg_recv hK hI h_9 rfl, (zg_pre hU).2⟩ rfl rfl hsz rfl (lv_room (Nat.le_of_ble_eq_true rfl)) zd_Reader_readList_28 hk) rfl ?_
  refine zg_s (pc' := 33) (lv' := [(4, .int i_12), (3, .int i_10), (2, .int i_8), (0, .ref (h0 + a0)), (1, .ref (h0 + a1))]) (fun _ _ _ _ _ hl w => lv_istore hx hb zd_Reader_readList_31 hl (by decide) rfl w) ?_
  refine zg_1 (pc' := 34) (fun _ _ _ _ _ hl w => lv_aload_n hx hb zd_Reader_readList_33 rfl (lv_at hl 4 rfl) w) ?_
  refine zg_1 (pc' := 35) (fun _ _ _ _ _ hl w => lv_aload_n hx hb zd_Reader_readList_34 rfl (lv_at hl 3 rfl) w) ?_
  refine zg_1 (pc' := 37) (fun _ _ _ _ _ hl w => lv_bipush (v := (19 : Int32)) hx hb zd_Reader_readList_35 (by decide) w) ?_
  refine zg_1 (pc' := 39) (fun _ _ _ _ _ hl w => lv_iload hx hb zd_Reader_readList_37 (lv_at hl 0 rfl) w) ?_
  obtain ⟨h_14, hf⟩ := zx_ck hf
  obtain ⟨j_15, s_13, hq, hf⟩ := zx_b hf
  refine zg_call (pc' := 42) (y := s_13) (rv := (some (.long j_15))) (rest := [.ref (h0 + a1)]) X hR (zm_Reader_readName hq) (fun H locs ls k j hsz hI hU hk => va_runV (As := [.int (19 : Int32), .int i_12]) (rest := [.ref (h0 + a1)]) ⟨hx, hb, hml, hown, htT⟩ (zc_Reader_readName l h0 D dA tb n hq) (cwV 2 htT (zw_gV zt_535 zt_537 zt_10 zt_75 zt_538) rfl rfl rfl (by decide +kernel) ⟨Nat.le_trans (Nat.le_of_ble_eq_true rfl) hF.1, Nat.le_trans (Nat.le_of_ble_eq_true rfl) hF.2⟩) ⟨(zg_pre hU).1, zg_recv hK hI h_14 rfl, (zg_pre hU).2⟩ rfl rfl hsz rfl (lv_room (Nat.le_of_ble_eq_true rfl)) zd_Reader_readList_39 hk) rfl ?_
  obtain ⟨h_17, hf⟩ := zx_ck hf
  obtain ⟨s_16, e_s_16, hf⟩ := zx_l hf
  refine zg_putJ (pc' := 45) (ci := 3) (ty := .long) hx hb htT zi_RevokedList zy_RevokedList zo_RevokedList zj_RevokedList hown hK h_17 rfl rfl 0 (by decide) (htT _ zt_186) (fun x9 h9 => u_same (htT _ zt_185) x9 h9) (Or.inl rfl) (by decide +kernel) rfl rfl rfl e_s_16 zd_Reader_readList_42 rfl ?_
  refine zg_1 (pc' := 46) (fun _ _ _ _ _ hl w => lv_aload_n hx hb zd_Reader_readList_45 rfl (lv_at hl 4 rfl) w) ?_
  refine zg_1 (pc' := 47) (fun _ _ _ _ _ hl w => lv_aload_n hx hb zd_Reader_readList_46 rfl (lv_at hl 3 rfl) w) ?_
  refine zg_1 (pc' := 49) (fun _ _ _ _ _ hl w => lv_iload hx hb zd_Reader_readList_47 (lv_at hl 0 rfl) w) ?_
  obtain ⟨h_19, hf⟩ := zx_ck hf
  obtain ⟨j_20, s_18, hq, hf⟩ := zx_b hf
  refine zg_call (pc' := 52) (y := s_18) (rv := (some (.long j_20))) (rest := [.ref (h0 + a1)]) X hR (zm_Reader_readInteger hq) (fun H locs ls k j hsz hI hU hk => va_runV (As := [.int i_12]) (rest := [.ref (h0 + a1)]) ⟨hx, hb, hml, hown, htT⟩ (zc_Reader_readInteger l h0 D dA tb n hq) (cwV 1 htT (zw_gV zt_527 zt_529 zt_8 zt_75 zt_530) rfl rfl rfl (by decide +kernel) ⟨Nat.le_trans (Nat.le_of_ble_eq_true rfl) hF.1, Nat.le_trans (Nat.le_of_ble_eq_true rfl) hF.2⟩) ⟨(zg_pre hU).1, zg_recv hK hI h_19 rfl, (zg_pre hU).2⟩ rfl rfl hsz rfl (lv_room (Nat.le_of_ble_eq_true rfl)) zd_Reader_readList_49 hk) rfl ?_
  obtain ⟨h_22, hf⟩ := zx_ck hf
  obtain ⟨s_21, e_s_21, hf⟩ := zx_l hf
  refine zg_putJ (pc' := 55) (ci := 3) (ty := .long) hx hb htT zi_RevokedList zy_RevokedList zo_RevokedList zj_RevokedList hown hK h_22 rfl rfl 1 (by decide) (htT _ zt_195) (fun x9 h9 => u_same (htT _ zt_194) x9 h9) (Or.inl rfl) (by decide +kernel) rfl rfl rfl e_s_21 zd_Reader_readList_52 rfl ?_
  refine zg_1 (pc' := 56) (fun _ _ _ _ _ hl w => lv_aload_n hx hb zd_Reader_readList_55 rfl (lv_at hl 4 rfl) w) ?_
  refine zg_1 (pc' := 57) (fun _ _ _ _ _ hl w => lv_aload_n hx hb zd_Reader_readList_56 rfl (lv_at hl 3 rfl) w) ?_
  refine zg_1 (pc' := 59) (fun _ _ _ _ _ hl w => lv_iload hx hb zd_Reader_readList_57 (lv_at hl 0 rfl) w) ?_
  obtain ⟨h_24, hf⟩ := zx_ck hf
  obtain ⟨j_25, s_23, hq, hf⟩ := zx_b hf
  refine zg_call (pc' := 62) (y := s_23) (rv := (some (.long j_25))) (rest := [.ref (h0 + a1)]) X hR (zm_Reader_readInteger hq) (fun H locs ls k j hsz hI hU hk => va_runV (As := [.int i_12]) (rest := [.ref (h0 + a1)]) ⟨hx, hb, hml, hown, htT⟩ (zc_Reader_readInteger l h0 D dA tb n hq) (cwV 1 htT (zw_gV zt_527 zt_529 zt_8 zt_75 zt_530) rfl rfl rfl (by decide +kernel) ⟨Nat.le_trans (Nat.le_of_ble_eq_true rfl) hF.1, Nat.le_trans (Nat.le_of_ble_eq_true rfl) hF.2⟩) ⟨(zg_pre hU).1, zg_recv hK hI h_24 rfl, (zg_pre hU).2⟩ rfl rfl hsz rfl (lv_room (Nat.le_of_ble_eq_true rfl)) zd_Reader_readList_59 hk) rfl ?_
  obtain ⟨h_27, hf⟩ := zx_ck hf
  obtain ⟨s_26, e_s_26, hf⟩ := zx_l hf
  refine zg_putJ (pc' := 65) (ci := 3) (ty := .long) hx hb htT zi_RevokedList zy_RevokedList zo_RevokedList zj_RevokedList hown hK h_27 rfl rfl 2 (by decide) (htT _ zt_203) (fun x9 h9 => u_same (htT _ zt_202) x9 h9) (Or.inl rfl) (by decide +kernel) rfl rfl rfl e_s_26 zd_Reader_readList_62 rfl ?_
  refine zg_1 (pc' := 66) (fun _ _ _ _ _ hl w => lv_aload_n hx hb zd_Reader_readList_65 rfl (lv_at hl 3 rfl) w) ?_
  refine zg_1 (pc' := 68) (fun _ _ _ _ _ hl w => lv_bipush (v := (48 : Int32)) hx hb zd_Reader_readList_66 (by decide) w) ?_
  refine zg_1 (pc' := 70) (fun _ _ _ _ _ hl w => lv_iload hx hb zd_Reader_readList_68 (lv_at hl 0 rfl) w) ?_
  obtain ⟨h_29, hf⟩ := zx_ck hf
  obtain ⟨i_30, s_28, hq, hf⟩ := zx_b hf
  refine zg_call (pc' := 73) (y := s_28) (rv := (some (.int i_30))) (rest := []) X hR (zm_Reader_open hq) (fun H locs ls k j hsz hI hU hk => va_runV (As := [.int (48 : Int32), .int i_12]) (rest := []) ⟨hx, hb, hml, hown, htT⟩ (zc_Reader_open l h0 D dA tb n hq) (cwV 2 htT (zw_gV zt_519 zt_521 zt_6 zt_75 zt_522) rfl rfl rfl (by decide +kernel) ⟨Nat.le_trans (Nat.le_of_ble_eq_true rfl) hF.1, Nat.le_trans (Nat.le_of_ble_eq_true rfl) hF.2⟩) ⟨(zg_pre hU).1, zg_recv hK hI h_29 rfl, (zg_pre hU).2⟩ rfl rfl hsz rfl (lv_room (Nat.le_of_ble_eq_true rfl)) zd_Reader_readList_70 hk) rfl ?_
  refine zg_s (pc' := 75) (lv' := [(5, .int i_30), (4, .int i_12), (3, .int i_10), (2, .int i_8), (0, .ref (h0 + a0)), (1, .ref (h0 + a1))]) (fun _ _ _ _ _ hl w => lv_istore hx hb zd_Reader_readList_73 hl (by decide) rfl w) ?_
  refine zg_1 (pc' := 76) (fun _ _ _ _ _ hl w => lv_iconst (v := (0 : Int32)) hx hb zd_Reader_readList_75 (by decide) w) ?_
  refine zg_s (pc' := 78) (lv' := [(6, .int (0 : Int32)), (5, .int i_30), (4, .int i_12), (3, .int i_10), (2, .int i_8), (0, .ref (h0 + a0)), (1, .ref (h0 + a1))]) (fun _ _ _ _ _ hl w => lv_istore hx hb zd_Reader_readList_76 hl (by decide) rfl w) ?_
  refine zg_v [5, 6, 4, 3, 2, 1, 0] rfl ?_
  exact zw_Reader_readList_78 X hR hF hret n n s_28 a0 a1 i_8 i_10 i_12 i_30 (0 : Int32) hf
set_option maxHeartbeats 4000000 in
theorem zw_Shelf_keepList_7 {p : Program} {l : Launch} {e : Env} {R : Room} {s : State} {m : MethodId} {args : Array Value} {below : List Frame} {meth : Method} {c : Code} {Q : State → Prop} {h0 : Nat} {D : va_G} {dA : Nat → ClassId} {tb : Nat → Nat} {c0 k0 : Nat} {z : zh_S} {r : Int32} (X : zg_X p s m args meth c ze_Shelf_keepList 3 zr_Shelf (some .int) h0 D dA tb) (hR : zg_R R c0 k0 z) (hF : 5 ≤ R.frames ∧ 143 ≤ R.locals) (hret : ∀ (pc : Nat) (lv : List (Nat × Value)), decode ze_Shelf_keepList pc = .ok (.ireturn, 1) → zg_G p l e R s m args below meth c Q h0 D dA 3 c0 k0 z z pc lv [.int r]) (n : Nat) (k : Nat) : ∀ (s0 : zh_S) (a0 : Nat) (i1 : Int32) (i2 : Int32), zl_Shelf_keepList_7 n k s0 a0 i1 i2 = some (r, z) → zg_G p l e R s m args below meth c Q h0 D dA 3 c0 k0 z s0 7 [(0, .ref (h0 + a0)), (1, .int i1), (2, .int i2)] [] := by
  obtain ⟨hx, hb, hml, hown, htT, hrt, hlk, x00, hIn⟩ := id X
  have hK := hIn.2.1
  have hT := hIn.2.2.1
  have hNe := hIn.2.2.2
  induction k with
  | zero => intro s0 a0 i1 i2 hf; cases hf
  | succ k ih =>
    intro s0 a0 i1 i2 hf
    rw [zl_Shelf_keepList_7] at hf
    refine zg_1 (pc' := 8) (fun _ _ _ _ _ hl w => lv_iload_n hx hb zd_Shelf_keepList_7 rfl (lv_at hl 2 rfl) w) ?_
    refine zg_1 (pc' := 9) (fun _ _ _ _ _ hl w => lv_aload_n hx hb zd_Shelf_keepList_8 rfl (lv_at hl 0 rfl) w) ?_
    obtain ⟨h_1, hf⟩ := zx_ck hf
    refine zg_get (pc' := 12) (ci := 5) hx hb htT zi_Shelf hown hK h_1 rfl rfl 2 (by decide) (htT _ zt_287) (fun _ h9 => h9) rfl zd_Shelf_keepList_9 rfl ?_
    refine zg_2 (pc1 := 37) (pc2 := 15) (Classical.em _) (fun _ _ _ _ _ w1 w2 => lv_icmp_ge hx hb zd_Shelf_keepList_12 (by decide) w1 w2) (fun hc => ?_) (fun hc => ?_)
    · rw [if_pos hc] at hf
      refine zg_1 (pc' := 38) (fun _ _ _ _ _ hl w => lv_aload_n hx hb zd_Shelf_keepList_37 rfl (lv_at hl 0 rfl) w) ?_
      refine zg_1 (pc' := 39) (fun _ _ _ _ _ hl w => lv_dup hx hb zd_Shelf_keepList_38 rfl w) ?_
      refine zg_get (pc' := 42) (ci := 5) hx hb htT zi_Shelf hown hK h_1 rfl rfl 3 (by decide) (htT _ zt_290) (fun _ h9 => h9) rfl zd_Shelf_keepList_39 rfl ?_
      refine zg_1 (pc' := 43) (fun _ _ _ _ _ hl w => lv_iconst (v := (1 : Int32)) hx hb zd_Shelf_keepList_42 (by decide) w) ?_
      refine zg_1 (pc' := 44) (fun _ _ _ _ _ hl w => lv_iadd hx hb zd_Shelf_keepList_43 w) ?_
      obtain ⟨s_2, e_s_2, hf⟩ := zx_l hf
      refine zg_putI (pc' := 47) (ci := 5) (ty := .int) hx hb htT zi_Shelf zy_Shelf zo_Shelf zj_Shelf hown hK h_1 rfl rfl 3 (by decide) (htT _ zt_290) (fun _ h9 => h9) (Or.inl rfl) (by decide +kernel) rfl rfl rfl e_s_2 zd_Shelf_keepList_44 rfl ?_
      refine zg_1 (pc' := 48) (fun _ _ _ _ _ hl w => lv_iload_n hx hb zd_Shelf_keepList_47 rfl (lv_at hl 1 rfl) w) ?_
      obtain ⟨rfl, rfl⟩ := zx_r2 hf
      exact hret _ _ zd_Shelf_keepList_48
    · rw [if_neg hc] at hf
      refine zg_1 (pc' := 16) (fun _ _ _ _ _ hl w => lv_aload_n hx hb zd_Shelf_keepList_15 rfl (lv_at hl 0 rfl) w) ?_
      obtain ⟨a_3, h_4, hf⟩ := zx_p hf
      refine zg_get (pc' := 19) (ci := 5) hx hb htT zi_Shelf hown hK h_1 rfl rfl 1 (by decide) (htT _ zt_284) (fun _ h9 => h9) (zx_hv h_4) zd_Shelf_keepList_16 rfl ?_
      refine zg_1 (pc' := 20) (fun _ _ _ _ _ hl w => lv_iload_n hx hb zd_Shelf_keepList_19 rfl (lv_at hl 1 rfl) w) ?_
      obtain ⟨h_5, hf⟩ := zx_ck hf
      obtain ⟨a_6, h_7, hf⟩ := zx_p hf
      refine zg_aald (pc' := 21) (t := 1) (t0 := 3) hx hb hK rfl h_5 h_7 zd_Shelf_keepList_20 rfl ?_
      refine zg_1 (pc' := 22) (fun _ _ _ _ _ hl w => lv_iload_n hx hb zd_Shelf_keepList_21 rfl (lv_at hl 2 rfl) w) ?_
      refine zg_1 (pc' := 23) (fun _ _ _ _ _ hl w => lv_aload_n hx hb zd_Shelf_keepList_22 rfl (lv_at hl 0 rfl) w) ?_
      obtain ⟨a_8, h_9, hf⟩ := zx_p hf
      refine zg_get (pc' := 26) (ci := 5) hx hb htT zi_Shelf hown hK h_1 rfl rfl 0 (by decide) (htT _ zt_281) (fun _ h9 => h9) (zx_hv h_9) zd_Shelf_keepList_23 rfl ?_
      refine zg_1 (pc' := 27) (fun _ _ _ _ _ hl w => lv_iload_n hx hb zd_Shelf_keepList_26 rfl (lv_at hl 2 rfl) w) ?_
      obtain ⟨h_10, hf⟩ := zx_ck hf
      obtain ⟨a_11, h_12, hf⟩ := zx_p hf
      refine zg_aald (pc' := 28) (t := 0) (t0 := 2) hx hb hK rfl h_10 h_12 zd_Shelf_keepList_27 rfl ?_
      obtain ⟨h_14, hf⟩ := zx_ck hf
      obtain ⟨s_13, hq, hf⟩ := zx_p hf
      refine zg_call (pc' := 31) (y := s_13) (rv := none) (rest := []) X hR (zm_Signed_noteSigner_R hq) (fun H locs ls k j hsz hI hU hk => va_runU (As := [.int i2, .ref (h0 + a_11)]) (rest := []) ⟨hx, hb, hml, hown, htT⟩ (zc_Signed_noteSigner_R l h0 D dA tb n hq) (va_cwU 2 htT (zw_gU zt_604 zt_605 zt_607 zt_608 zt_68 zt_609) rfl rfl rfl rfl (by decide +kernel) ⟨Nat.le_trans (Nat.le_of_ble_eq_true rfl) hF.1, Nat.le_trans (Nat.le_of_ble_eq_true rfl) hF.2⟩) ⟨(zg_pre hU).1, zg_recv hK hI h_14 rfl, (zg_pre hU).2⟩ rfl rfl hsz rfl (lv_room (Nat.le_of_ble_eq_true rfl)) zd_Shelf_keepList_28 hk) rfl ?_
      obtain ⟨i_15, e_i_15, hf⟩ := zx_l hf
      refine zg_s (pc' := 34) (lv' := [(2, .int i_15), (0, .ref (h0 + a0)), (1, .int i1)]) (fun _ _ _ _ _ hl w => lv_iinc (k := 2) (v := i_15) hx hb zd_Shelf_keepList_31 hl rfl (by rw [e_i_15]; rfl) (by decide) rfl w) ?_
      refine zg_1 (pc' := 7) (fun _ _ _ _ _ hl w => lv_goto hx hb zd_Shelf_keepList_34 (by decide) w) ?_
      refine zg_v [1, 2, 0] rfl ?_
      exact ih s_13 a0 i1 i_15 hf
set_option maxHeartbeats 4000000 in
theorem zc_Shelf_keepList (l : Launch) (h0 : Nat) (D : va_G) (dA : Nat → ClassId) (tb : Nat → Nat) (n : Nat) {s0 : zh_S} {a0 : Nat} {r : Int32} {z : zh_S} (hf : zf_Shelf_keepList n s0 a0 = some (r, z)) : zc_M l zn_Shelf_keepList zs_Shelf_keepList 5 143 h0 D dA tb [.ref (h0 + a0)] s0 (some (.int r)) z := by
  rw [zf_Shelf_keepList] at hf
  refine zc_of (cc := ze_Shelf_keepList) (maxL := 3) (ret := (some .int)) (lv := [(0, .ref (h0 + a0))]) (by decide) rfl (Nat.le_of_ble_eq_true rfl) rfl ?_
  intro p e s m args below meth c X hnm
  obtain ⟨hx, hb, hml, hown, htT, hrt, hlk, x00, hIn⟩ := id X
  have hK := hIn.2.1
  have hT := hIn.2.2.1
  have hNe := hIn.2.2.2
  have hR : zg_R { frames := 5, cells := zh_N z - zh_N s0, slots := zh_M z - zh_M s0, locals := 143 } (zh_N s0) (zh_M s0) z := ⟨by show zh_N z ≤ zh_N s0 + (zh_N z - zh_N s0); omega, by show zh_M z ≤ zh_M s0 + (zh_M z - zh_M s0); omega⟩
  have hF : 5 ≤ ({ frames := 5, cells := zh_N z - zh_N s0, slots := zh_M z - zh_M s0, locals := 143 } : Room).frames ∧ 143 ≤ ({ frames := 5, cells := zh_N z - zh_N s0, slots := zh_M z - zh_M s0, locals := 143 } : Room).locals := ⟨Nat.le_refl _, Nat.le_refl _⟩
  have hret := fun (pc : Nat) (lv : List (Nat × Value)) (hd : decode ze_Shelf_keepList pc = .ok (.ireturn, 1)) => zg_iret (R := { frames := 5, cells := zh_N z - zh_N s0, slots := zh_M z - zh_M s0, locals := 143 }) (l := l) (e := e) (below := below) (c0 := zh_N s0) (s0 := zh_M s0) (z := z) (lv := lv) (v := r) X rfl hd
  refine zg_1 (pc' := 1) (fun _ _ _ _ _ hl w => lv_aload_n hx hb zd_Shelf_keepList_0 rfl (lv_at hl 0 rfl) w) ?_
  obtain ⟨h_1, hf⟩ := zx_ck hf
  refine zg_get (pc' := 4) (ci := 5) hx hb htT zi_Shelf hown hK h_1 rfl rfl 3 (by decide) (htT _ zt_290) (fun _ h9 => h9) rfl zd_Shelf_keepList_1 rfl ?_
  obtain ⟨i_2, e_i_2, hf⟩ := zx_l hf
  refine zg_ti e_i_2 ?_
  refine zg_s (pc' := 5) (lv' := [(1, .int i_2), (0, .ref (h0 + a0))]) (fun _ _ _ _ _ hl w => lv_istore_n hx hb zd_Shelf_keepList_4 rfl hl (by decide) rfl w) ?_
  refine zg_1 (pc' := 6) (fun _ _ _ _ _ hl w => lv_iconst (v := (0 : Int32)) hx hb zd_Shelf_keepList_5 (by decide) w) ?_
  refine zg_s (pc' := 7) (lv' := [(2, .int (0 : Int32)), (1, .int i_2), (0, .ref (h0 + a0))]) (fun _ _ _ _ _ hl w => lv_istore_n hx hb zd_Shelf_keepList_6 rfl hl (by decide) rfl w) ?_
  refine zg_v [2, 1, 0] rfl ?_
  exact zw_Shelf_keepList_7 X hR hF hret n n s0 a0 i_2 (0 : Int32) hf
set_option maxHeartbeats 4000000 in
theorem zw_V_store_126 {p : Program} {l : Launch} {e : Env} {R : Room} {s : State} {m : MethodId} {args : Array Value} {below : List Frame} {meth : Method} {c : Code} {Q : State → Prop} {h0 : Nat} {D : va_G} {dA : Nat → ClassId} {tb : Nat → Nat} {c0 k0 : Nat} {z : zh_S} {r : Int32} (X : zg_X p s m args meth c ze_V_store 4 zr_V (some .int) h0 D dA tb) (hR : zg_R R c0 k0 z) (hF : 7 ≤ R.frames ∧ 176 ≤ R.locals) (hret : ∀ (pc : Nat) (lv : List (Nat × Value)), decode ze_V_store pc = .ok (.ireturn, 1) → zg_G p l e R s m args below meth c Q h0 D dA 4 c0 k0 z z pc lv [.int r]) (n : Nat) : ∀ (s0 : zh_S) (at0 : Nat) (it1 : Int32), zb_V_store_126 n s0 at0 it1 = some (r, z) → zg_G p l e R s m args below meth c Q h0 D dA 4 c0 k0 z s0 126 [] [.int it1, .ref (h0 + at0)] := by
  obtain ⟨hx, hb, hml, hown, htT, hrt, hlk, x00, hIn⟩ := id X
  have hK := hIn.2.1
  have hT := hIn.2.2.1
  have hNe := hIn.2.2.2
  intro s0 at0 it1 hf
  rw [zb_V_store_126] at hf
  obtain ⟨h_2, hf⟩ := zx_ck hf
  obtain ⟨i_3, s_1, hq, hf⟩ := zx_b hf
  refine zg_call (pc' := 129) (y := s_1) (rv := (some (.int i_3))) (rest := []) X hR (zm_Shelf_keepCertificate hq) (fun H locs ls k j hsz hI hU hk => va_runV (As := [.int it1]) (rest := []) ⟨hx, hb, hml, hown, htT⟩ (zc_Shelf_keepCertificate l h0 D dA tb n hq) (cwV 1 htT (zw_gV zt_616 zt_617 zt_618 zt_67 zt_619) rfl rfl rfl (by decide +kernel) ⟨Nat.le_trans (Nat.le_of_ble_eq_true rfl) hF.1, Nat.le_trans (Nat.le_of_ble_eq_true rfl) hF.2⟩) ⟨(zg_pre hU).1, zg_recv hK hI h_2 rfl, (zg_pre hU).2⟩ rfl rfl hsz rfl (lv_room (Nat.le_of_ble_eq_true rfl)) zd_V_store_126 hk) rfl ?_
  refine zg_1 (pc' := 134) (fun _ _ _ _ _ hl w => lv_goto hx hb zd_V_store_129 (by decide) w) ?_
  obtain ⟨rfl, rfl⟩ := zx_r2 hf
  exact hret _ _ zd_V_store_134
set_option maxHeartbeats 4000000 in
theorem zw_V_store_70 {p : Program} {l : Launch} {e : Env} {R : Room} {s : State} {m : MethodId} {args : Array Value} {below : List Frame} {meth : Method} {c : Code} {Q : State → Prop} {h0 : Nat} {D : va_G} {dA : Nat → ClassId} {tb : Nat → Nat} {c0 k0 : Nat} {z : zh_S} {r : Int32} (X : zg_X p s m args meth c ze_V_store 4 zr_V (some .int) h0 D dA tb) (hR : zg_R R c0 k0 z) (hF : 7 ≤ R.frames ∧ 176 ≤ R.locals) (hret : ∀ (pc : Nat) (lv : List (Nat × Value)), decode ze_V_store pc = .ok (.ireturn, 1) → zg_G p l e R s m args below meth c Q h0 D dA 4 c0 k0 z z pc lv [.int r]) (n : Nat) : ∀ (s0 : zh_S) (a0 : Nat) (i1 : Int32) (it0 : Int32), zb_V_store_70 n s0 a0 i1 it0 = some (r, z) → zg_G p l e R s m args below meth c Q h0 D dA 4 c0 k0 z s0 70 [(0, .ref (h0 + a0)), (1, .int i1)] [.int it0] := by
  obtain ⟨hx, hb, hml, hown, htT, hrt, hlk, x00, hIn⟩ := id X
  have hK := hIn.2.1
  have hT := hIn.2.2.1
  have hNe := hIn.2.2.2
  intro s0 a0 i1 it0 hf
  rw [zb_V_store_70] at hf
  refine zg_s (pc' := 71) (lv' := [(2, .int it0), (0, .ref (h0 + a0)), (1, .int i1)]) (fun _ _ _ _ _ hl w => lv_istore_n hx hb zd_V_store_70 rfl hl (by decide) rfl w) ?_
  refine zg_1 (pc' := 72) (fun _ _ _ _ _ hl w => lv_iload_n hx hb zd_V_store_71 rfl (lv_at hl 0 rfl) w) ?_
  refine zg_2 (pc1 := 135) (pc2 := 75) (Classical.em _) (fun _ _ _ _ _ w1 w2 => lv_if_eq hx hb zd_V_store_72 (by decide) w1 w2) (fun hc => ?_) (fun hc => ?_)
  · rw [if_pos hc] at hf
    refine zg_1 (pc' := 136) (fun _ _ _ _ _ hl w => lv_iconst (v := (-1 : Int32)) hx hb zd_V_store_135 (by decide) w) ?_
    obtain ⟨rfl, rfl⟩ := zx_r2 hf
    exact hret _ _ zd_V_store_136
  · rw [if_neg hc] at hf
    refine zg_1 (pc' := 76) (fun _ _ _ _ _ hl w => lv_aload_n hx hb zd_V_store_75 rfl (lv_at hl 1 rfl) w) ?_
    obtain ⟨h_1, hf⟩ := zx_ck hf
    obtain ⟨a_2, h_3, hf⟩ := zx_p hf
    refine zg_get (pc' := 79) (ci := 7) hx hb htT zi_V hown hK h_1 rfl rfl 2 (by decide) (htT _ zt_304) (fun _ h9 => h9) (zx_hv h_3) zd_V_store_76 rfl ?_
    obtain ⟨h_4, hf⟩ := zx_ck hf
    refine zg_get (pc' := 82) (ci := 5) hx hb htT zi_Shelf hown hK h_4 rfl rfl 2 (by decide) (htT _ zt_289) (fun _ h9 => h9) rfl zd_V_store_79 rfl ?_
    refine zg_1 (pc' := 84) (fun _ _ _ _ _ hl w => lv_bipush (v := (12 : Int32)) hx hb zd_V_store_82 (by decide) w) ?_
    refine zg_2 (pc1 := 135) (pc2 := 87) (Classical.em _) (fun _ _ _ _ _ w1 w2 => lv_icmp_ge hx hb zd_V_store_84 (by decide) w1 w2) (fun hc => ?_) (fun hc => ?_)
    · rw [if_pos hc] at hf
      refine zg_1 (pc' := 136) (fun _ _ _ _ _ hl w => lv_iconst (v := (-1 : Int32)) hx hb zd_V_store_135 (by decide) w) ?_
      obtain ⟨rfl, rfl⟩ := zx_r2 hf
      exact hret _ _ zd_V_store_136
    · rw [if_neg hc] at hf
      obtain ⟨a_6, e_a_6, hf⟩ := zx_l hf
      obtain ⟨s_5, e_s_5, hf⟩ := zx_l hf
      refine zg_new (pc' := 90) (ci := 2) hx hb htT zi_Reader zy_Reader zo_Reader hown (htT _ zt_490) (htT _ zt_491) (htT _ zt_75) hK rfl rfl (fun j hj => by rcases (show j = 0 ∨ j = 1 ∨ j = 2 by omega) with rfl | rfl | rfl <;> rfl) hR e_s_5 e_a_6 zd_V_store_87 rfl ?_
      have ho_a_6 : zh_oo s_5 a_6 2 := zx_on e_s_5 e_a_6
      refine zg_1 (pc' := 91) (fun _ _ _ _ _ hl w => lv_dup hx hb zd_V_store_90 rfl w) ?_
      refine zg_1 (pc' := 92) (fun _ _ _ _ _ hl w => lv_aload_n hx hb zd_V_store_91 rfl (lv_at hl 1 rfl) w) ?_
      obtain ⟨h_7, hf⟩ := zx_ck hf
      obtain ⟨a_8, h_9, hf⟩ := zx_p hf
      refine zg_get (pc' := 95) (ci := 7) hx hb htT zi_V hown hK h_7 rfl rfl 0 (by decide) (htT _ zt_302) (fun _ h9 => h9) (zx_hv h_9) zd_V_store_92 rfl ?_
      obtain ⟨s_10, hq, hf⟩ := zx_p hf
      refine zg_call (pc' := 98) (y := s_10) (rv := none) (rest := [.ref (h0 + a_6)]) X hR (zm_Reader_init hq) (fun H locs ls k j hsz hI hU hk => va_runI (As := [.ref (h0 + a_8)]) (rest := [.ref (h0 + a_6)]) ⟨hx, hb, hml, hown, htT⟩ (zc_Reader_init l h0 D dA tb n hq) (cwI 1 htT (zw_g zt_494) rfl rfl rfl (htT _ zt_75) (htT _ zt_492) (htT _ zt_493) rfl (by decide +kernel) ⟨Nat.le_trans (Nat.le_of_ble_eq_true rfl) hF.1, Nat.le_trans (Nat.le_of_ble_eq_true rfl) hF.2⟩) (zg_pre hU) rfl rfl hsz rfl (lv_room (Nat.le_of_ble_eq_true rfl)) zd_V_store_95 hk) rfl ?_
      refine zg_1 (pc' := 99) (fun _ _ _ _ _ hl w => lv_aload_n hx hb zd_V_store_98 rfl (lv_at hl 1 rfl) w) ?_
      obtain ⟨h_11, hf⟩ := zx_ck hf
      obtain ⟨a_12, h_13, hf⟩ := zx_p hf
      refine zg_get (pc' := 102) (ci := 7) hx hb htT zi_V hown hK h_11 rfl rfl 2 (by decide) (htT _ zt_304) (fun _ h9 => h9) (zx_hv h_13) zd_V_store_99 rfl ?_
      obtain ⟨h_14, hf⟩ := zx_ck hf
      obtain ⟨a_15, hq, hf⟩ := zx_p hf
      refine zg_call (pc' := 105) (y := s_10) (rv := (some (.ref (h0 + a_15)))) (rest := [.ref (h0 + a_6)]) X hR ⟨Nat.le_refl _, Nat.le_refl _⟩ (fun H locs ls k j hsz hI hU hk => va_runV (As := []) (rest := [.ref (h0 + a_6)]) ⟨hx, hb, hml, hown, htT⟩ (zc_Shelf_nextCertificate l h0 D dA tb n hq) (cwV 0 htT (zw_gV zt_506 zt_507 zt_508 zt_67 zt_509) rfl rfl rfl (by decide +kernel) ⟨Nat.le_trans (Nat.le_of_ble_eq_true rfl) hF.1, Nat.le_trans (Nat.le_of_ble_eq_true rfl) hF.2⟩) ⟨(zg_pre hU).1, zg_recv hK hI h_14 rfl, (zg_pre hU).2⟩ rfl rfl hsz rfl (lv_room (Nat.le_of_ble_eq_true rfl)) zd_V_store_102 hk) rfl ?_
      obtain ⟨h_17, hf⟩ := zx_ck hf
      obtain ⟨i_18, s_16, hq, hf⟩ := zx_b hf
      refine zg_call (pc' := 108) (y := s_16) (rv := (some (.int i_18))) (rest := []) X hR (zm_Reader_readCertificate hq) (fun H locs ls k j hsz hI hU hk => va_runV (As := [.ref (h0 + a_15)]) (rest := []) ⟨hx, hb, hml, hown, htT⟩ (zc_Reader_readCertificate l h0 D dA tb n hq) (cwV 1 htT (zw_gV zt_510 zt_511 zt_512 zt_75 zt_513) rfl rfl rfl (by decide +kernel) ⟨Nat.le_trans (Nat.le_of_ble_eq_true rfl) hF.1, Nat.le_trans (Nat.le_of_ble_eq_true rfl) hF.2⟩) ⟨(zg_pre hU).1, zg_recv hK hI h_17 rfl, (zg_pre hU).2⟩ rfl rfl hsz rfl (lv_room (Nat.le_of_ble_eq_true rfl)) zd_V_store_105 hk) rfl ?_
      refine zg_s (pc' := 109) (lv' := [(3, .int i_18), (2, .int it0), (0, .ref (h0 + a0)), (1, .int i1)]) (fun _ _ _ _ _ hl w => lv_istore_n hx hb zd_V_store_108 rfl hl (by decide) rfl w) ?_
      refine zg_1 (pc' := 110) (fun _ _ _ _ _ hl w => lv_iload_n hx hb zd_V_store_109 rfl (lv_at hl 0 rfl) w) ?_
      refine zg_2 (pc1 := 132) (pc2 := 113) (Classical.em _).symm (fun _ _ _ _ _ w1 w2 => lv_if_ne hx hb zd_V_store_110 (by decide) w1 w2) (fun hc => ?_) (fun hc => ?_)
      · rw [if_neg hc] at hf
        refine zg_1 (pc' := 134) (fun _ _ _ _ _ hl w => lv_bipush (v := (-2 : Int32)) hx hb zd_V_store_132 (by decide) w) ?_
        obtain ⟨rfl, rfl⟩ := zx_r2 hf
        exact hret _ _ zd_V_store_134
      · rw [if_pos hc] at hf
        refine zg_1 (pc' := 114) (fun _ _ _ _ _ hl w => lv_aload_n hx hb zd_V_store_113 rfl (lv_at hl 2 rfl) w) ?_
        obtain ⟨h_19, hf⟩ := zx_ck hf
        obtain ⟨a_20, h_21, hf⟩ := zx_p hf
        refine zg_get (pc' := 117) (ci := 7) hx hb htT zi_V hown hK h_19 rfl rfl 2 (by decide) (htT _ zt_304) (fun _ h9 => h9) (zx_hv h_21) zd_V_store_114 rfl ?_
        refine zg_1 (pc' := 118) (fun _ _ _ _ _ hl w => lv_iload_n hx hb zd_V_store_117 rfl (lv_at hl 3 rfl) w) ?_
        refine zg_2 (pc1 := 125) (pc2 := 121) (Classical.em _).symm (fun _ _ _ _ _ w1 w2 => lv_if_ne hx hb zd_V_store_118 (by decide) w1 w2) (fun hc => ?_) (fun hc => ?_)
        · rw [if_neg hc] at hf
          refine zg_1 (pc' := 126) (fun _ _ _ _ _ hl w => lv_iconst (v := (0 : Int32)) hx hb zd_V_store_125 (by decide) w) ?_
          refine zg_v [] rfl ?_
          exact zw_V_store_126 X hR hF hret n s_16 a_20 (0 : Int32) hf
        · rw [if_pos hc] at hf
          refine zg_1 (pc' := 122) (fun _ _ _ _ _ hl w => lv_iconst (v := (1 : Int32)) hx hb zd_V_store_121 (by decide) w) ?_
          refine zg_1 (pc' := 126) (fun _ _ _ _ _ hl w => lv_goto hx hb zd_V_store_122 (by decide) w) ?_
          refine zg_v [] rfl ?_
          exact zw_V_store_126 X hR hF hret n s_16 a_20 (1 : Int32) hf
set_option maxHeartbeats 4000000 in
theorem zw_V_store_65 {p : Program} {l : Launch} {e : Env} {R : Room} {s : State} {m : MethodId} {args : Array Value} {below : List Frame} {meth : Method} {c : Code} {Q : State → Prop} {h0 : Nat} {D : va_G} {dA : Nat → ClassId} {tb : Nat → Nat} {c0 k0 : Nat} {z : zh_S} {r : Int32} (X : zg_X p s m args meth c ze_V_store 4 zr_V (some .int) h0 D dA tb) (hR : zg_R R c0 k0 z) (hF : 7 ≤ R.frames ∧ 176 ≤ R.locals) (hret : ∀ (pc : Nat) (lv : List (Nat × Value)), decode ze_V_store pc = .ok (.ireturn, 1) → zg_G p l e R s m args below meth c Q h0 D dA 4 c0 k0 z z pc lv [.int r]) (n : Nat) : ∀ (s0 : zh_S) (a0 : Nat) (i1 : Int32), zb_V_store_65 n s0 a0 i1 = some (r, z) → zg_G p l e R s m args below meth c Q h0 D dA 4 c0 k0 z s0 65 [(0, .ref (h0 + a0)), (1, .int i1)] [] := by
  obtain ⟨hx, hb, hml, hown, htT, hrt, hlk, x00, hIn⟩ := id X
  have hK := hIn.2.1
  have hT := hIn.2.2.1
  have hNe := hIn.2.2.2
  intro s0 a0 i1 hf
  rw [zb_V_store_65] at hf
  refine zg_1 (pc' := 66) (fun _ _ _ _ _ hl w => lv_iconst (v := (1 : Int32)) hx hb zd_V_store_65 (by decide) w) ?_
  refine zg_1 (pc' := 70) (fun _ _ _ _ _ hl w => lv_goto hx hb zd_V_store_66 (by decide) w) ?_
  exact zw_V_store_70 X hR hF hret n s0 a0 i1 (1 : Int32) hf
set_option maxHeartbeats 4000000 in
theorem zw_V_store_56 {p : Program} {l : Launch} {e : Env} {R : Room} {s : State} {m : MethodId} {args : Array Value} {below : List Frame} {meth : Method} {c : Code} {Q : State → Prop} {h0 : Nat} {D : va_G} {dA : Nat → ClassId} {tb : Nat → Nat} {c0 k0 : Nat} {z : zh_S} {r : Int32} (X : zg_X p s m args meth c ze_V_store 4 zr_V (some .int) h0 D dA tb) (hR : zg_R R c0 k0 z) (hF : 7 ≤ R.frames ∧ 176 ≤ R.locals) (hret : ∀ (pc : Nat) (lv : List (Nat × Value)), decode ze_V_store pc = .ok (.ireturn, 1) → zg_G p l e R s m args below meth c Q h0 D dA 4 c0 k0 z z pc lv [.int r]) (n : Nat) : ∀ (s0 : zh_S) (a0 : Nat) (i1 : Int32), zb_V_store_56 n s0 a0 i1 = some (r, z) → zg_G p l e R s m args below meth c Q h0 D dA 4 c0 k0 z s0 56 [(0, .ref (h0 + a0)), (1, .int i1)] [] := by
  obtain ⟨hx, hb, hml, hown, htT, hrt, hlk, x00, hIn⟩ := id X
  have hK := hIn.2.1
  have hT := hIn.2.2.1
  have hNe := hIn.2.2.2
  intro s0 a0 i1 hf
  rw [zb_V_store_56] at hf
  refine zg_1 (pc' := 57) (fun _ _ _ _ _ hl w => lv_iload_n hx hb zd_V_store_56 rfl (lv_at hl 1 rfl) w) ?_
  refine zg_2 (pc1 := 65) (pc2 := 60) (Classical.em _) (fun _ _ _ _ _ w1 w2 => lv_if_eq hx hb zd_V_store_57 (by decide) w1 w2) (fun hc => ?_) (fun hc => ?_)
  · rw [if_pos hc] at hf
    exact zw_V_store_65 X hR hF hret n s0 a0 i1 hf
  · rw [if_neg hc] at hf
    refine zg_1 (pc' := 61) (fun _ _ _ _ _ hl w => lv_iload_n hx hb zd_V_store_60 rfl (lv_at hl 1 rfl) w) ?_
    refine zg_1 (pc' := 62) (fun _ _ _ _ _ hl w => lv_iconst (v := (1 : Int32)) hx hb zd_V_store_61 (by decide) w) ?_
    refine zg_2 (pc1 := 69) (pc2 := 65) (Classical.em _).symm (fun _ _ _ _ _ w1 w2 => lv_icmp_ne hx hb zd_V_store_62 (by decide) w1 w2) (fun hc => ?_) (fun hc => ?_)
    · rw [if_neg hc] at hf
      refine zg_1 (pc' := 70) (fun _ _ _ _ _ hl w => lv_iconst (v := (0 : Int32)) hx hb zd_V_store_69 (by decide) w) ?_
      exact zw_V_store_70 X hR hF hret n s0 a0 i1 (0 : Int32) hf
    · rw [if_pos hc] at hf
      exact zw_V_store_65 X hR hF hret n s0 a0 i1 hf
set_option maxHeartbeats 4000000 in
theorem zc_V_store (l : Launch) (h0 : Nat) (D : va_G) (dA : Nat → ClassId) (tb : Nat → Nat) (n : Nat) {s0 : zh_S} {a0 : Nat} {i1 : Int32} {r : Int32} {z : zh_S} (hf : zf_V_store n s0 a0 i1 = some (r, z)) : zc_M l zn_V_store zs_V_store 7 176 h0 D dA tb [.ref (h0 + a0), .int i1] s0 (some (.int r)) z := by
  rw [zf_V_store] at hf
  refine zc_of (cc := ze_V_store) (maxL := 4) (ret := (some .int)) (lv := [(0, .ref (h0 + a0)), (1, .int i1)]) (by decide) rfl (Nat.le_of_ble_eq_true rfl) rfl ?_
  intro p e s m args below meth c X hnm
  obtain ⟨hx, hb, hml, hown, htT, hrt, hlk, x00, hIn⟩ := id X
  have hK := hIn.2.1
  have hT := hIn.2.2.1
  have hNe := hIn.2.2.2
  have hR : zg_R { frames := 7, cells := zh_N z - zh_N s0, slots := zh_M z - zh_M s0, locals := 176 } (zh_N s0) (zh_M s0) z := ⟨by show zh_N z ≤ zh_N s0 + (zh_N z - zh_N s0); omega, by show zh_M z ≤ zh_M s0 + (zh_M z - zh_M s0); omega⟩
  have hF : 7 ≤ ({ frames := 7, cells := zh_N z - zh_N s0, slots := zh_M z - zh_M s0, locals := 176 } : Room).frames ∧ 176 ≤ ({ frames := 7, cells := zh_N z - zh_N s0, slots := zh_M z - zh_M s0, locals := 176 } : Room).locals := ⟨Nat.le_refl _, Nat.le_refl _⟩
  have hret := fun (pc : Nat) (lv : List (Nat × Value)) (hd : decode ze_V_store pc = .ok (.ireturn, 1)) => zg_iret (R := { frames := 7, cells := zh_N z - zh_N s0, slots := zh_M z - zh_M s0, locals := 176 }) (l := l) (e := e) (below := below) (c0 := zh_N s0) (s0 := zh_M s0) (z := z) (lv := lv) (v := r) X rfl hd
  refine zg_1 (pc' := 1) (fun _ _ _ _ _ hl w => lv_iload_n hx hb zd_V_store_0 rfl (lv_at hl 1 rfl) w) ?_
  refine zg_1 (pc' := 2) (fun _ _ _ _ _ hl w => lv_iconst (v := (2 : Int32)) hx hb zd_V_store_1 (by decide) w) ?_
  refine zg_2 (pc1 := 56) (pc2 := 5) (Classical.em _).symm (fun _ _ _ _ _ w1 w2 => lv_icmp_ne hx hb zd_V_store_2 (by decide) w1 w2) (fun hc => ?_) (fun hc => ?_)
  · rw [if_neg hc] at hf
    exact zw_V_store_56 X hR hF hret n s0 a0 i1 hf
  · rw [if_pos hc] at hf
    refine zg_1 (pc' := 6) (fun _ _ _ _ _ hl w => lv_aload_n hx hb zd_V_store_5 rfl (lv_at hl 0 rfl) w) ?_
    obtain ⟨h_1, hf⟩ := zx_ck hf
    obtain ⟨a_2, h_3, hf⟩ := zx_p hf
    refine zg_get (pc' := 9) (ci := 7) hx hb htT zi_V hown hK h_1 rfl rfl 2 (by decide) (htT _ zt_304) (fun _ h9 => h9) (zx_hv h_3) zd_V_store_6 rfl ?_
    obtain ⟨h_4, hf⟩ := zx_ck hf
    refine zg_get (pc' := 12) (ci := 5) hx hb htT zi_Shelf hown hK h_4 rfl rfl 3 (by decide) (htT _ zt_292) (fun _ h9 => h9) rfl zd_V_store_9 rfl ?_
    refine zg_1 (pc' := 14) (fun _ _ _ _ _ hl w => lv_bipush (v := (6 : Int32)) hx hb zd_V_store_12 (by decide) w) ?_
    refine zg_2 (pc1 := 56) (pc2 := 17) (Classical.em _) (fun _ _ _ _ _ w1 w2 => lv_icmp_ge hx hb zd_V_store_14 (by decide) w1 w2) (fun hc => ?_) (fun hc => ?_)
    · rw [if_pos hc] at hf
      exact zw_V_store_56 X hR hF hret n s0 a0 i1 hf
    · rw [if_neg hc] at hf
      obtain ⟨a_6, e_a_6, hf⟩ := zx_l hf
      obtain ⟨s_5, e_s_5, hf⟩ := zx_l hf
      refine zg_new (pc' := 20) (ci := 2) hx hb htT zi_Reader zy_Reader zo_Reader hown (htT _ zt_490) (htT _ zt_491) (htT _ zt_75) hK rfl rfl (fun j hj => by rcases (show j = 0 ∨ j = 1 ∨ j = 2 by omega) with rfl | rfl | rfl <;> rfl) hR e_s_5 e_a_6 zd_V_store_17 rfl ?_
      have ho_a_6 : zh_oo s_5 a_6 2 := zx_on e_s_5 e_a_6
      refine zg_1 (pc' := 21) (fun _ _ _ _ _ hl w => lv_dup hx hb zd_V_store_20 rfl w) ?_
      refine zg_1 (pc' := 22) (fun _ _ _ _ _ hl w => lv_aload_n hx hb zd_V_store_21 rfl (lv_at hl 0 rfl) w) ?_
      obtain ⟨h_7, hf⟩ := zx_ck hf
      obtain ⟨a_8, h_9, hf⟩ := zx_p hf
      refine zg_get (pc' := 25) (ci := 7) hx hb htT zi_V hown hK h_7 rfl rfl 0 (by decide) (htT _ zt_302) (fun _ h9 => h9) (zx_hv h_9) zd_V_store_22 rfl ?_
      obtain ⟨s_10, hq, hf⟩ := zx_p hf
      refine zg_call (pc' := 28) (y := s_10) (rv := none) (rest := [.ref (h0 + a_6)]) X hR (zm_Reader_init hq) (fun H locs ls k j hsz hI hU hk => va_runI (As := [.ref (h0 + a_8)]) (rest := [.ref (h0 + a_6)]) ⟨hx, hb, hml, hown, htT⟩ (zc_Reader_init l h0 D dA tb n hq) (cwI 1 htT (zw_g zt_494) rfl rfl rfl (htT _ zt_75) (htT _ zt_492) (htT _ zt_493) rfl (by decide +kernel) ⟨Nat.le_trans (Nat.le_of_ble_eq_true rfl) hF.1, Nat.le_trans (Nat.le_of_ble_eq_true rfl) hF.2⟩) (zg_pre hU) rfl rfl hsz rfl (lv_room (Nat.le_of_ble_eq_true rfl)) zd_V_store_25 hk) rfl ?_
      refine zg_1 (pc' := 29) (fun _ _ _ _ _ hl w => lv_aload_n hx hb zd_V_store_28 rfl (lv_at hl 0 rfl) w) ?_
      obtain ⟨h_11, hf⟩ := zx_ck hf
      obtain ⟨a_12, h_13, hf⟩ := zx_p hf
      refine zg_get (pc' := 32) (ci := 7) hx hb htT zi_V hown hK h_11 rfl rfl 2 (by decide) (htT _ zt_304) (fun _ h9 => h9) (zx_hv h_13) zd_V_store_29 rfl ?_
      obtain ⟨h_14, hf⟩ := zx_ck hf
      obtain ⟨a_15, hq, hf⟩ := zx_p hf
      refine zg_call (pc' := 35) (y := s_10) (rv := (some (.ref (h0 + a_15)))) (rest := [.ref (h0 + a_6)]) X hR ⟨Nat.le_refl _, Nat.le_refl _⟩ (fun H locs ls k j hsz hI hU hk => va_runV (As := []) (rest := [.ref (h0 + a_6)]) ⟨hx, hb, hml, hown, htT⟩ (zc_Shelf_nextList l h0 D dA tb n hq) (cwV 0 htT (zw_gV zt_588 zt_589 zt_590 zt_67 zt_591) rfl rfl rfl (by decide +kernel) ⟨Nat.le_trans (Nat.le_of_ble_eq_true rfl) hF.1, Nat.le_trans (Nat.le_of_ble_eq_true rfl) hF.2⟩) ⟨(zg_pre hU).1, zg_recv hK hI h_14 rfl, (zg_pre hU).2⟩ rfl rfl hsz rfl (lv_room (Nat.le_of_ble_eq_true rfl)) zd_V_store_32 hk) rfl ?_
      obtain ⟨h_17, hf⟩ := zx_ck hf
      obtain ⟨i_18, s_16, hq, hf⟩ := zx_b hf
      refine zg_call (pc' := 38) (y := s_16) (rv := (some (.int i_18))) (rest := []) X hR (zm_Reader_readList hq) (fun H locs ls k j hsz hI hU hk => va_runV (As := [.ref (h0 + a_15)]) (rest := []) ⟨hx, hb, hml, hown, htT⟩ (zc_Reader_readList l h0 D dA tb n hq) (cwV 1 htT (zw_gV zt_592 zt_593 zt_594 zt_75 zt_595) rfl rfl rfl (by decide +kernel) ⟨Nat.le_trans (Nat.le_of_ble_eq_true rfl) hF.1, Nat.le_trans (Nat.le_of_ble_eq_true rfl) hF.2⟩) ⟨(zg_pre hU).1, zg_recv hK hI h_17 rfl, (zg_pre hU).2⟩ rfl rfl hsz rfl (lv_room (Nat.le_of_ble_eq_true rfl)) zd_V_store_35 hk) rfl ?_
      refine zg_s (pc' := 39) (lv' := [(2, .int i_18), (0, .ref (h0 + a0)), (1, .int i1)]) (fun _ _ _ _ _ hl w => lv_istore_n hx hb zd_V_store_38 rfl hl (by decide) rfl w) ?_
      refine zg_1 (pc' := 40) (fun _ _ _ _ _ hl w => lv_iload_n hx hb zd_V_store_39 rfl (lv_at hl 0 rfl) w) ?_
      refine zg_2 (pc1 := 53) (pc2 := 43) (Classical.em _).symm (fun _ _ _ _ _ w1 w2 => lv_if_ne hx hb zd_V_store_40 (by decide) w1 w2) (fun hc => ?_) (fun hc => ?_)
      · rw [if_neg hc] at hf
        refine zg_1 (pc' := 55) (fun _ _ _ _ _ hl w => lv_bipush (v := (-2 : Int32)) hx hb zd_V_store_53 (by decide) w) ?_
        obtain ⟨rfl, rfl⟩ := zx_r2 hf
        exact hret _ _ zd_V_store_55
      · rw [if_pos hc] at hf
        refine zg_1 (pc' := 44) (fun _ _ _ _ _ hl w => lv_aload_n hx hb zd_V_store_43 rfl (lv_at hl 1 rfl) w) ?_
        obtain ⟨h_19, hf⟩ := zx_ck hf
        obtain ⟨a_20, h_21, hf⟩ := zx_p hf
        refine zg_get (pc' := 47) (ci := 7) hx hb htT zi_V hown hK h_19 rfl rfl 2 (by decide) (htT _ zt_304) (fun _ h9 => h9) (zx_hv h_21) zd_V_store_44 rfl ?_
        obtain ⟨h_23, hf⟩ := zx_ck hf
        obtain ⟨i_24, s_22, hq, hf⟩ := zx_b hf
        refine zg_call (pc' := 50) (y := s_22) (rv := (some (.int i_24))) (rest := []) X hR (zm_Shelf_keepList hq) (fun H locs ls k j hsz hI hU hk => va_runV (As := []) (rest := []) ⟨hx, hb, hml, hown, htT⟩ (zc_Shelf_keepList l h0 D dA tb n hq) (cwV 0 htT (zw_gV zt_600 zt_601 zt_602 zt_67 zt_603) rfl rfl rfl (by decide +kernel) ⟨Nat.le_trans (Nat.le_of_ble_eq_true rfl) hF.1, Nat.le_trans (Nat.le_of_ble_eq_true rfl) hF.2⟩) ⟨(zg_pre hU).1, zg_recv hK hI h_23 rfl, (zg_pre hU).2⟩ rfl rfl hsz rfl (lv_room (Nat.le_of_ble_eq_true rfl)) zd_V_store_47 hk) rfl ?_
        refine zg_1 (pc' := 55) (fun _ _ _ _ _ hl w => lv_goto hx hb zd_V_store_50 (by decide) w) ?_
        obtain ⟨rfl, rfl⟩ := zx_r2 hf
        exact hret _ _ zd_V_store_55
set_option maxHeartbeats 4000000 in
theorem zw_M_fails_21 {p : Program} {l : Launch} {e : Env} {R : Room} {s : State} {m : MethodId} {args : Array Value} {below : List Frame} {meth : Method} {c : Code} {Q : State → Prop} {h0 : Nat} {D : va_G} {dA : Nat → ClassId} {tb : Nat → Nat} {c0 k0 : Nat} {z : zh_S} (X : zg_X p s m args meth c ze_M_fails 3 zr_M none h0 D dA tb) (hR : zg_R R c0 k0 z) (hF : 0 ≤ R.frames ∧ 0 ≤ R.locals) (hret : ∀ (pc : Nat) (lv : List (Nat × Value)), decode ze_M_fails pc = .ok (.return_, 1) → zg_G p l e R s m args below meth c Q h0 D dA 3 c0 k0 z z pc lv []) (n : Nat) : ∀ (s0 : zh_S) (at0 : Nat) (it1 : Int32), zb_M_fails_21 n s0 at0 it1 = some z → zg_G p l e R s m args below meth c Q h0 D dA 3 c0 k0 z s0 21 [] [.int it1, .ref (h0 + at0)] := by
  obtain ⟨hx, hb, hml, hown, htT, hrt, hlk, x00, hIn⟩ := id X
  have hK := hIn.2.1
  have hT := hIn.2.2.1
  have hNe := hIn.2.2.2
  intro s0 at0 it1 hf
  rw [zb_M_fails_21] at hf
  obtain ⟨h_2, hf⟩ := zx_ck hf
  obtain ⟨s_1, e_s_1, hf⟩ := zx_l hf
  refine zg_putI (pc' := 24) (ci := 8) (ty := .int) hx hb htT zi_M zy_M zo_M zj_M hown hK h_2 rfl rfl 10 (by decide) (htT _ zt_815) (fun _ h9 => h9) (Or.inl rfl) (by decide +kernel) rfl rfl rfl e_s_1 zd_M_fails_21 rfl ?_
  obtain rfl := zx_r1 hf
  exact hret _ _ zd_M_fails_24
set_option maxHeartbeats 4000000 in
theorem zc_M_fails (l : Launch) (h0 : Nat) (D : va_G) (dA : Nat → ClassId) (tb : Nat → Nat) (n : Nat) {s0 : zh_S} {a0 : Nat} {i1 : Int32} {i2 : Int32} {z : zh_S} (hf : zf_M_fails n s0 a0 i1 i2 = some z) : zc_M l zn_M_fails zs_M_fails 0 0 h0 D dA tb [.ref (h0 + a0), .int i1, .int i2] s0 none z := by
  rw [zf_M_fails] at hf
  refine zc_of (cc := ze_M_fails) (maxL := 3) (ret := none) (lv := [(0, .ref (h0 + a0)), (1, .int i1), (2, .int i2)]) (by decide) rfl (Nat.le_of_ble_eq_true rfl) rfl ?_
  intro p e s m args below meth c X hnm
  obtain ⟨hx, hb, hml, hown, htT, hrt, hlk, x00, hIn⟩ := id X
  have hK := hIn.2.1
  have hT := hIn.2.2.1
  have hNe := hIn.2.2.2
  have hR : zg_R { frames := 0, cells := zh_N z - zh_N s0, slots := zh_M z - zh_M s0, locals := 0 } (zh_N s0) (zh_M s0) z := ⟨by show zh_N z ≤ zh_N s0 + (zh_N z - zh_N s0); omega, by show zh_M z ≤ zh_M s0 + (zh_M z - zh_M s0); omega⟩
  have hF : 0 ≤ ({ frames := 0, cells := zh_N z - zh_N s0, slots := zh_M z - zh_M s0, locals := 0 } : Room).frames ∧ 0 ≤ ({ frames := 0, cells := zh_N z - zh_N s0, slots := zh_M z - zh_M s0, locals := 0 } : Room).locals := ⟨Nat.le_refl _, Nat.le_refl _⟩
  have hret := fun (pc : Nat) (lv : List (Nat × Value)) (hd : decode ze_M_fails pc = .ok (.return_, 1)) => zg_vret (R := { frames := 0, cells := zh_N z - zh_N s0, slots := zh_M z - zh_M s0, locals := 0 }) (l := l) (e := e) (below := below) (c0 := zh_N s0) (s0 := zh_M s0) (z := z) (lv := lv) X hd
  refine zg_1 (pc' := 1) (fun _ _ _ _ _ hl w => lv_aload_n hx hb zd_M_fails_0 rfl (lv_at hl 0 rfl) w) ?_
  refine zg_1 (pc' := 2) (fun _ _ _ _ _ hl w => lv_aload_n hx hb zd_M_fails_1 rfl (lv_at hl 0 rfl) w) ?_
  obtain ⟨h_1, hf⟩ := zx_ck hf
  refine zg_get (pc' := 5) (ci := 8) hx hb htT zi_M hown hK h_1 rfl rfl 10 (by decide) (htT _ zt_815) (fun _ h9 => h9) rfl zd_M_fails_2 rfl ?_
  refine zg_2 (pc1 := 17) (pc2 := 8) (Classical.em _).symm (fun _ _ _ _ _ w1 w2 => lv_if_ne hx hb zd_M_fails_5 (by decide) w1 w2) (fun hc => ?_) (fun hc => ?_)
  · rw [if_neg hc] at hf
    refine zg_1 (pc' := 18) (fun _ _ _ _ _ hl w => lv_aload_n hx hb zd_M_fails_17 rfl (lv_at hl 0 rfl) w) ?_
    refine zg_get (pc' := 21) (ci := 8) hx hb htT zi_M hown hK h_1 rfl rfl 10 (by decide) (htT _ zt_815) (fun _ h9 => h9) rfl zd_M_fails_18 rfl ?_
    refine zg_v [] rfl ?_
    exact zw_M_fails_21 X hR hF hret n s0 a0 (zh_I s0 a0 10) hf
  · rw [if_pos hc] at hf
    refine zg_1 (pc' := 9) (fun _ _ _ _ _ hl w => lv_iload_n hx hb zd_M_fails_8 rfl (lv_at hl 1 rfl) w) ?_
    refine zg_1 (pc' := 11) (fun _ _ _ _ _ hl w => lv_bipush (v := (16 : Int32)) hx hb zd_M_fails_9 (by decide) w) ?_
    refine zg_1 (pc' := 12) (fun _ _ _ _ _ hl w => lv_iload_n hx hb zd_M_fails_11 rfl (lv_at hl 2 rfl) w) ?_
    refine zg_1 (pc' := 13) (fun _ _ _ _ _ hl w => lv_imul hx hb zd_M_fails_12 w) ?_
    refine zg_1 (pc' := 14) (fun _ _ _ _ _ hl w => lv_iadd hx hb zd_M_fails_13 w) ?_
    refine zg_1 (pc' := 21) (fun _ _ _ _ _ hl w => lv_goto hx hb zd_M_fails_14 (by decide) w) ?_
    refine zg_v [] rfl ?_
    exact zw_M_fails_21 X hR hF hret n s0 a0 (i1 + ((16 : Int32) * i2)) hf
set_option maxHeartbeats 4000000 in
theorem zw_M_head_272 {p : Program} {l : Launch} {e : Env} {R : Room} {s : State} {m : MethodId} {args : Array Value} {below : List Frame} {meth : Method} {c : Code} {Q : State → Prop} {h0 : Nat} {D : va_G} {dA : Nat → ClassId} {tb : Nat → Nat} {c0 k0 : Nat} {z : zh_S} {r : Int32} (X : zg_X p s m args meth c ze_M_head 6 zr_M (some .int) h0 D dA tb) (hR : zg_R R c0 k0 z) (hF : 1 ≤ R.frames ∧ 22 ≤ R.locals) (hret : ∀ (pc : Nat) (lv : List (Nat × Value)), decode ze_M_head pc = .ok (.ireturn, 1) → zg_G p l e R s m args below meth c Q h0 D dA 6 c0 k0 z z pc lv [.int r]) (n : Nat) : ∀ (s0 : zh_S) (a0 : Nat) (i2 : Int32) (i3 : Int32) (i4 : Int32) (it0 : Int32) (it1 : Int32), zb_M_head_272 n s0 a0 i2 i3 i4 it0 it1 = some (r, z) → zg_G p l e R s m args below meth c Q h0 D dA 6 c0 k0 z s0 272 [(0, .ref (h0 + a0)), (2, .int i2), (3, .int i3), (4, .int i4)] [.int it1, .int it0] := by
  obtain ⟨hx, hb, hml, hown, htT, hrt, hlk, x00, hIn⟩ := id X
  have hK := hIn.2.1
  have hT := hIn.2.2.1
  have hNe := hIn.2.2.2
  intro s0 a0 i2 i3 i4 it0 it1 hf
  rw [zb_M_head_272] at hf
  refine zg_1 (pc' := 273) (fun _ _ _ _ _ hl w => lv_iadd hx hb zd_M_head_272 w) ?_
  obtain ⟨i_1, e_i_1, hf⟩ := zx_l hf
  refine zg_ti e_i_1 ?_
  refine zg_s (pc' := 275) (lv' := [(5, .int i_1), (0, .ref (h0 + a0)), (2, .int i2), (3, .int i3), (4, .int i4)]) (fun _ _ _ _ _ hl w => lv_istore hx hb zd_M_head_273 hl (by decide) rfl w) ?_
  refine zg_1 (pc' := 277) (fun _ _ _ _ _ hl w => lv_iload hx hb zd_M_head_275 (lv_at hl 0 rfl) w) ?_
  refine zg_1 (pc' := 279) (fun _ _ _ _ _ hl w => lv_iload hx hb zd_M_head_277 (lv_at hl 4 rfl) w) ?_
  refine zg_1 (pc' := 280) (fun _ _ _ _ _ hl w => lv_iadd hx hb zd_M_head_279 w) ?_
  refine zg_1 (pc' := 281) (fun _ _ _ _ _ hl w => lv_iload_n hx hb zd_M_head_280 rfl (lv_at hl 2 rfl) w) ?_
  refine zg_2 (pc1 := 292) (pc2 := 284) (Classical.em _) (fun _ _ _ _ _ w1 w2 => lv_icmp_le hx hb zd_M_head_281 (by decide) w1 w2) (fun hc => ?_) (fun hc => ?_)
  · rw [if_pos hc] at hf
    refine zg_1 (pc' := 293) (fun _ _ _ _ _ hl w => lv_aload_n hx hb zd_M_head_292 rfl (lv_at hl 1 rfl) w) ?_
    refine zg_1 (pc' := 295) (fun _ _ _ _ _ hl w => lv_iload hx hb zd_M_head_293 (lv_at hl 0 rfl) w) ?_
    obtain ⟨h_3, hf⟩ := zx_ck hf
    obtain ⟨s_2, e_s_2, hf⟩ := zx_l hf
    refine zg_putI (pc' := 298) (ci := 8) (ty := .int) hx hb htT zi_M zy_M zo_M zj_M hown hK h_3 rfl rfl 9 (by decide) (htT _ zt_814) (fun _ h9 => h9) (Or.inl rfl) (by decide +kernel) rfl rfl rfl e_s_2 zd_M_head_295 rfl ?_
    refine zg_1 (pc' := 300) (fun _ _ _ _ _ hl w => lv_iload hx hb zd_M_head_298 (lv_at hl 0 rfl) w) ?_
    refine zg_1 (pc' := 302) (fun _ _ _ _ _ hl w => lv_iload hx hb zd_M_head_300 (lv_at hl 4 rfl) w) ?_
    refine zg_1 (pc' := 303) (fun _ _ _ _ _ hl w => lv_iadd hx hb zd_M_head_302 w) ?_
    obtain ⟨rfl, rfl⟩ := zx_r2 hf
    exact hret _ _ zd_M_head_303
  · rw [if_neg hc] at hf
    refine zg_1 (pc' := 285) (fun _ _ _ _ _ hl w => lv_aload_n hx hb zd_M_head_284 rfl (lv_at hl 1 rfl) w) ?_
    refine zg_1 (pc' := 286) (fun _ _ _ _ _ hl w => lv_iconst (v := (1 : Int32)) hx hb zd_M_head_285 (by decide) w) ?_
    refine zg_1 (pc' := 287) (fun _ _ _ _ _ hl w => lv_iload_n hx hb zd_M_head_286 rfl (lv_at hl 3 rfl) w) ?_
    obtain ⟨h_5, hf⟩ := zx_ck hf
    obtain ⟨s_4, hq, hf⟩ := zx_p hf
    refine zg_call (pc' := 290) (y := s_4) (rv := none) (rest := []) X hR (zm_M_fails hq) (fun H locs ls k j hsz hI hU hk => va_runV (As := [.int (1 : Int32), .int i3]) (rest := []) ⟨hx, hb, hml, hown, htT⟩ (zc_M_fails l h0 D dA tb n hq) (cwV 2 htT (zw_gV zt_1011 zt_1013 zt_41 zt_71 zt_1014) rfl rfl rfl (by decide +kernel) ⟨Nat.le_trans (Nat.le_of_ble_eq_true rfl) hF.1, Nat.le_trans (Nat.le_of_ble_eq_true rfl) hF.2⟩) ⟨(zg_pre hU).1, zg_recv hK hI h_5 rfl, (zg_pre hU).2⟩ rfl rfl hsz rfl (lv_room (Nat.le_of_ble_eq_true rfl)) zd_M_head_287 hk) rfl ?_
    refine zg_1 (pc' := 291) (fun _ _ _ _ _ hl w => lv_iload_n hx hb zd_M_head_290 rfl (lv_at hl 2 rfl) w) ?_
    obtain ⟨rfl, rfl⟩ := zx_r2 hf
    exact hret _ _ zd_M_head_291
set_option maxHeartbeats 4000000 in
theorem zw_M_head_244 {p : Program} {l : Launch} {e : Env} {R : Room} {s : State} {m : MethodId} {args : Array Value} {below : List Frame} {meth : Method} {c : Code} {Q : State → Prop} {h0 : Nat} {D : va_G} {dA : Nat → ClassId} {tb : Nat → Nat} {c0 k0 : Nat} {z : zh_S} {r : Int32} (X : zg_X p s m args meth c ze_M_head 6 zr_M (some .int) h0 D dA tb) (hR : zg_R R c0 k0 z) (hF : 1 ≤ R.frames ∧ 22 ≤ R.locals) (hret : ∀ (pc : Nat) (lv : List (Nat × Value)), decode ze_M_head pc = .ok (.ireturn, 1) → zg_G p l e R s m args below meth c Q h0 D dA 6 c0 k0 z z pc lv [.int r]) (n : Nat) : ∀ (s0 : zh_S) (a0 : Nat) (i2 : Int32) (i3 : Int32) (it0 : Int32), zb_M_head_244 n s0 a0 i2 i3 it0 = some (r, z) → zg_G p l e R s m args below meth c Q h0 D dA 6 c0 k0 z s0 244 [(0, .ref (h0 + a0)), (2, .int i2), (3, .int i3)] [.int it0] := by
  obtain ⟨hx, hb, hml, hown, htT, hrt, hlk, x00, hIn⟩ := id X
  have hK := hIn.2.1
  have hT := hIn.2.2.1
  have hNe := hIn.2.2.2
  intro s0 a0 i2 i3 it0 hf
  rw [zb_M_head_244] at hf
  refine zg_s (pc' := 246) (lv' := [(4, .int it0), (0, .ref (h0 + a0)), (2, .int i2), (3, .int i3)]) (fun _ _ _ _ _ hl w => lv_istore hx hb zd_M_head_244 hl (by decide) rfl w) ?_
  refine zg_1 (pc' := 247) (fun _ _ _ _ _ hl w => lv_aload_n hx hb zd_M_head_246 rfl (lv_at hl 1 rfl) w) ?_
  obtain ⟨h_1, hf⟩ := zx_ck hf
  refine zg_get (pc' := 250) (ci := 8) hx hb htT zi_M hown hK h_1 rfl rfl 9 (by decide) (htT _ zt_814) (fun _ h9 => h9) rfl zd_M_head_247 rfl ?_
  refine zg_1 (pc' := 251) (fun _ _ _ _ _ hl w => lv_aload_n hx hb zd_M_head_250 rfl (lv_at hl 1 rfl) w) ?_
  obtain ⟨a_2, h_3, hf⟩ := zx_p hf
  refine zg_get (pc' := 254) (ci := 8) hx hb htT zi_M hown hK h_1 rfl rfl 0 (by decide) (htT _ zt_805) (fun _ h9 => h9) (zx_hv h_3) zd_M_head_251 rfl ?_
  refine zg_1 (pc' := 255) (fun _ _ _ _ _ hl w => lv_aload_n hx hb zd_M_head_254 rfl (lv_at hl 1 rfl) w) ?_
  refine zg_get (pc' := 258) (ci := 8) hx hb htT zi_M hown hK h_1 rfl rfl 9 (by decide) (htT _ zt_814) (fun _ h9 => h9) rfl zd_M_head_255 rfl ?_
  refine zg_1 (pc' := 259) (fun _ _ _ _ _ hl w => lv_iconst (v := (1 : Int32)) hx hb zd_M_head_258 (by decide) w) ?_
  refine zg_1 (pc' := 260) (fun _ _ _ _ _ hl w => lv_iadd hx hb zd_M_head_259 w) ?_
  obtain ⟨h_4, hf⟩ := zx_ck hf
  refine zg_iald (pc' := 261) hx hb hK h_4 zd_M_head_260 rfl ?_
  refine zg_1 (pc' := 264) (fun _ _ _ _ _ hl w => lv_sipush (v := (129 : Int32)) hx hb zd_M_head_261 (by decide) w) ?_
  refine zg_2 (pc1 := 271) (pc2 := 267) (Classical.em _).symm (fun _ _ _ _ _ w1 w2 => lv_icmp_ne hx hb zd_M_head_264 (by decide) w1 w2) (fun hc => ?_) (fun hc => ?_)
  · rw [if_neg hc] at hf
    refine zg_1 (pc' := 272) (fun _ _ _ _ _ hl w => lv_iconst (v := (2 : Int32)) hx hb zd_M_head_271 (by decide) w) ?_
    refine zg_v [1, 2, 3, 0] rfl ?_
    exact zw_M_head_272 X hR hF hret n s0 a0 i2 i3 it0 (zh_I s0 a0 9) (2 : Int32) hf
  · rw [if_pos hc] at hf
    refine zg_1 (pc' := 268) (fun _ _ _ _ _ hl w => lv_iconst (v := (3 : Int32)) hx hb zd_M_head_267 (by decide) w) ?_
    refine zg_1 (pc' := 272) (fun _ _ _ _ _ hl w => lv_goto hx hb zd_M_head_268 (by decide) w) ?_
    refine zg_v [1, 2, 3, 0] rfl ?_
    exact zw_M_head_272 X hR hF hret n s0 a0 i2 i3 it0 (zh_I s0 a0 9) (3 : Int32) hf
set_option maxHeartbeats 4000000 in
theorem zw_M_head_193 {p : Program} {l : Launch} {e : Env} {R : Room} {s : State} {m : MethodId} {args : Array Value} {below : List Frame} {meth : Method} {c : Code} {Q : State → Prop} {h0 : Nat} {D : va_G} {dA : Nat → ClassId} {tb : Nat → Nat} {c0 k0 : Nat} {z : zh_S} {r : Int32} (X : zg_X p s m args meth c ze_M_head 6 zr_M (some .int) h0 D dA tb) (hR : zg_R R c0 k0 z) (hF : 1 ≤ R.frames ∧ 22 ≤ R.locals) (hret : ∀ (pc : Nat) (lv : List (Nat × Value)), decode ze_M_head pc = .ok (.ireturn, 1) → zg_G p l e R s m args below meth c Q h0 D dA 6 c0 k0 z z pc lv [.int r]) (n : Nat) : ∀ (s0 : zh_S) (a0 : Nat) (i2 : Int32) (i3 : Int32), zb_M_head_193 n s0 a0 i2 i3 = some (r, z) → zg_G p l e R s m args below meth c Q h0 D dA 6 c0 k0 z s0 193 [(0, .ref (h0 + a0)), (2, .int i2), (3, .int i3)] [] := by
  obtain ⟨hx, hb, hml, hown, htT, hrt, hlk, x00, hIn⟩ := id X
  have hK := hIn.2.1
  have hT := hIn.2.2.1
  have hNe := hIn.2.2.2
  intro s0 a0 i2 i3 hf
  rw [zb_M_head_193] at hf
  refine zg_1 (pc' := 194) (fun _ _ _ _ _ hl w => lv_aload_n hx hb zd_M_head_193 rfl (lv_at hl 0 rfl) w) ?_
  obtain ⟨h_1, hf⟩ := zx_ck hf
  refine zg_get (pc' := 197) (ci := 8) hx hb htT zi_M hown hK h_1 rfl rfl 10 (by decide) (htT _ zt_815) (fun _ h9 => h9) rfl zd_M_head_194 rfl ?_
  refine zg_2 (pc1 := 202) (pc2 := 200) (Classical.em _) (fun _ _ _ _ _ w1 w2 => lv_if_eq hx hb zd_M_head_197 (by decide) w1 w2) (fun hc => ?_) (fun hc => ?_)
  · rw [if_pos hc] at hf
    refine zg_1 (pc' := 203) (fun _ _ _ _ _ hl w => lv_aload_n hx hb zd_M_head_202 rfl (lv_at hl 0 rfl) w) ?_
    obtain ⟨a_2, h_3, hf⟩ := zx_p hf
    refine zg_get (pc' := 206) (ci := 8) hx hb htT zi_M hown hK h_1 rfl rfl 0 (by decide) (htT _ zt_805) (fun _ h9 => h9) (zx_hv h_3) zd_M_head_203 rfl ?_
    refine zg_1 (pc' := 207) (fun _ _ _ _ _ hl w => lv_aload_n hx hb zd_M_head_206 rfl (lv_at hl 0 rfl) w) ?_
    refine zg_get (pc' := 210) (ci := 8) hx hb htT zi_M hown hK h_1 rfl rfl 9 (by decide) (htT _ zt_814) (fun _ h9 => h9) rfl zd_M_head_207 rfl ?_
    refine zg_1 (pc' := 211) (fun _ _ _ _ _ hl w => lv_iconst (v := (1 : Int32)) hx hb zd_M_head_210 (by decide) w) ?_
    refine zg_1 (pc' := 212) (fun _ _ _ _ _ hl w => lv_iadd hx hb zd_M_head_211 w) ?_
    obtain ⟨h_4, hf⟩ := zx_ck hf
    refine zg_iald (pc' := 213) hx hb hK h_4 zd_M_head_212 rfl ?_
    refine zg_1 (pc' := 216) (fun _ _ _ _ _ hl w => lv_sipush (v := (129 : Int32)) hx hb zd_M_head_213 (by decide) w) ?_
    refine zg_2 (pc1 := 233) (pc2 := 219) (Classical.em _).symm (fun _ _ _ _ _ w1 w2 => lv_icmp_ne hx hb zd_M_head_216 (by decide) w1 w2) (fun hc => ?_) (fun hc => ?_)
    · rw [if_neg hc] at hf
      refine zg_1 (pc' := 234) (fun _ _ _ _ _ hl w => lv_aload_n hx hb zd_M_head_233 rfl (lv_at hl 0 rfl) w) ?_
      obtain ⟨a_5, h_6, hf⟩ := zx_p hf
      refine zg_get (pc' := 237) (ci := 8) hx hb htT zi_M hown hK h_1 rfl rfl 0 (by decide) (htT _ zt_805) (fun _ h9 => h9) (zx_hv h_6) zd_M_head_234 rfl ?_
      refine zg_1 (pc' := 238) (fun _ _ _ _ _ hl w => lv_aload_n hx hb zd_M_head_237 rfl (lv_at hl 0 rfl) w) ?_
      refine zg_get (pc' := 241) (ci := 8) hx hb htT zi_M hown hK h_1 rfl rfl 9 (by decide) (htT _ zt_814) (fun _ h9 => h9) rfl zd_M_head_238 rfl ?_
      refine zg_1 (pc' := 242) (fun _ _ _ _ _ hl w => lv_iconst (v := (1 : Int32)) hx hb zd_M_head_241 (by decide) w) ?_
      refine zg_1 (pc' := 243) (fun _ _ _ _ _ hl w => lv_iadd hx hb zd_M_head_242 w) ?_
      obtain ⟨h_7, hf⟩ := zx_ck hf
      refine zg_iald (pc' := 244) hx hb hK h_7 zd_M_head_243 rfl ?_
      exact zw_M_head_244 X hR hF hret n s0 a0 i2 i3 (zh_I s0 a_5 (((zh_I s0 a0 9) + (1 : Int32)).toNatClampNeg)) hf
    · rw [if_pos hc] at hf
      refine zg_1 (pc' := 220) (fun _ _ _ _ _ hl w => lv_aload_n hx hb zd_M_head_219 rfl (lv_at hl 0 rfl) w) ?_
      obtain ⟨a_8, h_9, hf⟩ := zx_p hf
      refine zg_get (pc' := 223) (ci := 8) hx hb htT zi_M hown hK h_1 rfl rfl 0 (by decide) (htT _ zt_805) (fun _ h9 => h9) (zx_hv h_9) zd_M_head_220 rfl ?_
      refine zg_1 (pc' := 224) (fun _ _ _ _ _ hl w => lv_aload_n hx hb zd_M_head_223 rfl (lv_at hl 0 rfl) w) ?_
      refine zg_get (pc' := 227) (ci := 8) hx hb htT zi_M hown hK h_1 rfl rfl 9 (by decide) (htT _ zt_814) (fun _ h9 => h9) rfl zd_M_head_224 rfl ?_
      refine zg_1 (pc' := 228) (fun _ _ _ _ _ hl w => lv_iconst (v := (2 : Int32)) hx hb zd_M_head_227 (by decide) w) ?_
      refine zg_1 (pc' := 229) (fun _ _ _ _ _ hl w => lv_iadd hx hb zd_M_head_228 w) ?_
      obtain ⟨h_10, hf⟩ := zx_ck hf
      refine zg_iald (pc' := 230) hx hb hK h_10 zd_M_head_229 rfl ?_
      refine zg_1 (pc' := 244) (fun _ _ _ _ _ hl w => lv_goto hx hb zd_M_head_230 (by decide) w) ?_
      exact zw_M_head_244 X hR hF hret n s0 a0 i2 i3 (zh_I s0 a_8 (((zh_I s0 a0 9) + (2 : Int32)).toNatClampNeg)) hf
  · rw [if_neg hc] at hf
    refine zg_1 (pc' := 201) (fun _ _ _ _ _ hl w => lv_iload_n hx hb zd_M_head_200 rfl (lv_at hl 1 rfl) w) ?_
    obtain ⟨rfl, rfl⟩ := zx_r2 hf
    exact hret _ _ zd_M_head_201
set_option maxHeartbeats 4000000 in
theorem zw_M_head_153 {p : Program} {l : Launch} {e : Env} {R : Room} {s : State} {m : MethodId} {args : Array Value} {below : List Frame} {meth : Method} {c : Code} {Q : State → Prop} {h0 : Nat} {D : va_G} {dA : Nat → ClassId} {tb : Nat → Nat} {c0 k0 : Nat} {z : zh_S} {r : Int32} (X : zg_X p s m args meth c ze_M_head 6 zr_M (some .int) h0 D dA tb) (hR : zg_R R c0 k0 z) (hF : 1 ≤ R.frames ∧ 22 ≤ R.locals) (hret : ∀ (pc : Nat) (lv : List (Nat × Value)), decode ze_M_head pc = .ok (.ireturn, 1) → zg_G p l e R s m args below meth c Q h0 D dA 6 c0 k0 z z pc lv [.int r]) (n : Nat) : ∀ (s0 : zh_S) (a0 : Nat) (i2 : Int32) (i3 : Int32), zb_M_head_153 n s0 a0 i2 i3 = some (r, z) → zg_G p l e R s m args below meth c Q h0 D dA 6 c0 k0 z s0 153 [(0, .ref (h0 + a0)), (2, .int i2), (3, .int i3)] [] := by
  obtain ⟨hx, hb, hml, hown, htT, hrt, hlk, x00, hIn⟩ := id X
  have hK := hIn.2.1
  have hT := hIn.2.2.1
  have hNe := hIn.2.2.2
  intro s0 a0 i2 i3 hf
  rw [zb_M_head_153] at hf
  refine zg_1 (pc' := 154) (fun _ _ _ _ _ hl w => lv_aload_n hx hb zd_M_head_153 rfl (lv_at hl 0 rfl) w) ?_
  obtain ⟨h_1, hf⟩ := zx_ck hf
  obtain ⟨a_2, h_3, hf⟩ := zx_p hf
  refine zg_get (pc' := 157) (ci := 8) hx hb htT zi_M hown hK h_1 rfl rfl 0 (by decide) (htT _ zt_805) (fun _ h9 => h9) (zx_hv h_3) zd_M_head_154 rfl ?_
  refine zg_1 (pc' := 158) (fun _ _ _ _ _ hl w => lv_aload_n hx hb zd_M_head_157 rfl (lv_at hl 0 rfl) w) ?_
  refine zg_get (pc' := 161) (ci := 8) hx hb htT zi_M hown hK h_1 rfl rfl 9 (by decide) (htT _ zt_814) (fun _ h9 => h9) rfl zd_M_head_158 rfl ?_
  refine zg_1 (pc' := 162) (fun _ _ _ _ _ hl w => lv_iconst (v := (1 : Int32)) hx hb zd_M_head_161 (by decide) w) ?_
  refine zg_1 (pc' := 163) (fun _ _ _ _ _ hl w => lv_iadd hx hb zd_M_head_162 w) ?_
  obtain ⟨h_4, hf⟩ := zx_ck hf
  refine zg_iald (pc' := 164) hx hb hK h_4 zd_M_head_163 rfl ?_
  refine zg_1 (pc' := 167) (fun _ _ _ _ _ hl w => lv_sipush (v := (129 : Int32)) hx hb zd_M_head_164 (by decide) w) ?_
  refine zg_2 (pc1 := 193) (pc2 := 170) (Classical.em _).symm (fun _ _ _ _ _ w1 w2 => lv_icmp_ne hx hb zd_M_head_167 (by decide) w1 w2) (fun hc => ?_) (fun hc => ?_)
  · rw [if_neg hc] at hf
    exact zw_M_head_193 X hR hF hret n s0 a0 i2 i3 hf
  · rw [if_pos hc] at hf
    refine zg_1 (pc' := 171) (fun _ _ _ _ _ hl w => lv_aload_n hx hb zd_M_head_170 rfl (lv_at hl 0 rfl) w) ?_
    obtain ⟨a_5, h_6, hf⟩ := zx_p hf
    refine zg_get (pc' := 174) (ci := 8) hx hb htT zi_M hown hK h_1 rfl rfl 0 (by decide) (htT _ zt_805) (fun _ h9 => h9) (zx_hv h_6) zd_M_head_171 rfl ?_
    refine zg_1 (pc' := 175) (fun _ _ _ _ _ hl w => lv_aload_n hx hb zd_M_head_174 rfl (lv_at hl 0 rfl) w) ?_
    refine zg_get (pc' := 178) (ci := 8) hx hb htT zi_M hown hK h_1 rfl rfl 9 (by decide) (htT _ zt_814) (fun _ h9 => h9) rfl zd_M_head_175 rfl ?_
    refine zg_1 (pc' := 179) (fun _ _ _ _ _ hl w => lv_iconst (v := (2 : Int32)) hx hb zd_M_head_178 (by decide) w) ?_
    refine zg_1 (pc' := 180) (fun _ _ _ _ _ hl w => lv_iadd hx hb zd_M_head_179 w) ?_
    obtain ⟨h_7, hf⟩ := zx_ck hf
    refine zg_iald (pc' := 181) hx hb hK h_7 zd_M_head_180 rfl ?_
    refine zg_1 (pc' := 184) (fun _ _ _ _ _ hl w => lv_sipush (v := (128 : Int32)) hx hb zd_M_head_181 (by decide) w) ?_
    refine zg_2 (pc1 := 193) (pc2 := 187) (Classical.em _) (fun _ _ _ _ _ w1 w2 => lv_icmp_ge hx hb zd_M_head_184 (by decide) w1 w2) (fun hc => ?_) (fun hc => ?_)
    · rw [if_pos hc] at hf
      exact zw_M_head_193 X hR hF hret n s0 a0 i2 i3 hf
    · rw [if_neg hc] at hf
      refine zg_1 (pc' := 188) (fun _ _ _ _ _ hl w => lv_aload_n hx hb zd_M_head_187 rfl (lv_at hl 0 rfl) w) ?_
      refine zg_1 (pc' := 189) (fun _ _ _ _ _ hl w => lv_iconst (v := (3 : Int32)) hx hb zd_M_head_188 (by decide) w) ?_
      refine zg_1 (pc' := 190) (fun _ _ _ _ _ hl w => lv_iload_n hx hb zd_M_head_189 rfl (lv_at hl 2 rfl) w) ?_
      obtain ⟨s_8, hq, hf⟩ := zx_p hf
      refine zg_call (pc' := 193) (y := s_8) (rv := none) (rest := []) X hR (zm_M_fails hq) (fun H locs ls k j hsz hI hU hk => va_runV (As := [.int (3 : Int32), .int i3]) (rest := []) ⟨hx, hb, hml, hown, htT⟩ (zc_M_fails l h0 D dA tb n hq) (cwV 2 htT (zw_gV zt_1011 zt_1013 zt_41 zt_71 zt_1014) rfl rfl rfl (by decide +kernel) ⟨Nat.le_trans (Nat.le_of_ble_eq_true rfl) hF.1, Nat.le_trans (Nat.le_of_ble_eq_true rfl) hF.2⟩) ⟨(zg_pre hU).1, zg_recv hK hI h_1 rfl, (zg_pre hU).2⟩ rfl rfl hsz rfl (lv_room (Nat.le_of_ble_eq_true rfl)) zd_M_head_190 hk) rfl ?_
      exact zw_M_head_193 X hR hF hret n s_8 a0 i2 i3 hf
set_option maxHeartbeats 4000000 in
theorem zw_M_head_108 {p : Program} {l : Launch} {e : Env} {R : Room} {s : State} {m : MethodId} {args : Array Value} {below : List Frame} {meth : Method} {c : Code} {Q : State → Prop} {h0 : Nat} {D : va_G} {dA : Nat → ClassId} {tb : Nat → Nat} {c0 k0 : Nat} {z : zh_S} {r : Int32} (X : zg_X p s m args meth c ze_M_head 6 zr_M (some .int) h0 D dA tb) (hR : zg_R R c0 k0 z) (hF : 1 ≤ R.frames ∧ 22 ≤ R.locals) (hret : ∀ (pc : Nat) (lv : List (Nat × Value)), decode ze_M_head pc = .ok (.ireturn, 1) → zg_G p l e R s m args below meth c Q h0 D dA 6 c0 k0 z z pc lv [.int r]) (n : Nat) : ∀ (s0 : zh_S) (a0 : Nat) (i2 : Int32) (i3 : Int32), zb_M_head_108 n s0 a0 i2 i3 = some (r, z) → zg_G p l e R s m args below meth c Q h0 D dA 6 c0 k0 z s0 108 [(0, .ref (h0 + a0)), (2, .int i2), (3, .int i3)] [] := by
  obtain ⟨hx, hb, hml, hown, htT, hrt, hlk, x00, hIn⟩ := id X
  have hK := hIn.2.1
  have hT := hIn.2.2.1
  have hNe := hIn.2.2.2
  intro s0 a0 i2 i3 hf
  rw [zb_M_head_108] at hf
  refine zg_1 (pc' := 109) (fun _ _ _ _ _ hl w => lv_aload_n hx hb zd_M_head_108 rfl (lv_at hl 0 rfl) w) ?_
  refine zg_1 (pc' := 110) (fun _ _ _ _ _ hl w => lv_iconst (v := (3 : Int32)) hx hb zd_M_head_109 (by decide) w) ?_
  refine zg_1 (pc' := 111) (fun _ _ _ _ _ hl w => lv_iload_n hx hb zd_M_head_110 rfl (lv_at hl 2 rfl) w) ?_
  obtain ⟨h_2, hf⟩ := zx_ck hf
  obtain ⟨s_1, hq, hf⟩ := zx_p hf
  refine zg_call (pc' := 114) (y := s_1) (rv := none) (rest := []) X hR (zm_M_fails hq) (fun H locs ls k j hsz hI hU hk => va_runV (As := [.int (3 : Int32), .int i3]) (rest := []) ⟨hx, hb, hml, hown, htT⟩ (zc_M_fails l h0 D dA tb n hq) (cwV 2 htT (zw_gV zt_1011 zt_1013 zt_41 zt_71 zt_1014) rfl rfl rfl (by decide +kernel) ⟨Nat.le_trans (Nat.le_of_ble_eq_true rfl) hF.1, Nat.le_trans (Nat.le_of_ble_eq_true rfl) hF.2⟩) ⟨(zg_pre hU).1, zg_recv hK hI h_2 rfl, (zg_pre hU).2⟩ rfl rfl hsz rfl (lv_room (Nat.le_of_ble_eq_true rfl)) zd_M_head_111 hk) rfl ?_
  refine zg_1 (pc' := 193) (fun _ _ _ _ _ hl w => lv_goto hx hb zd_M_head_114 (by decide) w) ?_
  exact zw_M_head_193 X hR hF hret n s_1 a0 i2 i3 hf
set_option maxHeartbeats 4000000 in
theorem zc_M_head (l : Launch) (h0 : Nat) (D : va_G) (dA : Nat → ClassId) (tb : Nat → Nat) (n : Nat) {s0 : zh_S} {a0 : Nat} {i1 : Int32} {i2 : Int32} {r : Int32} {z : zh_S} (hf : zf_M_head n s0 a0 i1 i2 = some (r, z)) : zc_M l zn_M_head zs_M_head 1 22 h0 D dA tb [.ref (h0 + a0), .int i1, .int i2] s0 (some (.int r)) z := by
  rw [zf_M_head] at hf
  refine zc_of (cc := ze_M_head) (maxL := 6) (ret := (some .int)) (lv := [(0, .ref (h0 + a0)), (1, .int i1), (2, .int i2)]) (by decide) rfl (Nat.le_of_ble_eq_true rfl) rfl ?_
  intro p e s m args below meth c X hnm
  obtain ⟨hx, hb, hml, hown, htT, hrt, hlk, x00, hIn⟩ := id X
  have hK := hIn.2.1
  have hT := hIn.2.2.1
  have hNe := hIn.2.2.2
  have hR : zg_R { frames := 1, cells := zh_N z - zh_N s0, slots := zh_M z - zh_M s0, locals := 22 } (zh_N s0) (zh_M s0) z := ⟨by show zh_N z ≤ zh_N s0 + (zh_N z - zh_N s0); omega, by show zh_M z ≤ zh_M s0 + (zh_M z - zh_M s0); omega⟩
  have hF : 1 ≤ ({ frames := 1, cells := zh_N z - zh_N s0, slots := zh_M z - zh_M s0, locals := 22 } : Room).frames ∧ 22 ≤ ({ frames := 1, cells := zh_N z - zh_N s0, slots := zh_M z - zh_M s0, locals := 22 } : Room).locals := ⟨Nat.le_refl _, Nat.le_refl _⟩
  have hret := fun (pc : Nat) (lv : List (Nat × Value)) (hd : decode ze_M_head pc = .ok (.ireturn, 1)) => zg_iret (R := { frames := 1, cells := zh_N z - zh_N s0, slots := zh_M z - zh_M s0, locals := 22 }) (l := l) (e := e) (below := below) (c0 := zh_N s0) (s0 := zh_M s0) (z := z) (lv := lv) (v := r) X rfl hd
  refine zg_1 (pc' := 1) (fun _ _ _ _ _ hl w => lv_aload_n hx hb zd_M_head_0 rfl (lv_at hl 0 rfl) w) ?_
  obtain ⟨h_1, hf⟩ := zx_ck hf
  refine zg_get (pc' := 4) (ci := 8) hx hb htT zi_M hown hK h_1 rfl rfl 10 (by decide) (htT _ zt_815) (fun _ h9 => h9) rfl zd_M_head_1 rfl ?_
  refine zg_2 (pc1 := 9) (pc2 := 7) (Classical.em _) (fun _ _ _ _ _ w1 w2 => lv_if_eq hx hb zd_M_head_4 (by decide) w1 w2) (fun hc => ?_) (fun hc => ?_)
  · rw [if_pos hc] at hf
    refine zg_1 (pc' := 10) (fun _ _ _ _ _ hl w => lv_aload_n hx hb zd_M_head_9 rfl (lv_at hl 0 rfl) w) ?_
    refine zg_get (pc' := 13) (ci := 8) hx hb htT zi_M hown hK h_1 rfl rfl 9 (by decide) (htT _ zt_814) (fun _ h9 => h9) rfl zd_M_head_10 rfl ?_
    obtain ⟨i_2, e_i_2, hf⟩ := zx_l hf
    refine zg_ti e_i_2 ?_
    refine zg_s (pc' := 14) (lv' := [(3, .int i_2), (0, .ref (h0 + a0)), (1, .int i1), (2, .int i2)]) (fun _ _ _ _ _ hl w => lv_istore_n hx hb zd_M_head_13 rfl hl (by decide) rfl w) ?_
    refine zg_1 (pc' := 15) (fun _ _ _ _ _ hl w => lv_aload_n hx hb zd_M_head_14 rfl (lv_at hl 1 rfl) w) ?_
    refine zg_get (pc' := 18) (ci := 8) hx hb htT zi_M hown hK h_1 rfl rfl 9 (by decide) (htT _ zt_814) (fun _ h9 => h9) rfl zd_M_head_15 rfl ?_
    refine zg_1 (pc' := 19) (fun _ _ _ _ _ hl w => lv_iload_n hx hb zd_M_head_18 rfl (lv_at hl 3 rfl) w) ?_
    refine zg_2 (pc1 := 33) (pc2 := 22) (Classical.em _) (fun _ _ _ _ _ w1 w2 => lv_icmp_lt hx hb zd_M_head_19 (by decide) w1 w2) (fun hc => ?_) (fun hc => ?_)
    · rw [if_pos hc] at hf
      refine zg_1 (pc' := 34) (fun _ _ _ _ _ hl w => lv_aload_n hx hb zd_M_head_33 rfl (lv_at hl 1 rfl) w) ?_
      obtain ⟨a_3, h_4, hf⟩ := zx_p hf
      refine zg_get (pc' := 37) (ci := 8) hx hb htT zi_M hown hK h_1 rfl rfl 0 (by decide) (htT _ zt_805) (fun _ h9 => h9) (zx_hv h_4) zd_M_head_34 rfl ?_
      refine zg_1 (pc' := 38) (fun _ _ _ _ _ hl w => lv_aload_n hx hb zd_M_head_37 rfl (lv_at hl 1 rfl) w) ?_
      refine zg_get (pc' := 41) (ci := 8) hx hb htT zi_M hown hK h_1 rfl rfl 9 (by decide) (htT _ zt_814) (fun _ h9 => h9) rfl zd_M_head_38 rfl ?_
      obtain ⟨h_5, hf⟩ := zx_ck hf
      refine zg_iald (pc' := 42) hx hb hK h_5 zd_M_head_41 rfl ?_
      refine zg_1 (pc' := 43) (fun _ _ _ _ _ hl w => lv_iload_n hx hb zd_M_head_42 rfl (lv_at hl 2 rfl) w) ?_
      refine zg_2 (pc1 := 55) (pc2 := 46) (Classical.em _) (fun _ _ _ _ _ w1 w2 => lv_icmp_eq hx hb zd_M_head_43 (by decide) w1 w2) (fun hc => ?_) (fun hc => ?_)
      · rw [if_pos hc] at hf
        refine zg_1 (pc' := 56) (fun _ _ _ _ _ hl w => lv_aload_n hx hb zd_M_head_55 rfl (lv_at hl 1 rfl) w) ?_
        refine zg_get (pc' := 59) (ci := 8) hx hb htT zi_M hown hK h_1 rfl rfl 9 (by decide) (htT _ zt_814) (fun _ h9 => h9) rfl zd_M_head_56 rfl ?_
        refine zg_1 (pc' := 60) (fun _ _ _ _ _ hl w => lv_iconst (v := (1 : Int32)) hx hb zd_M_head_59 (by decide) w) ?_
        refine zg_1 (pc' := 61) (fun _ _ _ _ _ hl w => lv_iadd hx hb zd_M_head_60 w) ?_
        refine zg_1 (pc' := 62) (fun _ _ _ _ _ hl w => lv_iload_n hx hb zd_M_head_61 rfl (lv_at hl 3 rfl) w) ?_
        refine zg_2 (pc1 := 74) (pc2 := 65) (Classical.em _) (fun _ _ _ _ _ w1 w2 => lv_icmp_lt hx hb zd_M_head_62 (by decide) w1 w2) (fun hc => ?_) (fun hc => ?_)
        · rw [if_pos hc] at hf
          refine zg_1 (pc' := 75) (fun _ _ _ _ _ hl w => lv_aload_n hx hb zd_M_head_74 rfl (lv_at hl 1 rfl) w) ?_
          obtain ⟨a_6, h_7, hf⟩ := zx_p hf
          refine zg_get (pc' := 78) (ci := 8) hx hb htT zi_M hown hK h_1 rfl rfl 0 (by decide) (htT _ zt_805) (fun _ h9 => h9) (zx_hv h_7) zd_M_head_75 rfl ?_
          refine zg_1 (pc' := 79) (fun _ _ _ _ _ hl w => lv_aload_n hx hb zd_M_head_78 rfl (lv_at hl 1 rfl) w) ?_
          refine zg_get (pc' := 82) (ci := 8) hx hb htT zi_M hown hK h_1 rfl rfl 9 (by decide) (htT _ zt_814) (fun _ h9 => h9) rfl zd_M_head_79 rfl ?_
          refine zg_1 (pc' := 83) (fun _ _ _ _ _ hl w => lv_iconst (v := (1 : Int32)) hx hb zd_M_head_82 (by decide) w) ?_
          refine zg_1 (pc' := 84) (fun _ _ _ _ _ hl w => lv_iadd hx hb zd_M_head_83 w) ?_
          obtain ⟨h_8, hf⟩ := zx_ck hf
          refine zg_iald (pc' := 85) hx hb hK h_8 zd_M_head_84 rfl ?_
          refine zg_1 (pc' := 88) (fun _ _ _ _ _ hl w => lv_sipush (v := (128 : Int32)) hx hb zd_M_head_85 (by decide) w) ?_
          refine zg_2 (pc1 := 108) (pc2 := 91) (Classical.em _) (fun _ _ _ _ _ w1 w2 => lv_icmp_eq hx hb zd_M_head_88 (by decide) w1 w2) (fun hc => ?_) (fun hc => ?_)
          · rw [if_pos hc] at hf
            refine zg_v [1, 3, 0] rfl ?_
            exact zw_M_head_108 X hR hF hret n s0 a0 i2 i_2 hf
          · rw [if_neg hc] at hf
            refine zg_1 (pc' := 92) (fun _ _ _ _ _ hl w => lv_aload_n hx hb zd_M_head_91 rfl (lv_at hl 1 rfl) w) ?_
            obtain ⟨a_9, h_10, hf⟩ := zx_p hf
            refine zg_get (pc' := 95) (ci := 8) hx hb htT zi_M hown hK h_1 rfl rfl 0 (by decide) (htT _ zt_805) (fun _ h9 => h9) (zx_hv h_10) zd_M_head_92 rfl ?_
            refine zg_1 (pc' := 96) (fun _ _ _ _ _ hl w => lv_aload_n hx hb zd_M_head_95 rfl (lv_at hl 1 rfl) w) ?_
            refine zg_get (pc' := 99) (ci := 8) hx hb htT zi_M hown hK h_1 rfl rfl 9 (by decide) (htT _ zt_814) (fun _ h9 => h9) rfl zd_M_head_96 rfl ?_
            refine zg_1 (pc' := 100) (fun _ _ _ _ _ hl w => lv_iconst (v := (1 : Int32)) hx hb zd_M_head_99 (by decide) w) ?_
            refine zg_1 (pc' := 101) (fun _ _ _ _ _ hl w => lv_iadd hx hb zd_M_head_100 w) ?_
            obtain ⟨h_11, hf⟩ := zx_ck hf
            refine zg_iald (pc' := 102) hx hb hK h_11 zd_M_head_101 rfl ?_
            refine zg_1 (pc' := 105) (fun _ _ _ _ _ hl w => lv_sipush (v := (129 : Int32)) hx hb zd_M_head_102 (by decide) w) ?_
            refine zg_2 (pc1 := 117) (pc2 := 108) (Classical.em _) (fun _ _ _ _ _ w1 w2 => lv_icmp_le hx hb zd_M_head_105 (by decide) w1 w2) (fun hc => ?_) (fun hc => ?_)
            · rw [if_pos hc] at hf
              refine zg_1 (pc' := 118) (fun _ _ _ _ _ hl w => lv_aload_n hx hb zd_M_head_117 rfl (lv_at hl 1 rfl) w) ?_
              obtain ⟨a_12, h_13, hf⟩ := zx_p hf
              refine zg_get (pc' := 121) (ci := 8) hx hb htT zi_M hown hK h_1 rfl rfl 0 (by decide) (htT _ zt_805) (fun _ h9 => h9) (zx_hv h_13) zd_M_head_118 rfl ?_
              refine zg_1 (pc' := 122) (fun _ _ _ _ _ hl w => lv_aload_n hx hb zd_M_head_121 rfl (lv_at hl 1 rfl) w) ?_
              refine zg_get (pc' := 125) (ci := 8) hx hb htT zi_M hown hK h_1 rfl rfl 9 (by decide) (htT _ zt_814) (fun _ h9 => h9) rfl zd_M_head_122 rfl ?_
              refine zg_1 (pc' := 126) (fun _ _ _ _ _ hl w => lv_iconst (v := (1 : Int32)) hx hb zd_M_head_125 (by decide) w) ?_
              refine zg_1 (pc' := 127) (fun _ _ _ _ _ hl w => lv_iadd hx hb zd_M_head_126 w) ?_
              obtain ⟨h_14, hf⟩ := zx_ck hf
              refine zg_iald (pc' := 128) hx hb hK h_14 zd_M_head_127 rfl ?_
              refine zg_1 (pc' := 131) (fun _ _ _ _ _ hl w => lv_sipush (v := (129 : Int32)) hx hb zd_M_head_128 (by decide) w) ?_
              refine zg_2 (pc1 := 153) (pc2 := 134) (Classical.em _).symm (fun _ _ _ _ _ w1 w2 => lv_icmp_ne hx hb zd_M_head_131 (by decide) w1 w2) (fun hc => ?_) (fun hc => ?_)
              · rw [if_neg hc] at hf
                refine zg_v [1, 3, 0] rfl ?_
                exact zw_M_head_153 X hR hF hret n s0 a0 i2 i_2 hf
              · rw [if_pos hc] at hf
                refine zg_1 (pc' := 135) (fun _ _ _ _ _ hl w => lv_aload_n hx hb zd_M_head_134 rfl (lv_at hl 1 rfl) w) ?_
                refine zg_get (pc' := 138) (ci := 8) hx hb htT zi_M hown hK h_1 rfl rfl 9 (by decide) (htT _ zt_814) (fun _ h9 => h9) rfl zd_M_head_135 rfl ?_
                refine zg_1 (pc' := 139) (fun _ _ _ _ _ hl w => lv_iconst (v := (2 : Int32)) hx hb zd_M_head_138 (by decide) w) ?_
                refine zg_1 (pc' := 140) (fun _ _ _ _ _ hl w => lv_iadd hx hb zd_M_head_139 w) ?_
                refine zg_1 (pc' := 141) (fun _ _ _ _ _ hl w => lv_iload_n hx hb zd_M_head_140 rfl (lv_at hl 3 rfl) w) ?_
                refine zg_2 (pc1 := 153) (pc2 := 144) (Classical.em _) (fun _ _ _ _ _ w1 w2 => lv_icmp_lt hx hb zd_M_head_141 (by decide) w1 w2) (fun hc => ?_) (fun hc => ?_)
                · rw [if_pos hc] at hf
                  refine zg_v [1, 3, 0] rfl ?_
                  exact zw_M_head_153 X hR hF hret n s0 a0 i2 i_2 hf
                · rw [if_neg hc] at hf
                  refine zg_1 (pc' := 145) (fun _ _ _ _ _ hl w => lv_aload_n hx hb zd_M_head_144 rfl (lv_at hl 1 rfl) w) ?_
                  refine zg_1 (pc' := 146) (fun _ _ _ _ _ hl w => lv_iconst (v := (1 : Int32)) hx hb zd_M_head_145 (by decide) w) ?_
                  refine zg_1 (pc' := 147) (fun _ _ _ _ _ hl w => lv_iload_n hx hb zd_M_head_146 rfl (lv_at hl 0 rfl) w) ?_
                  obtain ⟨s_15, hq, hf⟩ := zx_p hf
                  refine zg_call (pc' := 150) (y := s_15) (rv := none) (rest := []) X hR (zm_M_fails hq) (fun H locs ls k j hsz hI hU hk => va_runV (As := [.int (1 : Int32), .int i_2]) (rest := []) ⟨hx, hb, hml, hown, htT⟩ (zc_M_fails l h0 D dA tb n hq) (cwV 2 htT (zw_gV zt_1011 zt_1013 zt_41 zt_71 zt_1014) rfl rfl rfl (by decide +kernel) ⟨Nat.le_trans (Nat.le_of_ble_eq_true rfl) hF.1, Nat.le_trans (Nat.le_of_ble_eq_true rfl) hF.2⟩) ⟨(zg_pre hU).1, zg_recv hK hI h_1 rfl, (zg_pre hU).2⟩ rfl rfl hsz rfl (lv_room (Nat.le_of_ble_eq_true rfl)) zd_M_head_147 hk) rfl ?_
                  refine zg_1 (pc' := 193) (fun _ _ _ _ _ hl w => lv_goto hx hb zd_M_head_150 (by decide) w) ?_
                  refine zg_v [1, 3, 0] rfl ?_
                  exact zw_M_head_193 X hR hF hret n s_15 a0 i2 i_2 hf
            · rw [if_neg hc] at hf
              refine zg_v [1, 3, 0] rfl ?_
              exact zw_M_head_108 X hR hF hret n s0 a0 i2 i_2 hf
        · rw [if_neg hc] at hf
          refine zg_1 (pc' := 66) (fun _ _ _ _ _ hl w => lv_aload_n hx hb zd_M_head_65 rfl (lv_at hl 1 rfl) w) ?_
          refine zg_1 (pc' := 67) (fun _ _ _ _ _ hl w => lv_iconst (v := (1 : Int32)) hx hb zd_M_head_66 (by decide) w) ?_
          refine zg_1 (pc' := 68) (fun _ _ _ _ _ hl w => lv_iload_n hx hb zd_M_head_67 rfl (lv_at hl 0 rfl) w) ?_
          obtain ⟨s_16, hq, hf⟩ := zx_p hf
          refine zg_call (pc' := 71) (y := s_16) (rv := none) (rest := []) X hR (zm_M_fails hq) (fun H locs ls k j hsz hI hU hk => va_runV (As := [.int (1 : Int32), .int i_2]) (rest := []) ⟨hx, hb, hml, hown, htT⟩ (zc_M_fails l h0 D dA tb n hq) (cwV 2 htT (zw_gV zt_1011 zt_1013 zt_41 zt_71 zt_1014) rfl rfl rfl (by decide +kernel) ⟨Nat.le_trans (Nat.le_of_ble_eq_true rfl) hF.1, Nat.le_trans (Nat.le_of_ble_eq_true rfl) hF.2⟩) ⟨(zg_pre hU).1, zg_recv hK hI h_1 rfl, (zg_pre hU).2⟩ rfl rfl hsz rfl (lv_room (Nat.le_of_ble_eq_true rfl)) zd_M_head_68 hk) rfl ?_
          refine zg_1 (pc' := 193) (fun _ _ _ _ _ hl w => lv_goto hx hb zd_M_head_71 (by decide) w) ?_
          refine zg_v [1, 3, 0] rfl ?_
          exact zw_M_head_193 X hR hF hret n s_16 a0 i2 i_2 hf
      · rw [if_neg hc] at hf
        refine zg_1 (pc' := 47) (fun _ _ _ _ _ hl w => lv_aload_n hx hb zd_M_head_46 rfl (lv_at hl 1 rfl) w) ?_
        refine zg_1 (pc' := 48) (fun _ _ _ _ _ hl w => lv_iconst (v := (2 : Int32)) hx hb zd_M_head_47 (by decide) w) ?_
        refine zg_1 (pc' := 49) (fun _ _ _ _ _ hl w => lv_iload_n hx hb zd_M_head_48 rfl (lv_at hl 0 rfl) w) ?_
        obtain ⟨s_17, hq, hf⟩ := zx_p hf
        refine zg_call (pc' := 52) (y := s_17) (rv := none) (rest := []) X hR (zm_M_fails hq) (fun H locs ls k j hsz hI hU hk => va_runV (As := [.int (2 : Int32), .int i_2]) (rest := []) ⟨hx, hb, hml, hown, htT⟩ (zc_M_fails l h0 D dA tb n hq) (cwV 2 htT (zw_gV zt_1011 zt_1013 zt_41 zt_71 zt_1014) rfl rfl rfl (by decide +kernel) ⟨Nat.le_trans (Nat.le_of_ble_eq_true rfl) hF.1, Nat.le_trans (Nat.le_of_ble_eq_true rfl) hF.2⟩) ⟨(zg_pre hU).1, zg_recv hK hI h_1 rfl, (zg_pre hU).2⟩ rfl rfl hsz rfl (lv_room (Nat.le_of_ble_eq_true rfl)) zd_M_head_49 hk) rfl ?_
        refine zg_1 (pc' := 193) (fun _ _ _ _ _ hl w => lv_goto hx hb zd_M_head_52 (by decide) w) ?_
        refine zg_v [1, 3, 0] rfl ?_
        exact zw_M_head_193 X hR hF hret n s_17 a0 i2 i_2 hf
    · rw [if_neg hc] at hf
      refine zg_1 (pc' := 23) (fun _ _ _ _ _ hl w => lv_aload_n hx hb zd_M_head_22 rfl (lv_at hl 1 rfl) w) ?_
      refine zg_1 (pc' := 24) (fun _ _ _ _ _ hl w => lv_iconst (v := (1 : Int32)) hx hb zd_M_head_23 (by decide) w) ?_
      refine zg_1 (pc' := 25) (fun _ _ _ _ _ hl w => lv_aload_n hx hb zd_M_head_24 rfl (lv_at hl 1 rfl) w) ?_
      refine zg_get (pc' := 28) (ci := 8) hx hb htT zi_M hown hK h_1 rfl rfl 9 (by decide) (htT _ zt_814) (fun _ h9 => h9) rfl zd_M_head_25 rfl ?_
      obtain ⟨s_18, hq, hf⟩ := zx_p hf
      refine zg_call (pc' := 31) (y := s_18) (rv := none) (rest := []) X hR (zm_M_fails hq) (fun H locs ls k j hsz hI hU hk => va_runV (As := [.int (1 : Int32), .int (zh_I s0 a0 9)]) (rest := []) ⟨hx, hb, hml, hown, htT⟩ (zc_M_fails l h0 D dA tb n hq) (cwV 2 htT (zw_gV zt_1011 zt_1013 zt_41 zt_71 zt_1014) rfl rfl rfl (by decide +kernel) ⟨Nat.le_trans (Nat.le_of_ble_eq_true rfl) hF.1, Nat.le_trans (Nat.le_of_ble_eq_true rfl) hF.2⟩) ⟨(zg_pre hU).1, zg_recv hK hI h_1 rfl, (zg_pre hU).2⟩ rfl rfl hsz rfl (lv_room (Nat.le_of_ble_eq_true rfl)) zd_M_head_28 hk) rfl ?_
      refine zg_1 (pc' := 32) (fun _ _ _ _ _ hl w => lv_iload_n hx hb zd_M_head_31 rfl (lv_at hl 3 rfl) w) ?_
      obtain ⟨rfl, rfl⟩ := zx_r2 hf
      exact hret _ _ zd_M_head_32
  · rw [if_neg hc] at hf
    refine zg_1 (pc' := 8) (fun _ _ _ _ _ hl w => lv_iload_n hx hb zd_M_head_7 rfl (lv_at hl 2 rfl) w) ?_
    obtain ⟨rfl, rfl⟩ := zx_r2 hf
    exact hret _ _ zd_M_head_8
set_option maxHeartbeats 4000000 in
theorem zw_M_isName_80 {p : Program} {l : Launch} {e : Env} {R : Room} {s : State} {m : MethodId} {args : Array Value} {below : List Frame} {meth : Method} {c : Code} {Q : State → Prop} {h0 : Nat} {D : va_G} {dA : Nat → ClassId} {tb : Nat → Nat} {c0 k0 : Nat} {s0 : zh_S} {r : Int32} (X : zg_X p s m args meth c ze_M_isName 8 zr_M (some .boolean) h0 D dA tb) (hR : zg_R R c0 k0 s0) (hF : 1 ≤ R.frames ∧ 22 ≤ R.locals) (hret : (r = 0 ∨ r = 1) → ∀ (pc : Nat) (lv : List (Nat × Value)), decode ze_M_isName pc = .ok (.ireturn, 1) → zg_G p l e R s m args below meth c Q h0 D dA 8 c0 k0 s0 s0 pc lv [.int r]) (n : Nat) (r34 : Int64 → Int32 → Int64 → Int32 → Option Int32) (hr34 : ∀ (j0 : Int64) (i2 : Int32) (j3 : Int64) (i5 : Int32), r34 j0 i2 j3 i5 = some r → zg_G p l e R s m args below meth c Q h0 D dA 8 c0 k0 s0 s0 34 [(0, .long j0), (2, .int i2), (3, .long j3), (5, .int i5)] []) : ∀ (j0 : Int64) (i2 : Int32) (i5 : Int32) (j6 : Int64), zb_M_isName_80 n r34 j0 i2 i5 j6 = some r → zg_G p l e R s m args below meth c Q h0 D dA 8 c0 k0 s0 s0 80 [(0, .long j0), (2, .int i2), (5, .int i5), (6, .long j6)] [] := by
  obtain ⟨hx, hb, hml, hown, htT, hrt, hlk, x00, hIn⟩ := id X
  have hK := hIn.2.1
  have hT := hIn.2.2.1
  have hNe := hIn.2.2.2
  intro j0 i2 i5 j6 hf
  rw [zb_M_isName_80] at hf
  refine zg_1 (pc' := 82) (fun _ _ _ _ _ hl w => lv_lload hx hb zd_M_isName_80 (lv_at hl 3 rfl) w) ?_
  refine zg_s (pc' := 83) (lv' := [(3, .long j6), (0, .long j0), (2, .int i2), (5, .int i5), (6, .long j6)]) (fun _ _ _ _ _ hl w => lv_lstore_n hx hb zd_M_isName_82 rfl hl (by decide) rfl w) ?_
  obtain ⟨i_1, e_i_1, hf⟩ := zx_l hf
  refine zg_s (pc' := 86) (lv' := [(5, .int i_1), (3, .long j6), (0, .long j0), (2, .int i2), (6, .long j6)]) (fun _ _ _ _ _ hl w => lv_iinc (k := 3) (v := i_1) hx hb zd_M_isName_83 hl rfl (by rw [e_i_1]; rfl) (by decide) rfl w) ?_
  refine zg_1 (pc' := 34) (fun _ _ _ _ _ hl w => lv_goto hx hb zd_M_isName_86 (by decide) w) ?_
  refine zg_v [2, 3, 1, 0] rfl ?_
  exact hr34 j0 i2 j6 i_1 hf
set_option maxHeartbeats 4000000 in
theorem zw_M_isName_34 {p : Program} {l : Launch} {e : Env} {R : Room} {s : State} {m : MethodId} {args : Array Value} {below : List Frame} {meth : Method} {c : Code} {Q : State → Prop} {h0 : Nat} {D : va_G} {dA : Nat → ClassId} {tb : Nat → Nat} {c0 k0 : Nat} {s0 : zh_S} {r : Int32} (X : zg_X p s m args meth c ze_M_isName 8 zr_M (some .boolean) h0 D dA tb) (hR : zg_R R c0 k0 s0) (hF : 1 ≤ R.frames ∧ 22 ≤ R.locals) (hret : (r = 0 ∨ r = 1) → ∀ (pc : Nat) (lv : List (Nat × Value)), decode ze_M_isName pc = .ok (.ireturn, 1) → zg_G p l e R s m args below meth c Q h0 D dA 8 c0 k0 s0 s0 pc lv [.int r]) (n : Nat) (k : Nat) : ∀ (j0 : Int64) (i2 : Int32) (j3 : Int64) (i5 : Int32), zl_M_isName_34 n k j0 i2 j3 i5 = some r → zg_G p l e R s m args below meth c Q h0 D dA 8 c0 k0 s0 s0 34 [(0, .long j0), (2, .int i2), (3, .long j3), (5, .int i5)] [] := by
  obtain ⟨hx, hb, hml, hown, htT, hrt, hlk, x00, hIn⟩ := id X
  have hK := hIn.2.1
  have hT := hIn.2.2.1
  have hNe := hIn.2.2.2
  induction k with
  | zero => intro j0 i2 j3 i5 hf; cases hf
  | succ k ih =>
    intro j0 i2 j3 i5 hf
    rw [zl_M_isName_34] at hf
    refine zg_1 (pc' := 36) (fun _ _ _ _ _ hl w => lv_iload hx hb zd_M_isName_34 (lv_at hl 3 rfl) w) ?_
    refine zg_1 (pc' := 37) (fun _ _ _ _ _ hl w => lv_iload_n hx hb zd_M_isName_36 rfl (lv_at hl 1 rfl) w) ?_
    refine zg_2 (pc1 := 89) (pc2 := 40) (Classical.em _) (fun _ _ _ _ _ w1 w2 => lv_icmp_ge hx hb zd_M_isName_37 (by decide) w1 w2) (fun hc => ?_) (fun hc => ?_)
    · rw [if_pos hc] at hf
      refine zg_1 (pc' := 90) (fun _ _ _ _ _ hl w => lv_lload_n hx hb zd_M_isName_89 rfl (lv_at hl 2 rfl) w) ?_
      refine zg_1 (pc' := 93) (fun _ _ _ _ _ hl w => lv_ldc2 (v := (27 : Int64)) hx hb hown (htT _ zt_941) zd_M_isName_90 w) ?_
      refine zg_1 (pc' := 94) (fun _ _ _ _ _ hl w => W.lcmp hx hb zd_M_isName_93 w) ?_
      refine zg_2 (pc1 := 101) (pc2 := 97) (Classical.em _) (fun _ _ _ _ _ w1 w2 => lv_if_eq hx hb zd_M_isName_94 (by decide) w1 w2) (fun hc => ?_) (fun hc => ?_)
      · rw [if_pos hc] at hf
        refine zg_1 (pc' := 102) (fun _ _ _ _ _ hl w => lv_iconst (v := (0 : Int32)) hx hb zd_M_isName_101 (by decide) w) ?_
        obtain rfl := zx_r1 hf
        exact hret (Or.inl rfl) _ _ zd_M_isName_102
      · rw [if_neg hc] at hf
        refine zg_1 (pc' := 98) (fun _ _ _ _ _ hl w => lv_iconst (v := (1 : Int32)) hx hb zd_M_isName_97 (by decide) w) ?_
        refine zg_1 (pc' := 102) (fun _ _ _ _ _ hl w => lv_goto hx hb zd_M_isName_98 (by decide) w) ?_
        obtain rfl := zx_r1 hf
        exact hret (Or.inr rfl) _ _ zd_M_isName_102
    · rw [if_neg hc] at hf
      refine zg_1 (pc' := 41) (fun _ _ _ _ _ hl w => lv_lload_n hx hb zd_M_isName_40 rfl (lv_at hl 0 rfl) w) ?_
      refine zg_1 (pc' := 42) (fun _ _ _ _ _ hl w => lv_iconst (v := (5 : Int32)) hx hb zd_M_isName_41 (by decide) w) ?_
      refine zg_1 (pc' := 44) (fun _ _ _ _ _ hl w => lv_iload hx hb zd_M_isName_42 (lv_at hl 3 rfl) w) ?_
      refine zg_1 (pc' := 45) (fun _ _ _ _ _ hl w => lv_imul hx hb zd_M_isName_44 w) ?_
      refine zg_1 (pc' := 46) (fun _ _ _ _ _ hl w => lv_lshr (v := (j0 >>> (((5 : Int32) * i5).toInt64 &&& 63))) hx hb zd_M_isName_45 rfl w) ?_
      refine zg_1 (pc' := 49) (fun _ _ _ _ _ hl w => lv_ldc2 (v := (31 : Int64)) hx hb hown (htT _ zt_940) zd_M_isName_46 w) ?_
      refine zg_1 (pc' := 50) (fun _ _ _ _ _ hl w => lv_land hx hb zd_M_isName_49 w) ?_
      obtain ⟨j_1, e_j_1, hf⟩ := zx_l hf
      refine zg_tl e_j_1 ?_
      refine zg_s (pc' := 52) (lv' := [(6, .long j_1), (0, .long j0), (2, .int i2), (3, .long j3), (5, .int i5)]) (fun _ _ _ _ _ hl w => lv_lstore hx hb zd_M_isName_50 hl (by decide) rfl w) ?_
      refine zg_1 (pc' := 54) (fun _ _ _ _ _ hl w => lv_lload hx hb zd_M_isName_52 (lv_at hl 0 rfl) w) ?_
      refine zg_1 (pc' := 57) (fun _ _ _ _ _ hl w => lv_ldc2 (v := (27 : Int64)) hx hb hown (htT _ zt_941) zd_M_isName_54 w) ?_
      refine zg_1 (pc' := 58) (fun _ _ _ _ _ hl w => W.lcmp hx hb zd_M_isName_57 w) ?_
      refine zg_2 (pc1 := 78) (pc2 := 61) (Classical.em _) (fun _ _ _ _ _ w1 w2 => lv_if_gt hx hb zd_M_isName_58 (by decide) w1 w2) (fun hc => ?_) (fun hc => ?_)
      · rw [if_pos hc] at hf
        refine zg_1 (pc' := 79) (fun _ _ _ _ _ hl w => lv_iconst (v := (0 : Int32)) hx hb zd_M_isName_78 (by decide) w) ?_
        obtain rfl := zx_r1 hf
        exact hret (Or.inl rfl) _ _ zd_M_isName_79
      · rw [if_neg hc] at hf
        refine zg_1 (pc' := 63) (fun _ _ _ _ _ hl w => lv_lload hx hb zd_M_isName_61 (lv_at hl 0 rfl) w) ?_
        refine zg_1 (pc' := 66) (fun _ _ _ _ _ hl w => lv_ldc2 (v := (27 : Int64)) hx hb hown (htT _ zt_941) zd_M_isName_63 w) ?_
        refine zg_1 (pc' := 67) (fun _ _ _ _ _ hl w => W.lcmp hx hb zd_M_isName_66 w) ?_
        refine zg_2 (pc1 := 80) (pc2 := 70) (Classical.em _).symm (fun _ _ _ _ _ w1 w2 => lv_if_ne hx hb zd_M_isName_67 (by decide) w1 w2) (fun hc => ?_) (fun hc => ?_)
        · rw [if_neg hc] at hf
          refine zg_v [1, 2, 4, 0] rfl ?_
          exact zw_M_isName_80 X hR hF hret n _ ih j0 i2 i5 j_1 hf
        · rw [if_pos hc] at hf
          refine zg_1 (pc' := 71) (fun _ _ _ _ _ hl w => lv_lload_n hx hb zd_M_isName_70 rfl (lv_at hl 3 rfl) w) ?_
          refine zg_1 (pc' := 74) (fun _ _ _ _ _ hl w => lv_ldc2 (v := (27 : Int64)) hx hb hown (htT _ zt_941) zd_M_isName_71 w) ?_
          refine zg_1 (pc' := 75) (fun _ _ _ _ _ hl w => W.lcmp hx hb zd_M_isName_74 w) ?_
          refine zg_2 (pc1 := 80) (pc2 := 78) (Classical.em _).symm (fun _ _ _ _ _ w1 w2 => lv_if_ne hx hb zd_M_isName_75 (by decide) w1 w2) (fun hc => ?_) (fun hc => ?_)
          · rw [if_neg hc] at hf
            refine zg_v [1, 2, 4, 0] rfl ?_
            exact zw_M_isName_80 X hR hF hret n _ ih j0 i2 i5 j_1 hf
          · rw [if_pos hc] at hf
            refine zg_1 (pc' := 79) (fun _ _ _ _ _ hl w => lv_iconst (v := (0 : Int32)) hx hb zd_M_isName_78 (by decide) w) ?_
            obtain rfl := zx_r1 hf
            exact hret (Or.inl rfl) _ _ zd_M_isName_79
set_option maxHeartbeats 4000000 in
theorem zc_M_isName (l : Launch) (h0 : Nat) (D : va_G) (dA : Nat → ClassId) (tb : Nat → Nat) (n : Nat) {s0 : zh_S} {j0 : Int64} {r : Int32} (hf : zf_M_isName n j0 = some r) : zc_M l zn_M_isName zs_M_isName 1 22 h0 D dA tb [.long j0] s0 (some (.int r)) s0 := by
  rw [zf_M_isName] at hf
  refine zc_of (cc := ze_M_isName) (maxL := 8) (ret := (some .boolean)) (lv := [(0, .long j0)]) (by decide) rfl (Nat.le_of_ble_eq_true rfl) rfl ?_
  intro p e s m args below meth c X hnm
  obtain ⟨hx, hb, hml, hown, htT, hrt, hlk, x00, hIn⟩ := id X
  have hK := hIn.2.1
  have hT := hIn.2.2.1
  have hNe := hIn.2.2.2
  have hR : zg_R { frames := 1, cells := zh_N s0 - zh_N s0, slots := zh_M s0 - zh_M s0, locals := 22 } (zh_N s0) (zh_M s0) s0 := ⟨by show zh_N s0 ≤ zh_N s0 + (zh_N s0 - zh_N s0); omega, by show zh_M s0 ≤ zh_M s0 + (zh_M s0 - zh_M s0); omega⟩
  have hF : 1 ≤ ({ frames := 1, cells := zh_N s0 - zh_N s0, slots := zh_M s0 - zh_M s0, locals := 22 } : Room).frames ∧ 22 ≤ ({ frames := 1, cells := zh_N s0 - zh_N s0, slots := zh_M s0 - zh_M s0, locals := 22 } : Room).locals := ⟨Nat.le_refl _, Nat.le_refl _⟩
  have hret := fun (hz : r = 0 ∨ r = 1) (pc : Nat) (lv : List (Nat × Value)) (hd : decode ze_M_isName pc = .ok (.ireturn, 1)) => zg_iret (R := { frames := 1, cells := zh_N s0 - zh_N s0, slots := zh_M s0 - zh_M s0, locals := 22 }) (l := l) (e := e) (below := below) (c0 := zh_N s0) (s0 := zh_M s0) (z := s0) (lv := lv) (v := r) X (zx_nz hz) hd
  refine zg_1 (pc' := 1) (fun _ _ _ _ _ hl w => lv_lload_n hx hb zd_M_isName_0 rfl (lv_at hl 0 rfl) w) ?_
  obtain ⟨i_1, hq, hf⟩ := zx_p hf
  refine zg_call (pc' := 4) (y := s0) (rv := (some (.int i_1))) (rest := []) X hR ⟨Nat.le_refl _, Nat.le_refl _⟩ (fun H locs ls k j hsz hI hU hk => va_runS (As := [.long j0]) (rest := []) ⟨hx, hb, hml, hown, htT⟩ (zc_M_letters l h0 D dA tb n hq) (va_cwS 1 htT (zw_gS zt_937 zt_938 zt_71 zt_939) rfl rfl rfl (by decide +kernel) ⟨Nat.le_trans (Nat.le_of_ble_eq_true rfl) hF.1, Nat.le_trans (Nat.le_of_ble_eq_true rfl) hF.2⟩) (zg_pre hU) rfl rfl hsz rfl (lv_room (Nat.le_of_ble_eq_true rfl)) zd_M_isName_1 hk) rfl ?_
  refine zg_s (pc' := 5) (lv' := [(2, .int i_1), (0, .long j0)]) (fun _ _ _ _ _ hl w => lv_istore_n hx hb zd_M_isName_4 rfl hl (by decide) rfl w) ?_
  refine zg_1 (pc' := 6) (fun _ _ _ _ _ hl w => lv_iload_n hx hb zd_M_isName_5 rfl (lv_at hl 0 rfl) w) ?_
  refine zg_2 (pc1 := 25) (pc2 := 9) (Classical.em _) (fun _ _ _ _ _ w1 w2 => lv_if_eq hx hb zd_M_isName_6 (by decide) w1 w2) (fun hc => ?_) (fun hc => ?_)
  · rw [if_pos hc] at hf
    refine zg_1 (pc' := 26) (fun _ _ _ _ _ hl w => lv_iconst (v := (0 : Int32)) hx hb zd_M_isName_25 (by decide) w) ?_
    obtain rfl := zx_r1 hf
    exact hret (Or.inl rfl) _ _ zd_M_isName_26
  · rw [if_neg hc] at hf
    refine zg_1 (pc' := 10) (fun _ _ _ _ _ hl w => lv_lload_n hx hb zd_M_isName_9 rfl (lv_at hl 1 rfl) w) ?_
    refine zg_1 (pc' := 11) (fun _ _ _ _ _ hl w => lv_lconst (v := (0 : Int64)) hx hb zd_M_isName_10 (by decide) w) ?_
    refine zg_1 (pc' := 12) (fun _ _ _ _ _ hl w => W.lcmp hx hb zd_M_isName_11 w) ?_
    refine zg_2 (pc1 := 25) (pc2 := 15) (Classical.em _) (fun _ _ _ _ _ w1 w2 => lv_if_lt hx hb zd_M_isName_12 (by decide) w1 w2) (fun hc => ?_) (fun hc => ?_)
    · rw [if_pos hc] at hf
      refine zg_1 (pc' := 26) (fun _ _ _ _ _ hl w => lv_iconst (v := (0 : Int32)) hx hb zd_M_isName_25 (by decide) w) ?_
      obtain rfl := zx_r1 hf
      exact hret (Or.inl rfl) _ _ zd_M_isName_26
    · rw [if_neg hc] at hf
      refine zg_1 (pc' := 16) (fun _ _ _ _ _ hl w => lv_lload_n hx hb zd_M_isName_15 rfl (lv_at hl 1 rfl) w) ?_
      refine zg_1 (pc' := 17) (fun _ _ _ _ _ hl w => lv_iconst (v := (5 : Int32)) hx hb zd_M_isName_16 (by decide) w) ?_
      refine zg_1 (pc' := 18) (fun _ _ _ _ _ hl w => lv_iload_n hx hb zd_M_isName_17 rfl (lv_at hl 0 rfl) w) ?_
      refine zg_1 (pc' := 19) (fun _ _ _ _ _ hl w => lv_imul hx hb zd_M_isName_18 w) ?_
      refine zg_1 (pc' := 20) (fun _ _ _ _ _ hl w => lv_lshr (v := (j0 >>> (((5 : Int32) * i_1).toInt64 &&& 63))) hx hb zd_M_isName_19 rfl w) ?_
      refine zg_1 (pc' := 21) (fun _ _ _ _ _ hl w => lv_lconst (v := (0 : Int64)) hx hb zd_M_isName_20 (by decide) w) ?_
      refine zg_1 (pc' := 22) (fun _ _ _ _ _ hl w => W.lcmp hx hb zd_M_isName_21 w) ?_
      refine zg_2 (pc1 := 27) (pc2 := 25) (Classical.em _) (fun _ _ _ _ _ w1 w2 => lv_if_eq hx hb zd_M_isName_22 (by decide) w1 w2) (fun hc => ?_) (fun hc => ?_)
      · rw [if_pos hc] at hf
        refine zg_1 (pc' := 30) (fun _ _ _ _ _ hl w => lv_ldc2 (v := (27 : Int64)) hx hb hown (htT _ zt_941) zd_M_isName_27 w) ?_
        refine zg_s (pc' := 31) (lv' := [(3, .long (27 : Int64)), (2, .int i_1), (0, .long j0)]) (fun _ _ _ _ _ hl w => lv_lstore_n hx hb zd_M_isName_30 rfl hl (by decide) rfl w) ?_
        refine zg_1 (pc' := 32) (fun _ _ _ _ _ hl w => lv_iconst (v := (0 : Int32)) hx hb zd_M_isName_31 (by decide) w) ?_
        refine zg_s (pc' := 34) (lv' := [(5, .int (0 : Int32)), (3, .long (27 : Int64)), (2, .int i_1), (0, .long j0)]) (fun _ _ _ _ _ hl w => lv_istore hx hb zd_M_isName_32 hl (by decide) rfl w) ?_
        refine zg_v [3, 2, 1, 0] rfl ?_
        exact zw_M_isName_34 X hR hF hret n n j0 i_1 (27 : Int64) (0 : Int32) hf
      · rw [if_neg hc] at hf
        refine zg_1 (pc' := 26) (fun _ _ _ _ _ hl w => lv_iconst (v := (0 : Int32)) hx hb zd_M_isName_25 (by decide) w) ?_
        obtain rfl := zx_r1 hf
        exact hret (Or.inl rfl) _ _ zd_M_isName_26
set_option maxHeartbeats 4000000 in
theorem zw_M_title_164 {p : Program} {l : Launch} {e : Env} {R : Room} {s : State} {m : MethodId} {args : Array Value} {below : List Frame} {meth : Method} {c : Code} {Q : State → Prop} {h0 : Nat} {D : va_G} {dA : Nat → ClassId} {tb : Nat → Nat} {c0 k0 : Nat} {z : zh_S} {r : Int64} (X : zg_X p s m args meth c ze_M_title 10 zr_M (some .long) h0 D dA tb) (hR : zg_R R c0 k0 z) (hF : 2 ≤ R.frames ∧ 49 ≤ R.locals) (hret : ∀ (pc : Nat) (lv : List (Nat × Value)), decode ze_M_title pc = .ok (.lreturn, 1) → zg_G p l e R s m args below meth c Q h0 D dA 10 c0 k0 z z pc lv [.long r]) (n : Nat) : ∀ (s0 : zh_S) (a0 : Nat) (i4 : Int32) (j6 : Int64), zb_M_title_164 n s0 a0 i4 j6 = some (r, z) → zg_G p l e R s m args below meth c Q h0 D dA 10 c0 k0 z s0 164 [(0, .ref (h0 + a0)), (4, .int i4), (6, .long j6)] [] := by
  obtain ⟨hx, hb, hml, hown, htT, hrt, hlk, x00, hIn⟩ := id X
  have hK := hIn.2.1
  have hT := hIn.2.2.1
  have hNe := hIn.2.2.2
  intro s0 a0 i4 j6 hf
  rw [zb_M_title_164] at hf
  refine zg_1 (pc' := 165) (fun _ _ _ _ _ hl w => lv_aload_n hx hb zd_M_title_164 rfl (lv_at hl 0 rfl) w) ?_
  refine zg_1 (pc' := 167) (fun _ _ _ _ _ hl w => lv_iload hx hb zd_M_title_165 (lv_at hl 1 rfl) w) ?_
  obtain ⟨h_2, hf⟩ := zx_ck hf
  obtain ⟨s_1, e_s_1, hf⟩ := zx_l hf
  refine zg_putI (pc' := 170) (ci := 8) (ty := .int) hx hb htT zi_M zy_M zo_M zj_M hown hK h_2 rfl rfl 9 (by decide) (htT _ zt_814) (fun _ h9 => h9) (Or.inl rfl) (by decide +kernel) rfl rfl rfl e_s_1 zd_M_title_167 rfl ?_
  refine zg_1 (pc' := 172) (fun _ _ _ _ _ hl w => lv_lload hx hb zd_M_title_170 (lv_at hl 2 rfl) w) ?_
  obtain ⟨rfl, rfl⟩ := zx_r2 hf
  exact hret _ _ zd_M_title_172
set_option maxHeartbeats 4000000 in
theorem zw_M_title_158 {p : Program} {l : Launch} {e : Env} {R : Room} {s : State} {m : MethodId} {args : Array Value} {below : List Frame} {meth : Method} {c : Code} {Q : State → Prop} {h0 : Nat} {D : va_G} {dA : Nat → ClassId} {tb : Nat → Nat} {c0 k0 : Nat} {z : zh_S} {r : Int64} (X : zg_X p s m args meth c ze_M_title 10 zr_M (some .long) h0 D dA tb) (hR : zg_R R c0 k0 z) (hF : 2 ≤ R.frames ∧ 49 ≤ R.locals) (hret : ∀ (pc : Nat) (lv : List (Nat × Value)), decode ze_M_title pc = .ok (.lreturn, 1) → zg_G p l e R s m args below meth c Q h0 D dA 10 c0 k0 z z pc lv [.long r]) (n : Nat) : ∀ (s0 : zh_S) (a0 : Nat) (i3 : Int32) (i4 : Int32) (j6 : Int64), zb_M_title_158 n s0 a0 i3 i4 j6 = some (r, z) → zg_G p l e R s m args below meth c Q h0 D dA 10 c0 k0 z s0 158 [(0, .ref (h0 + a0)), (3, .int i3), (4, .int i4), (6, .long j6)] [] := by
  obtain ⟨hx, hb, hml, hown, htT, hrt, hlk, x00, hIn⟩ := id X
  have hK := hIn.2.1
  have hT := hIn.2.2.1
  have hNe := hIn.2.2.2
  intro s0 a0 i3 i4 j6 hf
  rw [zb_M_title_158] at hf
  refine zg_1 (pc' := 159) (fun _ _ _ _ _ hl w => lv_aload_n hx hb zd_M_title_158 rfl (lv_at hl 0 rfl) w) ?_
  refine zg_1 (pc' := 160) (fun _ _ _ _ _ hl w => lv_iconst (v := (4 : Int32)) hx hb zd_M_title_159 (by decide) w) ?_
  refine zg_1 (pc' := 161) (fun _ _ _ _ _ hl w => lv_iload_n hx hb zd_M_title_160 rfl (lv_at hl 1 rfl) w) ?_
  obtain ⟨h_2, hf⟩ := zx_ck hf
  obtain ⟨s_1, hq, hf⟩ := zx_p hf
  refine zg_call (pc' := 164) (y := s_1) (rv := none) (rest := []) X hR (zm_M_fails hq) (fun H locs ls k j hsz hI hU hk => va_runV (As := [.int (4 : Int32), .int i3]) (rest := []) ⟨hx, hb, hml, hown, htT⟩ (zc_M_fails l h0 D dA tb n hq) (cwV 2 htT (zw_gV zt_1011 zt_1013 zt_41 zt_71 zt_1014) rfl rfl rfl (by decide +kernel) ⟨Nat.le_trans (Nat.le_of_ble_eq_true rfl) hF.1, Nat.le_trans (Nat.le_of_ble_eq_true rfl) hF.2⟩) ⟨(zg_pre hU).1, zg_recv hK hI h_2 rfl, (zg_pre hU).2⟩ rfl rfl hsz rfl (lv_room (Nat.le_of_ble_eq_true rfl)) zd_M_title_161 hk) rfl ?_
  refine zg_v [0, 2, 3] rfl ?_
  exact zw_M_title_164 X hR hF hret n s_1 a0 i4 j6 hf
set_option maxHeartbeats 4000000 in
theorem zw_M_title_145 {p : Program} {l : Launch} {e : Env} {R : Room} {s : State} {m : MethodId} {args : Array Value} {below : List Frame} {meth : Method} {c : Code} {Q : State → Prop} {h0 : Nat} {D : va_G} {dA : Nat → ClassId} {tb : Nat → Nat} {c0 k0 : Nat} {z : zh_S} {r : Int64} (X : zg_X p s m args meth c ze_M_title 10 zr_M (some .long) h0 D dA tb) (hR : zg_R R c0 k0 z) (hF : 2 ≤ R.frames ∧ 49 ≤ R.locals) (hret : ∀ (pc : Nat) (lv : List (Nat × Value)), decode ze_M_title pc = .ok (.lreturn, 1) → zg_G p l e R s m args below meth c Q h0 D dA 10 c0 k0 z z pc lv [.long r]) (n : Nat) : ∀ (s0 : zh_S) (a0 : Nat) (i3 : Int32) (i4 : Int32) (i5 : Int32) (j6 : Int64), zb_M_title_145 n s0 a0 i3 i4 i5 j6 = some (r, z) → zg_G p l e R s m args below meth c Q h0 D dA 10 c0 k0 z s0 145 [(0, .ref (h0 + a0)), (3, .int i3), (4, .int i4), (5, .int i5), (6, .long j6)] [] := by
  obtain ⟨hx, hb, hml, hown, htT, hrt, hlk, x00, hIn⟩ := id X
  have hK := hIn.2.1
  have hT := hIn.2.2.1
  have hNe := hIn.2.2.2
  intro s0 a0 i3 i4 i5 j6 hf
  rw [zb_M_title_145] at hf
  refine zg_1 (pc' := 147) (fun _ _ _ _ _ hl w => lv_iload hx hb zd_M_title_145 (lv_at hl 3 rfl) w) ?_
  refine zg_2 (pc1 := 158) (pc2 := 150) (Classical.em _) (fun _ _ _ _ _ w1 w2 => lv_if_eq hx hb zd_M_title_147 (by decide) w1 w2) (fun hc => ?_) (fun hc => ?_)
  · rw [if_pos hc] at hf
    refine zg_v [0, 1, 2, 4] rfl ?_
    exact zw_M_title_158 X hR hF hret n s0 a0 i3 i4 j6 hf
  · rw [if_neg hc] at hf
    refine zg_1 (pc' := 152) (fun _ _ _ _ _ hl w => lv_lload hx hb zd_M_title_150 (lv_at hl 4 rfl) w) ?_
    obtain ⟨i_1, hq, hf⟩ := zx_p hf
    refine zg_call (pc' := 155) (y := s0) (rv := (some (.int i_1))) (rest := []) X hR ⟨Nat.le_refl _, Nat.le_refl _⟩ (fun H locs ls k j hsz hI hU hk => va_runS (As := [.long j6]) (rest := []) ⟨hx, hb, hml, hown, htT⟩ (zc_M_isName l h0 D dA tb n hq) (va_cwS 1 htT (zw_gS zt_934 zt_935 zt_71 zt_936) rfl rfl rfl (by decide +kernel) ⟨Nat.le_trans (Nat.le_of_ble_eq_true rfl) hF.1, Nat.le_trans (Nat.le_of_ble_eq_true rfl) hF.2⟩) (zg_pre hU) rfl rfl hsz rfl (lv_room (Nat.le_of_ble_eq_true rfl)) zd_M_title_152 hk) rfl ?_
    refine zg_2 (pc1 := 164) (pc2 := 158) (Classical.em _).symm (fun _ _ _ _ _ w1 w2 => lv_if_ne hx hb zd_M_title_155 (by decide) w1 w2) (fun hc => ?_) (fun hc => ?_)
    · rw [if_neg hc] at hf
      refine zg_v [0, 2, 4] rfl ?_
      exact zw_M_title_164 X hR hF hret n s0 a0 i4 j6 hf
    · rw [if_pos hc] at hf
      refine zg_v [0, 1, 2, 4] rfl ?_
      exact zw_M_title_158 X hR hF hret n s0 a0 i3 i4 j6 hf
set_option maxHeartbeats 4000000 in
theorem zw_M_title_119 {p : Program} {l : Launch} {e : Env} {R : Room} {s : State} {m : MethodId} {args : Array Value} {below : List Frame} {meth : Method} {c : Code} {Q : State → Prop} {h0 : Nat} {D : va_G} {dA : Nat → ClassId} {tb : Nat → Nat} {c0 k0 : Nat} {z : zh_S} {r : Int64} (X : zg_X p s m args meth c ze_M_title 10 zr_M (some .long) h0 D dA tb) (hR : zg_R R c0 k0 z) (hF : 2 ≤ R.frames ∧ 49 ≤ R.locals) (hret : ∀ (pc : Nat) (lv : List (Nat × Value)), decode ze_M_title pc = .ok (.lreturn, 1) → zg_G p l e R s m args below meth c Q h0 D dA 10 c0 k0 z z pc lv [.long r]) (n : Nat) (r48 : zh_S → Nat → Int32 → Int32 → Int32 → Int64 → Int32 → Option (Int64 × zh_S)) (hr48 : ∀ (s0 : zh_S) (a0 : Nat) (i3 : Int32) (i4 : Int32) (i5 : Int32) (j6 : Int64) (i8 : Int32), r48 s0 a0 i3 i4 i5 j6 i8 = some (r, z) → zg_G p l e R s m args below meth c Q h0 D dA 10 c0 k0 z s0 48 [(0, .ref (h0 + a0)), (3, .int i3), (4, .int i4), (5, .int i5), (6, .long j6), (8, .int i8)] []) : ∀ (s0 : zh_S) (a0 : Nat) (i3 : Int32) (i4 : Int32) (j6 : Int64) (i8 : Int32) (i9 : Int32) (it0 : Int32), zb_M_title_119 n r48 s0 a0 i3 i4 j6 i8 i9 it0 = some (r, z) → zg_G p l e R s m args below meth c Q h0 D dA 10 c0 k0 z s0 119 [(0, .ref (h0 + a0)), (3, .int i3), (4, .int i4), (6, .long j6), (8, .int i8), (9, .int i9)] [.int it0] := by
  obtain ⟨hx, hb, hml, hown, htT, hrt, hlk, x00, hIn⟩ := id X
  have hK := hIn.2.1
  have hT := hIn.2.2.1
  have hNe := hIn.2.2.2
  intro s0 a0 i3 i4 j6 i8 i9 it0 hf
  rw [zb_M_title_119] at hf
  refine zg_s (pc' := 121) (lv' := [(5, .int it0), (0, .ref (h0 + a0)), (3, .int i3), (4, .int i4), (6, .long j6), (8, .int i8), (9, .int i9)]) (fun _ _ _ _ _ hl w => lv_istore hx hb zd_M_title_119 hl (by decide) rfl w) ?_
  refine zg_1 (pc' := 123) (fun _ _ _ _ _ hl w => lv_lload hx hb zd_M_title_121 (lv_at hl 4 rfl) w) ?_
  refine zg_1 (pc' := 125) (fun _ _ _ _ _ hl w => lv_iload hx hb zd_M_title_123 (lv_at hl 6 rfl) w) ?_
  refine zg_1 (pc' := 126) (fun _ _ _ _ _ hl w => lv_i2l (v := i9.toInt64) hx hb zd_M_title_125 rfl w) ?_
  refine zg_1 (pc' := 127) (fun _ _ _ _ _ hl w => lv_iconst (v := (5 : Int32)) hx hb zd_M_title_126 (by decide) w) ?_
  refine zg_1 (pc' := 129) (fun _ _ _ _ _ hl w => lv_iload hx hb zd_M_title_127 (lv_at hl 5 rfl) w) ?_
  refine zg_1 (pc' := 130) (fun _ _ _ _ _ hl w => lv_aload_n hx hb zd_M_title_129 rfl (lv_at hl 1 rfl) w) ?_
  obtain ⟨h_1, hf⟩ := zx_ck hf
  refine zg_get (pc' := 133) (ci := 8) hx hb htT zi_M hown hK h_1 rfl rfl 9 (by decide) (htT _ zt_814) (fun _ h9 => h9) rfl zd_M_title_130 rfl ?_
  refine zg_1 (pc' := 134) (fun _ _ _ _ _ hl w => lv_isub hx hb zd_M_title_133 w) ?_
  refine zg_1 (pc' := 135) (fun _ _ _ _ _ hl w => lv_imul hx hb zd_M_title_134 w) ?_
  refine zg_1 (pc' := 136) (fun _ _ _ _ _ hl w => lv_lshl (v := (i9.toInt64 <<< (((5 : Int32) * (i8 - (zh_I s0 a0 9))).toInt64 &&& 63))) hx hb zd_M_title_135 rfl w) ?_
  refine zg_1 (pc' := 137) (fun _ _ _ _ _ hl w => lv_lor hx hb zd_M_title_136 w) ?_
  obtain ⟨j_2, e_j_2, hf⟩ := zx_l hf
  refine zg_tl e_j_2 ?_
  refine zg_s (pc' := 139) (lv' := [(6, .long j_2), (5, .int it0), (0, .ref (h0 + a0)), (3, .int i3), (4, .int i4), (8, .int i8), (9, .int i9)]) (fun _ _ _ _ _ hl w => lv_lstore hx hb zd_M_title_137 hl (by decide) rfl w) ?_
  obtain ⟨i_3, e_i_3, hf⟩ := zx_l hf
  refine zg_s (pc' := 142) (lv' := [(8, .int i_3), (6, .long j_2), (5, .int it0), (0, .ref (h0 + a0)), (3, .int i3), (4, .int i4), (9, .int i9)]) (fun _ _ _ _ _ hl w => lv_iinc (k := 5) (v := i_3) hx hb zd_M_title_139 hl rfl (by rw [e_i_3]; rfl) (by decide) rfl w) ?_
  refine zg_1 (pc' := 48) (fun _ _ _ _ _ hl w => lv_goto hx hb zd_M_title_142 (by decide) w) ?_
  refine zg_v [3, 4, 5, 2, 1, 0] rfl ?_
  exact hr48 s0 a0 i3 i4 it0 j_2 i_3 hf
set_option maxHeartbeats 4000000 in
theorem zw_M_title_118 {p : Program} {l : Launch} {e : Env} {R : Room} {s : State} {m : MethodId} {args : Array Value} {below : List Frame} {meth : Method} {c : Code} {Q : State → Prop} {h0 : Nat} {D : va_G} {dA : Nat → ClassId} {tb : Nat → Nat} {c0 k0 : Nat} {z : zh_S} {r : Int64} (X : zg_X p s m args meth c ze_M_title 10 zr_M (some .long) h0 D dA tb) (hR : zg_R R c0 k0 z) (hF : 2 ≤ R.frames ∧ 49 ≤ R.locals) (hret : ∀ (pc : Nat) (lv : List (Nat × Value)), decode ze_M_title pc = .ok (.lreturn, 1) → zg_G p l e R s m args below meth c Q h0 D dA 10 c0 k0 z z pc lv [.long r]) (n : Nat) (r48 : zh_S → Nat → Int32 → Int32 → Int32 → Int64 → Int32 → Option (Int64 × zh_S)) (hr48 : ∀ (s0 : zh_S) (a0 : Nat) (i3 : Int32) (i4 : Int32) (i5 : Int32) (j6 : Int64) (i8 : Int32), r48 s0 a0 i3 i4 i5 j6 i8 = some (r, z) → zg_G p l e R s m args below meth c Q h0 D dA 10 c0 k0 z s0 48 [(0, .ref (h0 + a0)), (3, .int i3), (4, .int i4), (5, .int i5), (6, .long j6), (8, .int i8)] []) : ∀ (s0 : zh_S) (a0 : Nat) (i3 : Int32) (i4 : Int32) (j6 : Int64) (i8 : Int32) (i9 : Int32), zb_M_title_118 n r48 s0 a0 i3 i4 j6 i8 i9 = some (r, z) → zg_G p l e R s m args below meth c Q h0 D dA 10 c0 k0 z s0 118 [(0, .ref (h0 + a0)), (3, .int i3), (4, .int i4), (6, .long j6), (8, .int i8), (9, .int i9)] [] := by
  obtain ⟨hx, hb, hml, hown, htT, hrt, hlk, x00, hIn⟩ := id X
  have hK := hIn.2.1
  have hT := hIn.2.2.1
  have hNe := hIn.2.2.2
  intro s0 a0 i3 i4 j6 i8 i9 hf
  rw [zb_M_title_118] at hf
  refine zg_1 (pc' := 119) (fun _ _ _ _ _ hl w => lv_iconst (v := (0 : Int32)) hx hb zd_M_title_118 (by decide) w) ?_
  exact zw_M_title_119 X hR hF hret n _ hr48 s0 a0 i3 i4 j6 i8 i9 (0 : Int32) hf
set_option maxHeartbeats 4000000 in
theorem zw_M_title_87 {p : Program} {l : Launch} {e : Env} {R : Room} {s : State} {m : MethodId} {args : Array Value} {below : List Frame} {meth : Method} {c : Code} {Q : State → Prop} {h0 : Nat} {D : va_G} {dA : Nat → ClassId} {tb : Nat → Nat} {c0 k0 : Nat} {z : zh_S} {r : Int64} (X : zg_X p s m args meth c ze_M_title 10 zr_M (some .long) h0 D dA tb) (hR : zg_R R c0 k0 z) (hF : 2 ≤ R.frames ∧ 49 ≤ R.locals) (hret : ∀ (pc : Nat) (lv : List (Nat × Value)), decode ze_M_title pc = .ok (.lreturn, 1) → zg_G p l e R s m args below meth c Q h0 D dA 10 c0 k0 z z pc lv [.long r]) (n : Nat) (r48 : zh_S → Nat → Int32 → Int32 → Int32 → Int64 → Int32 → Option (Int64 × zh_S)) (hr48 : ∀ (s0 : zh_S) (a0 : Nat) (i3 : Int32) (i4 : Int32) (i5 : Int32) (j6 : Int64) (i8 : Int32), r48 s0 a0 i3 i4 i5 j6 i8 = some (r, z) → zg_G p l e R s m args below meth c Q h0 D dA 10 c0 k0 z s0 48 [(0, .ref (h0 + a0)), (3, .int i3), (4, .int i4), (5, .int i5), (6, .long j6), (8, .int i8)] []) : ∀ (s0 : zh_S) (a0 : Nat) (i3 : Int32) (i4 : Int32) (j6 : Int64) (i8 : Int32) (it0 : Int32), zb_M_title_87 n r48 s0 a0 i3 i4 j6 i8 it0 = some (r, z) → zg_G p l e R s m args below meth c Q h0 D dA 10 c0 k0 z s0 87 [(0, .ref (h0 + a0)), (3, .int i3), (4, .int i4), (6, .long j6), (8, .int i8)] [.int it0] := by
  obtain ⟨hx, hb, hml, hown, htT, hrt, hlk, x00, hIn⟩ := id X
  have hK := hIn.2.1
  have hT := hIn.2.2.1
  have hNe := hIn.2.2.2
  intro s0 a0 i3 i4 j6 i8 it0 hf
  rw [zb_M_title_87] at hf
  refine zg_s (pc' := 89) (lv' := [(9, .int it0), (0, .ref (h0 + a0)), (3, .int i3), (4, .int i4), (6, .long j6), (8, .int i8)]) (fun _ _ _ _ _ hl w => lv_istore hx hb zd_M_title_87 hl (by decide) rfl w) ?_
  refine zg_1 (pc' := 91) (fun _ _ _ _ _ hl w => lv_iload hx hb zd_M_title_89 (lv_at hl 0 rfl) w) ?_
  refine zg_1 (pc' := 92) (fun _ _ _ _ _ hl w => lv_iconst (v := (1 : Int32)) hx hb zd_M_title_91 (by decide) w) ?_
  refine zg_2 (pc1 := 118) (pc2 := 95) (Classical.em _) (fun _ _ _ _ _ w1 w2 => lv_icmp_lt hx hb zd_M_title_92 (by decide) w1 w2) (fun hc => ?_) (fun hc => ?_)
  · rw [if_pos hc] at hf
    refine zg_v [1, 2, 3, 4, 5, 0] rfl ?_
    exact zw_M_title_118 X hR hF hret n _ hr48 s0 a0 i3 i4 j6 i8 it0 hf
  · rw [if_neg hc] at hf
    refine zg_1 (pc' := 97) (fun _ _ _ _ _ hl w => lv_iload hx hb zd_M_title_95 (lv_at hl 0 rfl) w) ?_
    refine zg_1 (pc' := 99) (fun _ _ _ _ _ hl w => lv_bipush (v := (27 : Int32)) hx hb zd_M_title_97 (by decide) w) ?_
    refine zg_2 (pc1 := 118) (pc2 := 102) (Classical.em _) (fun _ _ _ _ _ w1 w2 => lv_icmp_gt hx hb zd_M_title_99 (by decide) w1 w2) (fun hc => ?_) (fun hc => ?_)
    · rw [if_pos hc] at hf
      refine zg_v [1, 2, 3, 4, 5, 0] rfl ?_
      exact zw_M_title_118 X hR hF hret n _ hr48 s0 a0 i3 i4 j6 i8 it0 hf
    · rw [if_neg hc] at hf
      refine zg_1 (pc' := 103) (fun _ _ _ _ _ hl w => lv_aload_n hx hb zd_M_title_102 rfl (lv_at hl 1 rfl) w) ?_
      obtain ⟨h_1, hf⟩ := zx_ck hf
      obtain ⟨a_2, h_3, hf⟩ := zx_p hf
      refine zg_get (pc' := 106) (ci := 8) hx hb htT zi_M hown hK h_1 rfl rfl 0 (by decide) (htT _ zt_805) (fun _ h9 => h9) (zx_hv h_3) zd_M_title_103 rfl ?_
      refine zg_1 (pc' := 108) (fun _ _ _ _ _ hl w => lv_iload hx hb zd_M_title_106 (lv_at hl 5 rfl) w) ?_
      obtain ⟨h_4, hf⟩ := zx_ck hf
      refine zg_iald (pc' := 109) hx hb hK h_4 zd_M_title_108 rfl ?_
      refine zg_1 (pc' := 111) (fun _ _ _ _ _ hl w => lv_bipush (v := (123 : Int32)) hx hb zd_M_title_109 (by decide) w) ?_
      refine zg_2 (pc1 := 118) (pc2 := 114) (Classical.em _) (fun _ _ _ _ _ w1 w2 => lv_icmp_eq hx hb zd_M_title_111 (by decide) w1 w2) (fun hc => ?_) (fun hc => ?_)
      · rw [if_pos hc] at hf
        refine zg_v [1, 2, 3, 4, 5, 0] rfl ?_
        exact zw_M_title_118 X hR hF hret n _ hr48 s0 a0 i3 i4 j6 i8 it0 hf
      · rw [if_neg hc] at hf
        refine zg_1 (pc' := 115) (fun _ _ _ _ _ hl w => lv_iconst (v := (1 : Int32)) hx hb zd_M_title_114 (by decide) w) ?_
        refine zg_1 (pc' := 119) (fun _ _ _ _ _ hl w => lv_goto hx hb zd_M_title_115 (by decide) w) ?_
        refine zg_v [1, 2, 3, 4, 5, 0] rfl ?_
        exact zw_M_title_119 X hR hF hret n _ hr48 s0 a0 i3 i4 j6 i8 it0 (1 : Int32) hf
set_option maxHeartbeats 4000000 in
theorem zw_M_title_48 {p : Program} {l : Launch} {e : Env} {R : Room} {s : State} {m : MethodId} {args : Array Value} {below : List Frame} {meth : Method} {c : Code} {Q : State → Prop} {h0 : Nat} {D : va_G} {dA : Nat → ClassId} {tb : Nat → Nat} {c0 k0 : Nat} {z : zh_S} {r : Int64} (X : zg_X p s m args meth c ze_M_title 10 zr_M (some .long) h0 D dA tb) (hR : zg_R R c0 k0 z) (hF : 2 ≤ R.frames ∧ 49 ≤ R.locals) (hret : ∀ (pc : Nat) (lv : List (Nat × Value)), decode ze_M_title pc = .ok (.lreturn, 1) → zg_G p l e R s m args below meth c Q h0 D dA 10 c0 k0 z z pc lv [.long r]) (n : Nat) (k : Nat) : ∀ (s0 : zh_S) (a0 : Nat) (i3 : Int32) (i4 : Int32) (i5 : Int32) (j6 : Int64) (i8 : Int32), zl_M_title_48 n k s0 a0 i3 i4 i5 j6 i8 = some (r, z) → zg_G p l e R s m args below meth c Q h0 D dA 10 c0 k0 z s0 48 [(0, .ref (h0 + a0)), (3, .int i3), (4, .int i4), (5, .int i5), (6, .long j6), (8, .int i8)] [] := by
  obtain ⟨hx, hb, hml, hown, htT, hrt, hlk, x00, hIn⟩ := id X
  have hK := hIn.2.1
  have hT := hIn.2.2.1
  have hNe := hIn.2.2.2
  induction k with
  | zero => intro s0 a0 i3 i4 i5 j6 i8 hf; cases hf
  | succ k ih =>
    intro s0 a0 i3 i4 i5 j6 i8 hf
    rw [zl_M_title_48] at hf
    refine zg_1 (pc' := 50) (fun _ _ _ _ _ hl w => lv_iload hx hb zd_M_title_48 (lv_at hl 5 rfl) w) ?_
    refine zg_1 (pc' := 52) (fun _ _ _ _ _ hl w => lv_iload hx hb zd_M_title_50 (lv_at hl 2 rfl) w) ?_
    refine zg_2 (pc1 := 145) (pc2 := 55) (Classical.em _) (fun _ _ _ _ _ w1 w2 => lv_icmp_ge hx hb zd_M_title_52 (by decide) w1 w2) (fun hc => ?_) (fun hc => ?_)
    · rw [if_pos hc] at hf
      refine zg_v [0, 1, 2, 3, 4] rfl ?_
      exact zw_M_title_145 X hR hF hret n s0 a0 i3 i4 i5 j6 hf
    · rw [if_neg hc] at hf
      refine zg_1 (pc' := 57) (fun _ _ _ _ _ hl w => lv_iload hx hb zd_M_title_55 (lv_at hl 3 rfl) w) ?_
      refine zg_2 (pc1 := 145) (pc2 := 60) (Classical.em _) (fun _ _ _ _ _ w1 w2 => lv_if_eq hx hb zd_M_title_57 (by decide) w1 w2) (fun hc => ?_) (fun hc => ?_)
      · rw [if_pos hc] at hf
        refine zg_v [0, 1, 2, 3, 4] rfl ?_
        exact zw_M_title_145 X hR hF hret n s0 a0 i3 i4 i5 j6 hf
      · rw [if_neg hc] at hf
        refine zg_1 (pc' := 61) (fun _ _ _ _ _ hl w => lv_aload_n hx hb zd_M_title_60 rfl (lv_at hl 0 rfl) w) ?_
        obtain ⟨h_1, hf⟩ := zx_ck hf
        obtain ⟨a_2, h_3, hf⟩ := zx_p hf
        refine zg_get (pc' := 64) (ci := 8) hx hb htT zi_M hown hK h_1 rfl rfl 0 (by decide) (htT _ zt_805) (fun _ h9 => h9) (zx_hv h_3) zd_M_title_61 rfl ?_
        refine zg_1 (pc' := 66) (fun _ _ _ _ _ hl w => lv_iload hx hb zd_M_title_64 (lv_at hl 5 rfl) w) ?_
        obtain ⟨h_4, hf⟩ := zx_ck hf
        refine zg_iald (pc' := 67) hx hb hK h_4 zd_M_title_66 rfl ?_
        refine zg_1 (pc' := 69) (fun _ _ _ _ _ hl w => lv_bipush (v := (46 : Int32)) hx hb zd_M_title_67 (by decide) w) ?_
        refine zg_2 (pc1 := 77) (pc2 := 72) (Classical.em _).symm (fun _ _ _ _ _ w1 w2 => lv_icmp_ne hx hb zd_M_title_69 (by decide) w1 w2) (fun hc => ?_) (fun hc => ?_)
        · rw [if_neg hc] at hf
          refine zg_1 (pc' := 78) (fun _ _ _ _ _ hl w => lv_aload_n hx hb zd_M_title_77 rfl (lv_at hl 0 rfl) w) ?_
          obtain ⟨a_5, h_6, hf⟩ := zx_p hf
          refine zg_get (pc' := 81) (ci := 8) hx hb htT zi_M hown hK h_1 rfl rfl 0 (by decide) (htT _ zt_805) (fun _ h9 => h9) (zx_hv h_6) zd_M_title_78 rfl ?_
          refine zg_1 (pc' := 83) (fun _ _ _ _ _ hl w => lv_iload hx hb zd_M_title_81 (lv_at hl 5 rfl) w) ?_
          obtain ⟨h_7, hf⟩ := zx_ck hf
          refine zg_iald (pc' := 84) hx hb hK h_7 zd_M_title_83 rfl ?_
          refine zg_1 (pc' := 86) (fun _ _ _ _ _ hl w => lv_bipush (v := (96 : Int32)) hx hb zd_M_title_84 (by decide) w) ?_
          refine zg_1 (pc' := 87) (fun _ _ _ _ _ hl w => lv_isub hx hb zd_M_title_86 w) ?_
          refine zg_v [0, 1, 2, 4, 5] rfl ?_
          exact zw_M_title_87 X hR hF hret n _ ih s0 a0 i3 i4 j6 i8 ((zh_I s0 a_5 (i8.toNatClampNeg)) - (96 : Int32)) hf
        · rw [if_pos hc] at hf
          refine zg_1 (pc' := 74) (fun _ _ _ _ _ hl w => lv_bipush (v := (27 : Int32)) hx hb zd_M_title_72 (by decide) w) ?_
          refine zg_1 (pc' := 87) (fun _ _ _ _ _ hl w => lv_goto hx hb zd_M_title_74 (by decide) w) ?_
          refine zg_v [0, 1, 2, 4, 5] rfl ?_
          exact zw_M_title_87 X hR hF hret n _ ih s0 a0 i3 i4 j6 i8 (27 : Int32) hf
set_option maxHeartbeats 4000000 in
theorem zc_M_title (l : Launch) (h0 : Nat) (D : va_G) (dA : Nat → ClassId) (tb : Nat → Nat) (n : Nat) {s0 : zh_S} {a0 : Nat} {i1 : Int32} {i2 : Int32} {r : Int64} {z : zh_S} (hf : zf_M_title n s0 a0 i1 i2 = some (r, z)) : zc_M l zn_M_title zs_M_title 2 49 h0 D dA tb [.ref (h0 + a0), .int i1, .int i2] s0 (some (.long r)) z := by
  rw [zf_M_title] at hf
  refine zc_of (cc := ze_M_title) (maxL := 10) (ret := (some .long)) (lv := [(0, .ref (h0 + a0)), (1, .int i1), (2, .int i2)]) (by decide) rfl (Nat.le_of_ble_eq_true rfl) rfl ?_
  intro p e s m args below meth c X hnm
  obtain ⟨hx, hb, hml, hown, htT, hrt, hlk, x00, hIn⟩ := id X
  have hK := hIn.2.1
  have hT := hIn.2.2.1
  have hNe := hIn.2.2.2
  have hR : zg_R { frames := 2, cells := zh_N z - zh_N s0, slots := zh_M z - zh_M s0, locals := 49 } (zh_N s0) (zh_M s0) z := ⟨by show zh_N z ≤ zh_N s0 + (zh_N z - zh_N s0); omega, by show zh_M z ≤ zh_M s0 + (zh_M z - zh_M s0); omega⟩
  have hF : 2 ≤ ({ frames := 2, cells := zh_N z - zh_N s0, slots := zh_M z - zh_M s0, locals := 49 } : Room).frames ∧ 49 ≤ ({ frames := 2, cells := zh_N z - zh_N s0, slots := zh_M z - zh_M s0, locals := 49 } : Room).locals := ⟨Nat.le_refl _, Nat.le_refl _⟩
  have hret := fun (pc : Nat) (lv : List (Nat × Value)) (hd : decode ze_M_title pc = .ok (.lreturn, 1)) => zg_lret (R := { frames := 2, cells := zh_N z - zh_N s0, slots := zh_M z - zh_M s0, locals := 49 }) (l := l) (e := e) (below := below) (c0 := zh_N s0) (s0 := zh_M s0) (z := z) (lv := lv) (v := r) X hd
  refine zg_1 (pc' := 1) (fun _ _ _ _ _ hl w => lv_aload_n hx hb zd_M_title_0 rfl (lv_at hl 0 rfl) w) ?_
  obtain ⟨h_1, hf⟩ := zx_ck hf
  refine zg_get (pc' := 4) (ci := 8) hx hb htT zi_M hown hK h_1 rfl rfl 9 (by decide) (htT _ zt_814) (fun _ h9 => h9) rfl zd_M_title_1 rfl ?_
  obtain ⟨i_2, e_i_2, hf⟩ := zx_l hf
  refine zg_ti e_i_2 ?_
  refine zg_s (pc' := 5) (lv' := [(3, .int i_2), (0, .ref (h0 + a0)), (1, .int i1), (2, .int i2)]) (fun _ _ _ _ _ hl w => lv_istore_n hx hb zd_M_title_4 rfl hl (by decide) rfl w) ?_
  refine zg_1 (pc' := 6) (fun _ _ _ _ _ hl w => lv_aload_n hx hb zd_M_title_5 rfl (lv_at hl 1 rfl) w) ?_
  refine zg_1 (pc' := 7) (fun _ _ _ _ _ hl w => lv_iload_n hx hb zd_M_title_6 rfl (lv_at hl 2 rfl) w) ?_
  refine zg_1 (pc' := 8) (fun _ _ _ _ _ hl w => lv_iload_n hx hb zd_M_title_7 rfl (lv_at hl 3 rfl) w) ?_
  obtain ⟨i_4, s_3, hq, hf⟩ := zx_b hf
  refine zg_call (pc' := 11) (y := s_3) (rv := (some (.int i_4))) (rest := []) X hR (zm_M_head hq) (fun H locs ls k j hsz hI hU hk => va_runV (As := [.int i1, .int i2]) (rest := []) ⟨hx, hb, hml, hown, htT⟩ (zc_M_head l h0 D dA tb n hq) (cwV 2 htT (zw_gV zt_1007 zt_1009 zt_40 zt_71 zt_1010) rfl rfl rfl (by decide +kernel) ⟨Nat.le_trans (Nat.le_of_ble_eq_true rfl) hF.1, Nat.le_trans (Nat.le_of_ble_eq_true rfl) hF.2⟩) ⟨(zg_pre hU).1, zg_recv hK hI h_1 rfl, (zg_pre hU).2⟩ rfl rfl hsz rfl (lv_room (Nat.le_of_ble_eq_true rfl)) zd_M_title_8 hk) rfl ?_
  refine zg_s (pc' := 13) (lv' := [(4, .int i_4), (3, .int i_2), (0, .ref (h0 + a0)), (1, .int i1), (2, .int i2)]) (fun _ _ _ _ _ hl w => lv_istore hx hb zd_M_title_11 hl (by decide) rfl w) ?_
  refine zg_1 (pc' := 14) (fun _ _ _ _ _ hl w => lv_aload_n hx hb zd_M_title_13 rfl (lv_at hl 2 rfl) w) ?_
  obtain ⟨h_5, hf⟩ := zx_ck hf
  refine zg_get (pc' := 17) (ci := 8) hx hb htT zi_M hown hK h_5 rfl rfl 10 (by decide) (htT _ zt_815) (fun _ h9 => h9) rfl zd_M_title_14 rfl ?_
  refine zg_2 (pc1 := 22) (pc2 := 20) (Classical.em _) (fun _ _ _ _ _ w1 w2 => lv_if_eq hx hb zd_M_title_17 (by decide) w1 w2) (fun hc => ?_) (fun hc => ?_)
  · rw [if_pos hc] at hf
    refine zg_1 (pc' := 24) (fun _ _ _ _ _ hl w => lv_iload hx hb zd_M_title_22 (lv_at hl 0 rfl) w) ?_
    refine zg_1 (pc' := 25) (fun _ _ _ _ _ hl w => lv_aload_n hx hb zd_M_title_24 rfl (lv_at hl 2 rfl) w) ?_
    refine zg_get (pc' := 28) (ci := 8) hx hb htT zi_M hown hK h_5 rfl rfl 9 (by decide) (htT _ zt_814) (fun _ h9 => h9) rfl zd_M_title_25 rfl ?_
    refine zg_1 (pc' := 29) (fun _ _ _ _ _ hl w => lv_isub hx hb zd_M_title_28 w) ?_
    refine zg_1 (pc' := 30) (fun _ _ _ _ _ hl w => lv_i2l (v := (i_4 - (zh_I s_3 a0 9)).toInt64) hx hb zd_M_title_29 rfl w) ?_
    refine zg_1 (pc' := 31) (fun _ _ _ _ _ hl w => lv_lconst (v := (1 : Int64)) hx hb zd_M_title_30 (by decide) w) ?_
    refine zg_1 (pc' := 34) (fun _ _ _ _ _ hl w => lv_ldc2 (v := (8 : Int64)) hx hb hown (htT _ zt_1019) zd_M_title_31 w) ?_
    obtain ⟨i_6, hq, hf⟩ := zx_p hf
    refine zg_call (pc' := 37) (y := s_3) (rv := (some (.int i_6))) (rest := []) X hR ⟨Nat.le_refl _, Nat.le_refl _⟩ (fun H locs ls k j hsz hI hU hk => va_runS (As := [.long ((i_4 - (zh_I s_3 a0 9)).toInt64), .long (1 : Int64), .long (8 : Int64)]) (rest := []) ⟨hx, hb, hml, hown, htT⟩ (zc_M_in l h0 D dA tb n hq) (va_cwS 3 htT (zw_gS zt_909 zt_910 zt_71 zt_911) rfl rfl rfl (by decide +kernel) ⟨Nat.le_trans (Nat.le_of_ble_eq_true rfl) hF.1, Nat.le_trans (Nat.le_of_ble_eq_true rfl) hF.2⟩) (zg_pre hU) rfl rfl hsz rfl (lv_room (Nat.le_of_ble_eq_true rfl)) zd_M_title_34 hk) rfl ?_
    refine zg_s (pc' := 39) (lv' := [(5, .int i_6), (4, .int i_4), (3, .int i_2), (0, .ref (h0 + a0)), (1, .int i1), (2, .int i2)]) (fun _ _ _ _ _ hl w => lv_istore hx hb zd_M_title_37 hl (by decide) rfl w) ?_
    refine zg_1 (pc' := 40) (fun _ _ _ _ _ hl w => lv_lconst (v := (0 : Int64)) hx hb zd_M_title_39 (by decide) w) ?_
    refine zg_s (pc' := 42) (lv' := [(6, .long (0 : Int64)), (5, .int i_6), (4, .int i_4), (3, .int i_2), (0, .ref (h0 + a0)), (1, .int i1), (2, .int i2)]) (fun _ _ _ _ _ hl w => lv_lstore hx hb zd_M_title_40 hl (by decide) rfl w) ?_
    refine zg_1 (pc' := 43) (fun _ _ _ _ _ hl w => lv_aload_n hx hb zd_M_title_42 rfl (lv_at hl 4 rfl) w) ?_
    refine zg_get (pc' := 46) (ci := 8) hx hb htT zi_M hown hK h_5 rfl rfl 9 (by decide) (htT _ zt_814) (fun _ h9 => h9) rfl zd_M_title_43 rfl ?_
    obtain ⟨i_7, e_i_7, hf⟩ := zx_l hf
    refine zg_ti e_i_7 ?_
    refine zg_s (pc' := 48) (lv' := [(8, .int i_7), (6, .long (0 : Int64)), (5, .int i_6), (4, .int i_4), (3, .int i_2), (0, .ref (h0 + a0)), (1, .int i1), (2, .int i2)]) (fun _ _ _ _ _ hl w => lv_istore hx hb zd_M_title_46 hl (by decide) rfl w) ?_
    refine zg_v [5, 4, 3, 2, 1, 0] rfl ?_
    exact zw_M_title_48 X hR hF hret n n s_3 a0 i_2 i_4 i_6 (0 : Int64) i_7 hf
  · rw [if_neg hc] at hf
    refine zg_1 (pc' := 21) (fun _ _ _ _ _ hl w => lv_lconst (v := (0 : Int64)) hx hb zd_M_title_20 (by decide) w) ?_
    obtain ⟨rfl, rfl⟩ := zx_r2 hf
    exact hret _ _ zd_M_title_21
set_option maxHeartbeats 4000000 in
theorem zw_M_number_151 {p : Program} {l : Launch} {e : Env} {R : Room} {s : State} {m : MethodId} {args : Array Value} {below : List Frame} {meth : Method} {c : Code} {Q : State → Prop} {h0 : Nat} {D : va_G} {dA : Nat → ClassId} {tb : Nat → Nat} {c0 k0 : Nat} {z : zh_S} {r : Int64} (X : zg_X p s m args meth c ze_M_number 9 zr_M (some .long) h0 D dA tb) (hR : zg_R R c0 k0 z) (hF : 2 ≤ R.frames ∧ 47 ≤ R.locals) (hret : ∀ (pc : Nat) (lv : List (Nat × Value)), decode ze_M_number pc = .ok (.lreturn, 1) → zg_G p l e R s m args below meth c Q h0 D dA 9 c0 k0 z z pc lv [.long r]) (n : Nat) : ∀ (s0 : zh_S) (a0 : Nat) (i3 : Int32) (j6 : Int64), zb_M_number_151 n s0 a0 i3 j6 = some (r, z) → zg_G p l e R s m args below meth c Q h0 D dA 9 c0 k0 z s0 151 [(0, .ref (h0 + a0)), (3, .int i3), (6, .long j6)] [] := by
  obtain ⟨hx, hb, hml, hown, htT, hrt, hlk, x00, hIn⟩ := id X
  have hK := hIn.2.1
  have hT := hIn.2.2.1
  have hNe := hIn.2.2.2
  intro s0 a0 i3 j6 hf
  rw [zb_M_number_151] at hf
  refine zg_1 (pc' := 152) (fun _ _ _ _ _ hl w => lv_aload_n hx hb zd_M_number_151 rfl (lv_at hl 0 rfl) w) ?_
  refine zg_1 (pc' := 153) (fun _ _ _ _ _ hl w => lv_iload_n hx hb zd_M_number_152 rfl (lv_at hl 1 rfl) w) ?_
  obtain ⟨h_2, hf⟩ := zx_ck hf
  obtain ⟨s_1, e_s_1, hf⟩ := zx_l hf
  refine zg_putI (pc' := 156) (ci := 8) (ty := .int) hx hb htT zi_M zy_M zo_M zj_M hown hK h_2 rfl rfl 9 (by decide) (htT _ zt_814) (fun _ h9 => h9) (Or.inl rfl) (by decide +kernel) rfl rfl rfl e_s_1 zd_M_number_153 rfl ?_
  refine zg_1 (pc' := 158) (fun _ _ _ _ _ hl w => lv_lload hx hb zd_M_number_156 (lv_at hl 2 rfl) w) ?_
  obtain ⟨rfl, rfl⟩ := zx_r2 hf
  exact hret _ _ zd_M_number_158
set_option maxHeartbeats 4000000 in
theorem zw_M_number_118 {p : Program} {l : Launch} {e : Env} {R : Room} {s : State} {m : MethodId} {args : Array Value} {below : List Frame} {meth : Method} {c : Code} {Q : State → Prop} {h0 : Nat} {D : va_G} {dA : Nat → ClassId} {tb : Nat → Nat} {c0 k0 : Nat} {z : zh_S} {r : Int64} (X : zg_X p s m args meth c ze_M_number 9 zr_M (some .long) h0 D dA tb) (hR : zg_R R c0 k0 z) (hF : 2 ≤ R.frames ∧ 47 ≤ R.locals) (hret : ∀ (pc : Nat) (lv : List (Nat × Value)), decode ze_M_number pc = .ok (.lreturn, 1) → zg_G p l e R s m args below meth c Q h0 D dA 9 c0 k0 z z pc lv [.long r]) (n : Nat) (k : Nat) : ∀ (s0 : zh_S) (a0 : Nat) (i3 : Int32) (i5 : Int32) (j6 : Int64) (i8 : Int32), zl_M_number_118 n k s0 a0 i3 i5 j6 i8 = some (r, z) → zg_G p l e R s m args below meth c Q h0 D dA 9 c0 k0 z s0 118 [(0, .ref (h0 + a0)), (3, .int i3), (5, .int i5), (6, .long j6), (8, .int i8)] [] := by
  obtain ⟨hx, hb, hml, hown, htT, hrt, hlk, x00, hIn⟩ := id X
  have hK := hIn.2.1
  have hT := hIn.2.2.1
  have hNe := hIn.2.2.2
  induction k with
  | zero => intro s0 a0 i3 i5 j6 i8 hf; cases hf
  | succ k ih =>
    intro s0 a0 i3 i5 j6 i8 hf
    rw [zl_M_number_118] at hf
    refine zg_1 (pc' := 120) (fun _ _ _ _ _ hl w => lv_iload hx hb zd_M_number_118 (lv_at hl 4 rfl) w) ?_
    refine zg_1 (pc' := 121) (fun _ _ _ _ _ hl w => lv_iload_n hx hb zd_M_number_120 rfl (lv_at hl 1 rfl) w) ?_
    refine zg_2 (pc1 := 151) (pc2 := 124) (Classical.em _) (fun _ _ _ _ _ w1 w2 => lv_icmp_ge hx hb zd_M_number_121 (by decide) w1 w2) (fun hc => ?_) (fun hc => ?_)
    · rw [if_pos hc] at hf
      refine zg_v [0, 1, 3] rfl ?_
      exact zw_M_number_151 X hR hF hret n s0 a0 i3 j6 hf
    · rw [if_neg hc] at hf
      refine zg_1 (pc' := 126) (fun _ _ _ _ _ hl w => lv_iload hx hb zd_M_number_124 (lv_at hl 2 rfl) w) ?_
      refine zg_2 (pc1 := 151) (pc2 := 129) (Classical.em _) (fun _ _ _ _ _ w1 w2 => lv_if_eq hx hb zd_M_number_126 (by decide) w1 w2) (fun hc => ?_) (fun hc => ?_)
      · rw [if_pos hc] at hf
        refine zg_v [0, 1, 3] rfl ?_
        exact zw_M_number_151 X hR hF hret n s0 a0 i3 j6 hf
      · rw [if_neg hc] at hf
        refine zg_1 (pc' := 131) (fun _ _ _ _ _ hl w => lv_lload hx hb zd_M_number_129 (lv_at hl 3 rfl) w) ?_
        refine zg_1 (pc' := 133) (fun _ _ _ _ _ hl w => lv_bipush (v := (8 : Int32)) hx hb zd_M_number_131 (by decide) w) ?_
        refine zg_1 (pc' := 134) (fun _ _ _ _ _ hl w => lv_lshl (v := (j6 <<< ((8 : Int32).toInt64 &&& 63))) hx hb zd_M_number_133 rfl w) ?_
        refine zg_1 (pc' := 135) (fun _ _ _ _ _ hl w => lv_aload_n hx hb zd_M_number_134 rfl (lv_at hl 0 rfl) w) ?_
        obtain ⟨h_1, hf⟩ := zx_ck hf
        obtain ⟨a_2, h_3, hf⟩ := zx_p hf
        refine zg_get (pc' := 138) (ci := 8) hx hb htT zi_M hown hK h_1 rfl rfl 0 (by decide) (htT _ zt_805) (fun _ h9 => h9) (zx_hv h_3) zd_M_number_135 rfl ?_
        refine zg_1 (pc' := 140) (fun _ _ _ _ _ hl w => lv_iload hx hb zd_M_number_138 (lv_at hl 4 rfl) w) ?_
        obtain ⟨h_4, hf⟩ := zx_ck hf
        refine zg_iald (pc' := 141) hx hb hK h_4 zd_M_number_140 rfl ?_
        refine zg_1 (pc' := 142) (fun _ _ _ _ _ hl w => lv_i2l (v := (zh_I s0 a_2 (i8.toNatClampNeg)).toInt64) hx hb zd_M_number_141 rfl w) ?_
        refine zg_1 (pc' := 143) (fun _ _ _ _ _ hl w => lv_lor hx hb zd_M_number_142 w) ?_
        obtain ⟨j_5, e_j_5, hf⟩ := zx_l hf
        refine zg_tl e_j_5 ?_
        refine zg_s (pc' := 145) (lv' := [(6, .long j_5), (0, .ref (h0 + a0)), (3, .int i3), (5, .int i5), (8, .int i8)]) (fun _ _ _ _ _ hl w => lv_lstore hx hb zd_M_number_143 hl (by decide) rfl w) ?_
        obtain ⟨i_6, e_i_6, hf⟩ := zx_l hf
        refine zg_s (pc' := 148) (lv' := [(8, .int i_6), (6, .long j_5), (0, .ref (h0 + a0)), (3, .int i3), (5, .int i5)]) (fun _ _ _ _ _ hl w => lv_iinc (k := 4) (v := i_6) hx hb zd_M_number_145 hl rfl (by rw [e_i_6]; rfl) (by decide) rfl w) ?_
        refine zg_1 (pc' := 118) (fun _ _ _ _ _ hl w => lv_goto hx hb zd_M_number_148 (by decide) w) ?_
        refine zg_v [2, 3, 4, 1, 0] rfl ?_
        exact ih s0 a0 i3 i5 j_5 i_6 hf
set_option maxHeartbeats 4000000 in
theorem zw_M_number_109 {p : Program} {l : Launch} {e : Env} {R : Room} {s : State} {m : MethodId} {args : Array Value} {below : List Frame} {meth : Method} {c : Code} {Q : State → Prop} {h0 : Nat} {D : va_G} {dA : Nat → ClassId} {tb : Nat → Nat} {c0 k0 : Nat} {z : zh_S} {r : Int64} (X : zg_X p s m args meth c ze_M_number 9 zr_M (some .long) h0 D dA tb) (hR : zg_R R c0 k0 z) (hF : 2 ≤ R.frames ∧ 47 ≤ R.locals) (hret : ∀ (pc : Nat) (lv : List (Nat × Value)), decode ze_M_number pc = .ok (.lreturn, 1) → zg_G p l e R s m args below meth c Q h0 D dA 9 c0 k0 z z pc lv [.long r]) (n : Nat) : ∀ (s0 : zh_S) (a0 : Nat) (i3 : Int32) (i5 : Int32), zb_M_number_109 n s0 a0 i3 i5 = some (r, z) → zg_G p l e R s m args below meth c Q h0 D dA 9 c0 k0 z s0 109 [(0, .ref (h0 + a0)), (3, .int i3), (5, .int i5)] [] := by
  obtain ⟨hx, hb, hml, hown, htT, hrt, hlk, x00, hIn⟩ := id X
  have hK := hIn.2.1
  have hT := hIn.2.2.1
  have hNe := hIn.2.2.2
  intro s0 a0 i3 i5 hf
  rw [zb_M_number_109] at hf
  refine zg_1 (pc' := 110) (fun _ _ _ _ _ hl w => lv_lconst (v := (0 : Int64)) hx hb zd_M_number_109 (by decide) w) ?_
  refine zg_s (pc' := 112) (lv' := [(6, .long (0 : Int64)), (0, .ref (h0 + a0)), (3, .int i3), (5, .int i5)]) (fun _ _ _ _ _ hl w => lv_lstore hx hb zd_M_number_110 hl (by decide) rfl w) ?_
  refine zg_1 (pc' := 113) (fun _ _ _ _ _ hl w => lv_aload_n hx hb zd_M_number_112 rfl (lv_at hl 1 rfl) w) ?_
  obtain ⟨h_1, hf⟩ := zx_ck hf
  refine zg_get (pc' := 116) (ci := 8) hx hb htT zi_M hown hK h_1 rfl rfl 9 (by decide) (htT _ zt_814) (fun _ h9 => h9) rfl zd_M_number_113 rfl ?_
  obtain ⟨i_2, e_i_2, hf⟩ := zx_l hf
  refine zg_ti e_i_2 ?_
  refine zg_s (pc' := 118) (lv' := [(8, .int i_2), (6, .long (0 : Int64)), (0, .ref (h0 + a0)), (3, .int i3), (5, .int i5)]) (fun _ _ _ _ _ hl w => lv_istore hx hb zd_M_number_116 hl (by decide) rfl w) ?_
  refine zg_v [2, 3, 4, 1, 0] rfl ?_
  exact zw_M_number_118 X hR hF hret n n s0 a0 i3 i5 (0 : Int64) i_2 hf
set_option maxHeartbeats 4000000 in
theorem zw_M_number_96 {p : Program} {l : Launch} {e : Env} {R : Room} {s : State} {m : MethodId} {args : Array Value} {below : List Frame} {meth : Method} {c : Code} {Q : State → Prop} {h0 : Nat} {D : va_G} {dA : Nat → ClassId} {tb : Nat → Nat} {c0 k0 : Nat} {z : zh_S} {r : Int64} (X : zg_X p s m args meth c ze_M_number 9 zr_M (some .long) h0 D dA tb) (hR : zg_R R c0 k0 z) (hF : 2 ≤ R.frames ∧ 47 ≤ R.locals) (hret : ∀ (pc : Nat) (lv : List (Nat × Value)), decode ze_M_number pc = .ok (.lreturn, 1) → zg_G p l e R s m args below meth c Q h0 D dA 9 c0 k0 z z pc lv [.long r]) (n : Nat) : ∀ (s0 : zh_S) (a0 : Nat) (i2 : Int32) (i3 : Int32) (it0 : Int32), zb_M_number_96 n s0 a0 i2 i3 it0 = some (r, z) → zg_G p l e R s m args below meth c Q h0 D dA 9 c0 k0 z s0 96 [(0, .ref (h0 + a0)), (2, .int i2), (3, .int i3)] [.int it0] := by
  obtain ⟨hx, hb, hml, hown, htT, hrt, hlk, x00, hIn⟩ := id X
  have hK := hIn.2.1
  have hT := hIn.2.2.1
  have hNe := hIn.2.2.2
  intro s0 a0 i2 i3 it0 hf
  rw [zb_M_number_96] at hf
  refine zg_s (pc' := 98) (lv' := [(5, .int it0), (0, .ref (h0 + a0)), (2, .int i2), (3, .int i3)]) (fun _ _ _ _ _ hl w => lv_istore hx hb zd_M_number_96 hl (by decide) rfl w) ?_
  refine zg_1 (pc' := 100) (fun _ _ _ _ _ hl w => lv_iload hx hb zd_M_number_98 (lv_at hl 0 rfl) w) ?_
  refine zg_2 (pc1 := 109) (pc2 := 103) (Classical.em _).symm (fun _ _ _ _ _ w1 w2 => lv_if_ne hx hb zd_M_number_100 (by decide) w1 w2) (fun hc => ?_) (fun hc => ?_)
  · rw [if_neg hc] at hf
    refine zg_v [1, 3, 0] rfl ?_
    exact zw_M_number_109 X hR hF hret n s0 a0 i3 it0 hf
  · rw [if_pos hc] at hf
    refine zg_1 (pc' := 104) (fun _ _ _ _ _ hl w => lv_aload_n hx hb zd_M_number_103 rfl (lv_at hl 1 rfl) w) ?_
    refine zg_1 (pc' := 105) (fun _ _ _ _ _ hl w => lv_iconst (v := (4 : Int32)) hx hb zd_M_number_104 (by decide) w) ?_
    refine zg_1 (pc' := 106) (fun _ _ _ _ _ hl w => lv_iload_n hx hb zd_M_number_105 rfl (lv_at hl 2 rfl) w) ?_
    obtain ⟨h_2, hf⟩ := zx_ck hf
    obtain ⟨s_1, hq, hf⟩ := zx_p hf
    refine zg_call (pc' := 109) (y := s_1) (rv := none) (rest := []) X hR (zm_M_fails hq) (fun H locs ls k j hsz hI hU hk => va_runV (As := [.int (4 : Int32), .int i2]) (rest := []) ⟨hx, hb, hml, hown, htT⟩ (zc_M_fails l h0 D dA tb n hq) (cwV 2 htT (zw_gV zt_1011 zt_1013 zt_41 zt_71 zt_1014) rfl rfl rfl (by decide +kernel) ⟨Nat.le_trans (Nat.le_of_ble_eq_true rfl) hF.1, Nat.le_trans (Nat.le_of_ble_eq_true rfl) hF.2⟩) ⟨(zg_pre hU).1, zg_recv hK hI h_2 rfl, (zg_pre hU).2⟩ rfl rfl hsz rfl (lv_room (Nat.le_of_ble_eq_true rfl)) zd_M_number_106 hk) rfl ?_
    refine zg_v [1, 3, 0] rfl ?_
    exact zw_M_number_109 X hR hF hret n s_1 a0 i3 it0 hf
set_option maxHeartbeats 4000000 in
theorem zw_M_number_95 {p : Program} {l : Launch} {e : Env} {R : Room} {s : State} {m : MethodId} {args : Array Value} {below : List Frame} {meth : Method} {c : Code} {Q : State → Prop} {h0 : Nat} {D : va_G} {dA : Nat → ClassId} {tb : Nat → Nat} {c0 k0 : Nat} {z : zh_S} {r : Int64} (X : zg_X p s m args meth c ze_M_number 9 zr_M (some .long) h0 D dA tb) (hR : zg_R R c0 k0 z) (hF : 2 ≤ R.frames ∧ 47 ≤ R.locals) (hret : ∀ (pc : Nat) (lv : List (Nat × Value)), decode ze_M_number pc = .ok (.lreturn, 1) → zg_G p l e R s m args below meth c Q h0 D dA 9 c0 k0 z z pc lv [.long r]) (n : Nat) : ∀ (s0 : zh_S) (a0 : Nat) (i2 : Int32) (i3 : Int32), zb_M_number_95 n s0 a0 i2 i3 = some (r, z) → zg_G p l e R s m args below meth c Q h0 D dA 9 c0 k0 z s0 95 [(0, .ref (h0 + a0)), (2, .int i2), (3, .int i3)] [] := by
  obtain ⟨hx, hb, hml, hown, htT, hrt, hlk, x00, hIn⟩ := id X
  have hK := hIn.2.1
  have hT := hIn.2.2.1
  have hNe := hIn.2.2.2
  intro s0 a0 i2 i3 hf
  rw [zb_M_number_95] at hf
  refine zg_1 (pc' := 96) (fun _ _ _ _ _ hl w => lv_iconst (v := (0 : Int32)) hx hb zd_M_number_95 (by decide) w) ?_
  exact zw_M_number_96 X hR hF hret n s0 a0 i2 i3 (0 : Int32) hf
set_option maxHeartbeats 4000000 in
theorem zw_M_number_91 {p : Program} {l : Launch} {e : Env} {R : Room} {s : State} {m : MethodId} {args : Array Value} {below : List Frame} {meth : Method} {c : Code} {Q : State → Prop} {h0 : Nat} {D : va_G} {dA : Nat → ClassId} {tb : Nat → Nat} {c0 k0 : Nat} {z : zh_S} {r : Int64} (X : zg_X p s m args meth c ze_M_number 9 zr_M (some .long) h0 D dA tb) (hR : zg_R R c0 k0 z) (hF : 2 ≤ R.frames ∧ 47 ≤ R.locals) (hret : ∀ (pc : Nat) (lv : List (Nat × Value)), decode ze_M_number pc = .ok (.lreturn, 1) → zg_G p l e R s m args below meth c Q h0 D dA 9 c0 k0 z z pc lv [.long r]) (n : Nat) : ∀ (s0 : zh_S) (a0 : Nat) (i2 : Int32) (i3 : Int32), zb_M_number_91 n s0 a0 i2 i3 = some (r, z) → zg_G p l e R s m args below meth c Q h0 D dA 9 c0 k0 z s0 91 [(0, .ref (h0 + a0)), (2, .int i2), (3, .int i3)] [] := by
  obtain ⟨hx, hb, hml, hown, htT, hrt, hlk, x00, hIn⟩ := id X
  have hK := hIn.2.1
  have hT := hIn.2.2.1
  have hNe := hIn.2.2.2
  intro s0 a0 i2 i3 hf
  rw [zb_M_number_91] at hf
  refine zg_1 (pc' := 92) (fun _ _ _ _ _ hl w => lv_iconst (v := (1 : Int32)) hx hb zd_M_number_91 (by decide) w) ?_
  refine zg_1 (pc' := 96) (fun _ _ _ _ _ hl w => lv_goto hx hb zd_M_number_92 (by decide) w) ?_
  exact zw_M_number_96 X hR hF hret n s0 a0 i2 i3 (1 : Int32) hf
set_option maxHeartbeats 4000000 in
theorem zc_M_number (l : Launch) (h0 : Nat) (D : va_G) (dA : Nat → ClassId) (tb : Nat → Nat) (n : Nat) {s0 : zh_S} {a0 : Nat} {i1 : Int32} {r : Int64} {z : zh_S} (hf : zf_M_number n s0 a0 i1 = some (r, z)) : zc_M l zn_M_number zs_M_number 2 47 h0 D dA tb [.ref (h0 + a0), .int i1] s0 (some (.long r)) z := by
  rw [zf_M_number] at hf
  refine zc_of (cc := ze_M_number) (maxL := 9) (ret := (some .long)) (lv := [(0, .ref (h0 + a0)), (1, .int i1)]) (by decide) rfl (Nat.le_of_ble_eq_true rfl) rfl ?_
  intro p e s m args below meth c X hnm
  obtain ⟨hx, hb, hml, hown, htT, hrt, hlk, x00, hIn⟩ := id X
  have hK := hIn.2.1
  have hT := hIn.2.2.1
  have hNe := hIn.2.2.2
  have hR : zg_R { frames := 2, cells := zh_N z - zh_N s0, slots := zh_M z - zh_M s0, locals := 47 } (zh_N s0) (zh_M s0) z := ⟨by show zh_N z ≤ zh_N s0 + (zh_N z - zh_N s0); omega, by show zh_M z ≤ zh_M s0 + (zh_M z - zh_M s0); omega⟩
  have hF : 2 ≤ ({ frames := 2, cells := zh_N z - zh_N s0, slots := zh_M z - zh_M s0, locals := 47 } : Room).frames ∧ 47 ≤ ({ frames := 2, cells := zh_N z - zh_N s0, slots := zh_M z - zh_M s0, locals := 47 } : Room).locals := ⟨Nat.le_refl _, Nat.le_refl _⟩
  have hret := fun (pc : Nat) (lv : List (Nat × Value)) (hd : decode ze_M_number pc = .ok (.lreturn, 1)) => zg_lret (R := { frames := 2, cells := zh_N z - zh_N s0, slots := zh_M z - zh_M s0, locals := 47 }) (l := l) (e := e) (below := below) (c0 := zh_N s0) (s0 := zh_M s0) (z := z) (lv := lv) (v := r) X hd
  refine zg_1 (pc' := 1) (fun _ _ _ _ _ hl w => lv_aload_n hx hb zd_M_number_0 rfl (lv_at hl 0 rfl) w) ?_
  obtain ⟨h_1, hf⟩ := zx_ck hf
  refine zg_get (pc' := 4) (ci := 8) hx hb htT zi_M hown hK h_1 rfl rfl 9 (by decide) (htT _ zt_814) (fun _ h9 => h9) rfl zd_M_number_1 rfl ?_
  obtain ⟨i_2, e_i_2, hf⟩ := zx_l hf
  refine zg_ti e_i_2 ?_
  refine zg_s (pc' := 5) (lv' := [(2, .int i_2), (0, .ref (h0 + a0)), (1, .int i1)]) (fun _ _ _ _ _ hl w => lv_istore_n hx hb zd_M_number_4 rfl hl (by decide) rfl w) ?_
  refine zg_1 (pc' := 6) (fun _ _ _ _ _ hl w => lv_aload_n hx hb zd_M_number_5 rfl (lv_at hl 1 rfl) w) ?_
  refine zg_1 (pc' := 7) (fun _ _ _ _ _ hl w => lv_iconst (v := (2 : Int32)) hx hb zd_M_number_6 (by decide) w) ?_
  refine zg_1 (pc' := 8) (fun _ _ _ _ _ hl w => lv_iload_n hx hb zd_M_number_7 rfl (lv_at hl 2 rfl) w) ?_
  obtain ⟨i_4, s_3, hq, hf⟩ := zx_b hf
  refine zg_call (pc' := 11) (y := s_3) (rv := (some (.int i_4))) (rest := []) X hR (zm_M_head hq) (fun H locs ls k j hsz hI hU hk => va_runV (As := [.int (2 : Int32), .int i1]) (rest := []) ⟨hx, hb, hml, hown, htT⟩ (zc_M_head l h0 D dA tb n hq) (cwV 2 htT (zw_gV zt_1007 zt_1009 zt_40 zt_71 zt_1010) rfl rfl rfl (by decide +kernel) ⟨Nat.le_trans (Nat.le_of_ble_eq_true rfl) hF.1, Nat.le_trans (Nat.le_of_ble_eq_true rfl) hF.2⟩) ⟨(zg_pre hU).1, zg_recv hK hI h_1 rfl, (zg_pre hU).2⟩ rfl rfl hsz rfl (lv_room (Nat.le_of_ble_eq_true rfl)) zd_M_number_8 hk) rfl ?_
  refine zg_s (pc' := 12) (lv' := [(3, .int i_4), (2, .int i_2), (0, .ref (h0 + a0)), (1, .int i1)]) (fun _ _ _ _ _ hl w => lv_istore_n hx hb zd_M_number_11 rfl hl (by decide) rfl w) ?_
  refine zg_1 (pc' := 13) (fun _ _ _ _ _ hl w => lv_aload_n hx hb zd_M_number_12 rfl (lv_at hl 2 rfl) w) ?_
  obtain ⟨h_5, hf⟩ := zx_ck hf
  refine zg_get (pc' := 16) (ci := 8) hx hb htT zi_M hown hK h_5 rfl rfl 10 (by decide) (htT _ zt_815) (fun _ h9 => h9) rfl zd_M_number_13 rfl ?_
  refine zg_2 (pc1 := 21) (pc2 := 19) (Classical.em _) (fun _ _ _ _ _ w1 w2 => lv_if_eq hx hb zd_M_number_16 (by decide) w1 w2) (fun hc => ?_) (fun hc => ?_)
  · rw [if_pos hc] at hf
    refine zg_1 (pc' := 22) (fun _ _ _ _ _ hl w => lv_iload_n hx hb zd_M_number_21 rfl (lv_at hl 0 rfl) w) ?_
    refine zg_1 (pc' := 23) (fun _ _ _ _ _ hl w => lv_aload_n hx hb zd_M_number_22 rfl (lv_at hl 2 rfl) w) ?_
    refine zg_get (pc' := 26) (ci := 8) hx hb htT zi_M hown hK h_5 rfl rfl 9 (by decide) (htT _ zt_814) (fun _ h9 => h9) rfl zd_M_number_23 rfl ?_
    refine zg_1 (pc' := 27) (fun _ _ _ _ _ hl w => lv_isub hx hb zd_M_number_26 w) ?_
    obtain ⟨i_6, e_i_6, hf⟩ := zx_l hf
    refine zg_ti e_i_6 ?_
    refine zg_s (pc' := 29) (lv' := [(4, .int i_6), (3, .int i_4), (2, .int i_2), (0, .ref (h0 + a0)), (1, .int i1)]) (fun _ _ _ _ _ hl w => lv_istore hx hb zd_M_number_27 hl (by decide) rfl w) ?_
    refine zg_1 (pc' := 31) (fun _ _ _ _ _ hl w => lv_iload hx hb zd_M_number_29 (lv_at hl 0 rfl) w) ?_
    refine zg_1 (pc' := 32) (fun _ _ _ _ _ hl w => lv_i2l (v := i_6.toInt64) hx hb zd_M_number_31 rfl w) ?_
    refine zg_1 (pc' := 33) (fun _ _ _ _ _ hl w => lv_lconst (v := (1 : Int64)) hx hb zd_M_number_32 (by decide) w) ?_
    refine zg_1 (pc' := 36) (fun _ _ _ _ _ hl w => lv_ldc2 (v := (8 : Int64)) hx hb hown (htT _ zt_1019) zd_M_number_33 w) ?_
    obtain ⟨i_7, hq, hf⟩ := zx_p hf
    refine zg_call (pc' := 39) (y := s_3) (rv := (some (.int i_7))) (rest := []) X hR ⟨Nat.le_refl _, Nat.le_refl _⟩ (fun H locs ls k j hsz hI hU hk => va_runS (As := [.long (i_6.toInt64), .long (1 : Int64), .long (8 : Int64)]) (rest := []) ⟨hx, hb, hml, hown, htT⟩ (zc_M_in l h0 D dA tb n hq) (va_cwS 3 htT (zw_gS zt_909 zt_910 zt_71 zt_911) rfl rfl rfl (by decide +kernel) ⟨Nat.le_trans (Nat.le_of_ble_eq_true rfl) hF.1, Nat.le_trans (Nat.le_of_ble_eq_true rfl) hF.2⟩) (zg_pre hU) rfl rfl hsz rfl (lv_room (Nat.le_of_ble_eq_true rfl)) zd_M_number_36 hk) rfl ?_
    refine zg_2 (pc1 := 95) (pc2 := 42) (Classical.em _) (fun _ _ _ _ _ w1 w2 => lv_if_eq hx hb zd_M_number_39 (by decide) w1 w2) (fun hc => ?_) (fun hc => ?_)
    · rw [if_pos hc] at hf
      refine zg_v [3, 2, 1] rfl ?_
      exact zw_M_number_95 X hR hF hret n s_3 a0 i_2 i_4 hf
    · rw [if_neg hc] at hf
      refine zg_1 (pc' := 43) (fun _ _ _ _ _ hl w => lv_aload_n hx hb zd_M_number_42 rfl (lv_at hl 3 rfl) w) ?_
      obtain ⟨a_8, h_9, hf⟩ := zx_p hf
      refine zg_get (pc' := 46) (ci := 8) hx hb htT zi_M hown hK h_5 rfl rfl 0 (by decide) (htT _ zt_805) (fun _ h9 => h9) (zx_hv h_9) zd_M_number_43 rfl ?_
      refine zg_1 (pc' := 47) (fun _ _ _ _ _ hl w => lv_aload_n hx hb zd_M_number_46 rfl (lv_at hl 3 rfl) w) ?_
      refine zg_get (pc' := 50) (ci := 8) hx hb htT zi_M hown hK h_5 rfl rfl 9 (by decide) (htT _ zt_814) (fun _ h9 => h9) rfl zd_M_number_47 rfl ?_
      obtain ⟨h_10, hf⟩ := zx_ck hf
      refine zg_iald (pc' := 51) hx hb hK h_10 zd_M_number_50 rfl ?_
      refine zg_1 (pc' := 54) (fun _ _ _ _ _ hl w => lv_sipush (v := (128 : Int32)) hx hb zd_M_number_51 (by decide) w) ?_
      refine zg_2 (pc1 := 95) (pc2 := 57) (Classical.em _) (fun _ _ _ _ _ w1 w2 => lv_icmp_ge hx hb zd_M_number_54 (by decide) w1 w2) (fun hc => ?_) (fun hc => ?_)
      · rw [if_pos hc] at hf
        refine zg_v [3, 2, 1] rfl ?_
        exact zw_M_number_95 X hR hF hret n s_3 a0 i_2 i_4 hf
      · rw [if_neg hc] at hf
        refine zg_1 (pc' := 58) (fun _ _ _ _ _ hl w => lv_aload_n hx hb zd_M_number_57 rfl (lv_at hl 3 rfl) w) ?_
        obtain ⟨a_11, h_12, hf⟩ := zx_p hf
        refine zg_get (pc' := 61) (ci := 8) hx hb htT zi_M hown hK h_5 rfl rfl 0 (by decide) (htT _ zt_805) (fun _ h9 => h9) (zx_hv h_12) zd_M_number_58 rfl ?_
        refine zg_1 (pc' := 62) (fun _ _ _ _ _ hl w => lv_aload_n hx hb zd_M_number_61 rfl (lv_at hl 3 rfl) w) ?_
        refine zg_get (pc' := 65) (ci := 8) hx hb htT zi_M hown hK h_5 rfl rfl 9 (by decide) (htT _ zt_814) (fun _ h9 => h9) rfl zd_M_number_62 rfl ?_
        obtain ⟨h_13, hf⟩ := zx_ck hf
        refine zg_iald (pc' := 66) hx hb hK h_13 zd_M_number_65 rfl ?_
        refine zg_2 (pc1 := 91) (pc2 := 69) (Classical.em _).symm (fun _ _ _ _ _ w1 w2 => lv_if_ne hx hb zd_M_number_66 (by decide) w1 w2) (fun hc => ?_) (fun hc => ?_)
        · rw [if_neg hc] at hf
          refine zg_v [3, 2, 1] rfl ?_
          exact zw_M_number_91 X hR hF hret n s_3 a0 i_2 i_4 hf
        · rw [if_pos hc] at hf
          refine zg_1 (pc' := 71) (fun _ _ _ _ _ hl w => lv_iload hx hb zd_M_number_69 (lv_at hl 0 rfl) w) ?_
          refine zg_1 (pc' := 72) (fun _ _ _ _ _ hl w => lv_iconst (v := (1 : Int32)) hx hb zd_M_number_71 (by decide) w) ?_
          refine zg_2 (pc1 := 91) (pc2 := 75) (Classical.em _) (fun _ _ _ _ _ w1 w2 => lv_icmp_eq hx hb zd_M_number_72 (by decide) w1 w2) (fun hc => ?_) (fun hc => ?_)
          · rw [if_pos hc] at hf
            refine zg_v [3, 2, 1] rfl ?_
            exact zw_M_number_91 X hR hF hret n s_3 a0 i_2 i_4 hf
          · rw [if_neg hc] at hf
            refine zg_1 (pc' := 76) (fun _ _ _ _ _ hl w => lv_aload_n hx hb zd_M_number_75 rfl (lv_at hl 3 rfl) w) ?_
            obtain ⟨a_14, h_15, hf⟩ := zx_p hf
            refine zg_get (pc' := 79) (ci := 8) hx hb htT zi_M hown hK h_5 rfl rfl 0 (by decide) (htT _ zt_805) (fun _ h9 => h9) (zx_hv h_15) zd_M_number_76 rfl ?_
            refine zg_1 (pc' := 80) (fun _ _ _ _ _ hl w => lv_aload_n hx hb zd_M_number_79 rfl (lv_at hl 3 rfl) w) ?_
            refine zg_get (pc' := 83) (ci := 8) hx hb htT zi_M hown hK h_5 rfl rfl 9 (by decide) (htT _ zt_814) (fun _ h9 => h9) rfl zd_M_number_80 rfl ?_
            refine zg_1 (pc' := 84) (fun _ _ _ _ _ hl w => lv_iconst (v := (1 : Int32)) hx hb zd_M_number_83 (by decide) w) ?_
            refine zg_1 (pc' := 85) (fun _ _ _ _ _ hl w => lv_iadd hx hb zd_M_number_84 w) ?_
            obtain ⟨h_16, hf⟩ := zx_ck hf
            refine zg_iald (pc' := 86) hx hb hK h_16 zd_M_number_85 rfl ?_
            refine zg_1 (pc' := 88) (fun _ _ _ _ _ hl w => lv_bipush (v := (127 : Int32)) hx hb zd_M_number_86 (by decide) w) ?_
            refine zg_2 (pc1 := 95) (pc2 := 91) (Classical.em _) (fun _ _ _ _ _ w1 w2 => lv_icmp_le hx hb zd_M_number_88 (by decide) w1 w2) (fun hc => ?_) (fun hc => ?_)
            · rw [if_pos hc] at hf
              refine zg_v [3, 2, 1] rfl ?_
              exact zw_M_number_95 X hR hF hret n s_3 a0 i_2 i_4 hf
            · rw [if_neg hc] at hf
              refine zg_v [3, 2, 1] rfl ?_
              exact zw_M_number_91 X hR hF hret n s_3 a0 i_2 i_4 hf
  · rw [if_neg hc] at hf
    refine zg_1 (pc' := 20) (fun _ _ _ _ _ hl w => lv_lconst (v := (0 : Int64)) hx hb zd_M_number_19 (by decide) w) ?_
    obtain ⟨rfl, rfl⟩ := zx_r2 hf
    exact hret _ _ zd_M_number_20
set_option maxHeartbeats 4000000 in
theorem zc_M_done (l : Launch) (h0 : Nat) (D : va_G) (dA : Nat → ClassId) (tb : Nat → Nat) (n : Nat) {s0 : zh_S} {a0 : Nat} {i1 : Int32} {z : zh_S} (hf : zf_M_done n s0 a0 i1 = some z) : zc_M l zn_M_done zs_M_done 1 22 h0 D dA tb [.ref (h0 + a0), .int i1] s0 none z := by
  rw [zf_M_done] at hf
  refine zc_of (cc := ze_M_done) (maxL := 2) (ret := none) (lv := [(0, .ref (h0 + a0)), (1, .int i1)]) (by decide) rfl (Nat.le_of_ble_eq_true rfl) rfl ?_
  intro p e s m args below meth c X hnm
  obtain ⟨hx, hb, hml, hown, htT, hrt, hlk, x00, hIn⟩ := id X
  have hK := hIn.2.1
  have hT := hIn.2.2.1
  have hNe := hIn.2.2.2
  have hR : zg_R { frames := 1, cells := zh_N z - zh_N s0, slots := zh_M z - zh_M s0, locals := 22 } (zh_N s0) (zh_M s0) z := ⟨by show zh_N z ≤ zh_N s0 + (zh_N z - zh_N s0); omega, by show zh_M z ≤ zh_M s0 + (zh_M z - zh_M s0); omega⟩
  have hF : 1 ≤ ({ frames := 1, cells := zh_N z - zh_N s0, slots := zh_M z - zh_M s0, locals := 22 } : Room).frames ∧ 22 ≤ ({ frames := 1, cells := zh_N z - zh_N s0, slots := zh_M z - zh_M s0, locals := 22 } : Room).locals := ⟨Nat.le_refl _, Nat.le_refl _⟩
  have hret := fun (pc : Nat) (lv : List (Nat × Value)) (hd : decode ze_M_done pc = .ok (.return_, 1)) => zg_vret (R := { frames := 1, cells := zh_N z - zh_N s0, slots := zh_M z - zh_M s0, locals := 22 }) (l := l) (e := e) (below := below) (c0 := zh_N s0) (s0 := zh_M s0) (z := z) (lv := lv) X hd
  refine zg_1 (pc' := 1) (fun _ _ _ _ _ hl w => lv_aload_n hx hb zd_M_done_0 rfl (lv_at hl 0 rfl) w) ?_
  obtain ⟨h_1, hf⟩ := zx_ck hf
  refine zg_get (pc' := 4) (ci := 8) hx hb htT zi_M hown hK h_1 rfl rfl 10 (by decide) (htT _ zt_815) (fun _ h9 => h9) rfl zd_M_done_1 rfl ?_
  refine zg_2 (pc1 := 24) (pc2 := 7) (Classical.em _).symm (fun _ _ _ _ _ w1 w2 => lv_if_ne hx hb zd_M_done_4 (by decide) w1 w2) (fun hc => ?_) (fun hc => ?_)
  · rw [if_neg hc] at hf
    obtain rfl := zx_r1 hf
    exact hret _ _ zd_M_done_24
  · rw [if_pos hc] at hf
    refine zg_1 (pc' := 8) (fun _ _ _ _ _ hl w => lv_aload_n hx hb zd_M_done_7 rfl (lv_at hl 0 rfl) w) ?_
    refine zg_get (pc' := 11) (ci := 8) hx hb htT zi_M hown hK h_1 rfl rfl 9 (by decide) (htT _ zt_814) (fun _ h9 => h9) rfl zd_M_done_8 rfl ?_
    refine zg_1 (pc' := 12) (fun _ _ _ _ _ hl w => lv_iload_n hx hb zd_M_done_11 rfl (lv_at hl 1 rfl) w) ?_
    refine zg_2 (pc1 := 24) (pc2 := 15) (Classical.em _) (fun _ _ _ _ _ w1 w2 => lv_icmp_ge hx hb zd_M_done_12 (by decide) w1 w2) (fun hc => ?_) (fun hc => ?_)
    · rw [if_pos hc] at hf
      obtain rfl := zx_r1 hf
      exact hret _ _ zd_M_done_24
    · rw [if_neg hc] at hf
      refine zg_1 (pc' := 16) (fun _ _ _ _ _ hl w => lv_aload_n hx hb zd_M_done_15 rfl (lv_at hl 0 rfl) w) ?_
      refine zg_1 (pc' := 17) (fun _ _ _ _ _ hl w => lv_iconst (v := (5 : Int32)) hx hb zd_M_done_16 (by decide) w) ?_
      refine zg_1 (pc' := 18) (fun _ _ _ _ _ hl w => lv_aload_n hx hb zd_M_done_17 rfl (lv_at hl 0 rfl) w) ?_
      refine zg_get (pc' := 21) (ci := 8) hx hb htT zi_M hown hK h_1 rfl rfl 9 (by decide) (htT _ zt_814) (fun _ h9 => h9) rfl zd_M_done_18 rfl ?_
      obtain ⟨s_2, hq, hf⟩ := zx_p hf
      refine zg_call (pc' := 24) (y := s_2) (rv := none) (rest := []) X hR (zm_M_fails hq) (fun H locs ls k j hsz hI hU hk => va_runV (As := [.int (5 : Int32), .int (zh_I s0 a0 9)]) (rest := []) ⟨hx, hb, hml, hown, htT⟩ (zc_M_fails l h0 D dA tb n hq) (cwV 2 htT (zw_gV zt_1011 zt_1013 zt_41 zt_71 zt_1014) rfl rfl rfl (by decide +kernel) ⟨Nat.le_trans (Nat.le_of_ble_eq_true rfl) hF.1, Nat.le_trans (Nat.le_of_ble_eq_true rfl) hF.2⟩) ⟨(zg_pre hU).1, zg_recv hK hI h_1 rfl, (zg_pre hU).2⟩ rfl rfl hsz rfl (lv_room (Nat.le_of_ble_eq_true rfl)) zd_M_done_21 hk) rfl ?_
      obtain rfl := zx_r1 hf
      exact hret _ _ zd_M_done_24
set_option maxHeartbeats 4000000 in
theorem zw_M_hash_6 {p : Program} {l : Launch} {e : Env} {R : Room} {s : State} {m : MethodId} {args : Array Value} {below : List Frame} {meth : Method} {c : Code} {Q : State → Prop} {h0 : Nat} {D : va_G} {dA : Nat → ClassId} {tb : Nat → Nat} {c0 k0 : Nat} {s0 : zh_S} {r : Int32} (X : zg_X p s m args meth c ze_M_hash 5 zr_M (some .int) h0 D dA tb) (hR : zg_R R c0 k0 s0) (hF : 0 ≤ R.frames ∧ 0 ≤ R.locals) (hret : ∀ (pc : Nat) (lv : List (Nat × Value)), decode ze_M_hash pc = .ok (.ireturn, 1) → zg_G p l e R s m args below meth c Q h0 D dA 5 c0 k0 s0 s0 pc lv [.int r]) (n : Nat) (k : Nat) : ∀ (a0 : Nat) (i2 : Int32) (i3 : Int32) (i4 : Int32), zl_M_hash_6 n k s0 a0 i2 i3 i4 = some r → zg_G p l e R s m args below meth c Q h0 D dA 5 c0 k0 s0 s0 6 [(0, .ref (h0 + a0)), (2, .int i2), (3, .int i3), (4, .int i4)] [] := by
  obtain ⟨hx, hb, hml, hown, htT, hrt, hlk, x00, hIn⟩ := id X
  have hK := hIn.2.1
  have hT := hIn.2.2.1
  have hNe := hIn.2.2.2
  induction k with
  | zero => intro a0 i2 i3 i4 hf; cases hf
  | succ k ih =>
    intro a0 i2 i3 i4 hf
    rw [zl_M_hash_6] at hf
    refine zg_1 (pc' := 8) (fun _ _ _ _ _ hl w => lv_iload hx hb zd_M_hash_6 (lv_at hl 3 rfl) w) ?_
    refine zg_1 (pc' := 9) (fun _ _ _ _ _ hl w => lv_iload_n hx hb zd_M_hash_8 rfl (lv_at hl 1 rfl) w) ?_
    refine zg_2 (pc1 := 31) (pc2 := 12) (Classical.em _) (fun _ _ _ _ _ w1 w2 => lv_icmp_ge hx hb zd_M_hash_9 (by decide) w1 w2) (fun hc => ?_) (fun hc => ?_)
    · rw [if_pos hc] at hf
      refine zg_1 (pc' := 32) (fun _ _ _ _ _ hl w => lv_iload_n hx hb zd_M_hash_31 rfl (lv_at hl 2 rfl) w) ?_
      refine zg_1 (pc' := 33) (fun _ _ _ _ _ hl w => lv_iload_n hx hb zd_M_hash_32 rfl (lv_at hl 2 rfl) w) ?_
      refine zg_1 (pc' := 35) (fun _ _ _ _ _ hl w => lv_bipush (v := (15 : Int32)) hx hb zd_M_hash_33 (by decide) w) ?_
      refine zg_1 (pc' := 36) (fun _ _ _ _ _ hl w => lv_iushr (v := (zu_i i3 (15 : Int32))) hx hb zd_M_hash_35 rfl w) ?_
      refine zg_1 (pc' := 37) (fun _ _ _ _ _ hl w => lv_ixor hx hb zd_M_hash_36 w) ?_
      obtain rfl := zx_r1 hf
      exact hret _ _ zd_M_hash_37
    · rw [if_neg hc] at hf
      refine zg_1 (pc' := 13) (fun _ _ _ _ _ hl w => lv_iload_n hx hb zd_M_hash_12 rfl (lv_at hl 2 rfl) w) ?_
      refine zg_1 (pc' := 14) (fun _ _ _ _ _ hl w => lv_aload_n hx hb zd_M_hash_13 rfl (lv_at hl 0 rfl) w) ?_
      obtain ⟨h_1, hf⟩ := zx_ck hf
      obtain ⟨a_2, h_3, hf⟩ := zx_p hf
      refine zg_get (pc' := 17) (ci := 8) hx hb htT zi_M hown hK h_1 rfl rfl 0 (by decide) (htT _ zt_805) (fun _ h9 => h9) (zx_hv h_3) zd_M_hash_14 rfl ?_
      refine zg_1 (pc' := 19) (fun _ _ _ _ _ hl w => lv_iload hx hb zd_M_hash_17 (lv_at hl 3 rfl) w) ?_
      obtain ⟨h_4, hf⟩ := zx_ck hf
      refine zg_iald (pc' := 20) hx hb hK h_4 zd_M_hash_19 rfl ?_
      refine zg_1 (pc' := 21) (fun _ _ _ _ _ hl w => lv_ixor hx hb zd_M_hash_20 w) ?_
      refine zg_1 (pc' := 23) (fun _ _ _ _ _ hl w => lv_ldc (v := (16777619 : Int32)) hx hb hown (htT _ zt_993) zd_M_hash_21 w) ?_
      refine zg_1 (pc' := 24) (fun _ _ _ _ _ hl w => lv_imul hx hb zd_M_hash_23 w) ?_
      obtain ⟨i_5, e_i_5, hf⟩ := zx_l hf
      refine zg_ti e_i_5 ?_
      refine zg_s (pc' := 25) (lv' := [(3, .int i_5), (0, .ref (h0 + a0)), (2, .int i2), (4, .int i4)]) (fun _ _ _ _ _ hl w => lv_istore_n hx hb zd_M_hash_24 rfl hl (by decide) rfl w) ?_
      obtain ⟨i_6, e_i_6, hf⟩ := zx_l hf
      refine zg_s (pc' := 28) (lv' := [(4, .int i_6), (3, .int i_5), (0, .ref (h0 + a0)), (2, .int i2)]) (fun _ _ _ _ _ hl w => lv_iinc (k := 3) (v := i_6) hx hb zd_M_hash_25 hl rfl (by rw [e_i_6]; rfl) (by decide) rfl w) ?_
      refine zg_1 (pc' := 6) (fun _ _ _ _ _ hl w => lv_goto hx hb zd_M_hash_28 (by decide) w) ?_
      refine zg_v [2, 3, 1, 0] rfl ?_
      exact ih a0 i2 i_5 i_6 hf
set_option maxHeartbeats 4000000 in
theorem zc_M_hash (l : Launch) (h0 : Nat) (D : va_G) (dA : Nat → ClassId) (tb : Nat → Nat) (n : Nat) {s0 : zh_S} {a0 : Nat} {i1 : Int32} {i2 : Int32} {r : Int32} (hf : zf_M_hash n s0 a0 i1 i2 = some r) : zc_M l zn_M_hash zs_M_hash 0 0 h0 D dA tb [.ref (h0 + a0), .int i1, .int i2] s0 (some (.int r)) s0 := by
  rw [zf_M_hash] at hf
  refine zc_of (cc := ze_M_hash) (maxL := 5) (ret := (some .int)) (lv := [(0, .ref (h0 + a0)), (1, .int i1), (2, .int i2)]) (by decide) rfl (Nat.le_of_ble_eq_true rfl) rfl ?_
  intro p e s m args below meth c X hnm
  obtain ⟨hx, hb, hml, hown, htT, hrt, hlk, x00, hIn⟩ := id X
  have hK := hIn.2.1
  have hT := hIn.2.2.1
  have hNe := hIn.2.2.2
  have hR : zg_R { frames := 0, cells := zh_N s0 - zh_N s0, slots := zh_M s0 - zh_M s0, locals := 0 } (zh_N s0) (zh_M s0) s0 := ⟨by show zh_N s0 ≤ zh_N s0 + (zh_N s0 - zh_N s0); omega, by show zh_M s0 ≤ zh_M s0 + (zh_M s0 - zh_M s0); omega⟩
  have hF : 0 ≤ ({ frames := 0, cells := zh_N s0 - zh_N s0, slots := zh_M s0 - zh_M s0, locals := 0 } : Room).frames ∧ 0 ≤ ({ frames := 0, cells := zh_N s0 - zh_N s0, slots := zh_M s0 - zh_M s0, locals := 0 } : Room).locals := ⟨Nat.le_refl _, Nat.le_refl _⟩
  have hret := fun (pc : Nat) (lv : List (Nat × Value)) (hd : decode ze_M_hash pc = .ok (.ireturn, 1)) => zg_iret (R := { frames := 0, cells := zh_N s0 - zh_N s0, slots := zh_M s0 - zh_M s0, locals := 0 }) (l := l) (e := e) (below := below) (c0 := zh_N s0) (s0 := zh_M s0) (z := s0) (lv := lv) (v := r) X rfl hd
  refine zg_1 (pc' := 2) (fun _ _ _ _ _ hl w => lv_ldc (v := (-2128831035 : Int32)) hx hb hown (htT _ zt_992) zd_M_hash_0 w) ?_
  refine zg_s (pc' := 3) (lv' := [(3, .int (-2128831035 : Int32)), (0, .ref (h0 + a0)), (1, .int i1), (2, .int i2)]) (fun _ _ _ _ _ hl w => lv_istore_n hx hb zd_M_hash_2 rfl hl (by decide) rfl w) ?_
  refine zg_1 (pc' := 4) (fun _ _ _ _ _ hl w => lv_iload_n hx hb zd_M_hash_3 rfl (lv_at hl 2 rfl) w) ?_
  refine zg_s (pc' := 6) (lv' := [(4, .int i1), (3, .int (-2128831035 : Int32)), (0, .ref (h0 + a0)), (1, .int i1), (2, .int i2)]) (fun _ _ _ _ _ hl w => lv_istore hx hb zd_M_hash_4 hl (by decide) rfl w) ?_
  refine zg_v [2, 4, 1, 0] rfl ?_
  exact zw_M_hash_6 X hR hF hret n n a0 i2 (-2128831035 : Int32) i1 hf
