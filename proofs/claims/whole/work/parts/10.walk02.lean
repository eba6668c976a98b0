set_option maxHeartbeats 4000000 in
theorem zw_M_isRevoked_75 {p : Program} {l : Launch} {e : Env} {R : Room} {s : State} {m : MethodId} {args : Array Value} {below : List Frame} {meth : Method} {c : Code} {Q : State → Prop} {h0 : Nat} {D : va_G} {dA : Nat → ClassId} {tb : Nat → Nat} {c0 k0 : Nat} {s0 : zh_S} {r : Int32} (X : zg_X p s m args meth c ze_M_isRevoked 7 zr_M (some .boolean) h0 D dA tb) (hR : zg_R R c0 k0 s0) (hF : 1 ≤ R.frames ∧ 22 ≤ R.locals) (hret : (r = 0 ∨ r = 1) → ∀ (pc : Nat) (lv : List (Nat × Value)), decode ze_M_isRevoked pc = .ok (.ireturn, 1) → zg_G p l e R s m args below meth c Q h0 D dA 7 c0 k0 s0 s0 pc lv [.int r]) (n : Nat) (r6 : zh_S → Nat → Int32 → Int32 → Int64 → Int32 → Int32 → Option Int32) (hr6 : ∀ (a0 : Nat) (i1 : Int32) (i2 : Int32) (j3 : Int64) (i5 : Int32) (i6 : Int32), r6 s0 a0 i1 i2 j3 i5 i6 = some r → zg_G p l e R s m args below meth c Q h0 D dA 7 c0 k0 s0 s0 6 [(0, .ref (h0 + a0)), (1, .int i1), (2, .int i2), (3, .long j3), (5, .int i5), (6, .int i6)] []) : ∀ (a0 : Nat) (i1 : Int32) (i2 : Int32) (j3 : Int64) (i6 : Int32) (it0 : Int32), zb_M_isRevoked_75 n r6 s0 a0 i1 i2 j3 i6 it0 = some r → zg_G p l e R s m args below meth c Q h0 D dA 7 c0 k0 s0 s0 75 [(0, .ref (h0 + a0)), (1, .int i1), (2, .int i2), (3, .long j3), (6, .int i6)] [.int it0] := by
  obtain ⟨hx, hb, hml, hown, htT, hrt, hlk, x00, hIn⟩ := id X
  have hK := hIn.2.1
  have hT := hIn.2.2.1
  have hNe := hIn.2.2.2
  intro a0 i1 i2 j3 i6 it0 hf
  rw [zb_M_isRevoked_75] at hf
  refine zg_s (pc' := 77) (lv' := [(5, .int it0), (0, .ref (h0 + a0)), (1, .int i1), (2, .int i2), (3, .long j3), (6, .int i6)]) (fun _ _ _ _ _ hl w => lv_istore hx hb zd_M_isRevoked_75 hl (by decide) rfl w) ?_
  obtain ⟨i_1, e_i_1, hf⟩ := zx_l hf
  refine zg_s (pc' := 80) (lv' := [(6, .int i_1), (5, .int it0), (0, .ref (h0 + a0)), (1, .int i1), (2, .int i2), (3, .long j3)]) (fun _ _ _ _ _ hl w => lv_iinc (k := 5) (v := i_1) hx hb zd_M_isRevoked_77 hl rfl (by rw [e_i_1]; rfl) (by decide) rfl w) ?_
  refine zg_1 (pc' := 6) (fun _ _ _ _ _ hl w => lv_goto hx hb zd_M_isRevoked_80 (by decide) w) ?_
  refine zg_v [2, 3, 4, 5, 1, 0] rfl ?_
  exact hr6 a0 i1 i2 j3 it0 i_1 hf
set_option maxHeartbeats 4000000 in
theorem zw_M_isRevoked_70 {p : Program} {l : Launch} {e : Env} {R : Room} {s : State} {m : MethodId} {args : Array Value} {below : List Frame} {meth : Method} {c : Code} {Q : State → Prop} {h0 : Nat} {D : va_G} {dA : Nat → ClassId} {tb : Nat → Nat} {c0 k0 : Nat} {s0 : zh_S} {r : Int32} (X : zg_X p s m args meth c ze_M_isRevoked 7 zr_M (some .boolean) h0 D dA tb) (hR : zg_R R c0 k0 s0) (hF : 1 ≤ R.frames ∧ 22 ≤ R.locals) (hret : (r = 0 ∨ r = 1) → ∀ (pc : Nat) (lv : List (Nat × Value)), decode ze_M_isRevoked pc = .ok (.ireturn, 1) → zg_G p l e R s m args below meth c Q h0 D dA 7 c0 k0 s0 s0 pc lv [.int r]) (n : Nat) (r6 : zh_S → Nat → Int32 → Int32 → Int64 → Int32 → Int32 → Option Int32) (hr6 : ∀ (a0 : Nat) (i1 : Int32) (i2 : Int32) (j3 : Int64) (i5 : Int32) (i6 : Int32), r6 s0 a0 i1 i2 j3 i5 i6 = some r → zg_G p l e R s m args below meth c Q h0 D dA 7 c0 k0 s0 s0 6 [(0, .ref (h0 + a0)), (1, .int i1), (2, .int i2), (3, .long j3), (5, .int i5), (6, .int i6)] []) : ∀ (a0 : Nat) (i1 : Int32) (i2 : Int32) (j3 : Int64) (i6 : Int32), zb_M_isRevoked_70 n r6 s0 a0 i1 i2 j3 i6 = some r → zg_G p l e R s m args below meth c Q h0 D dA 7 c0 k0 s0 s0 70 [(0, .ref (h0 + a0)), (1, .int i1), (2, .int i2), (3, .long j3), (6, .int i6)] [] := by
  obtain ⟨hx, hb, hml, hown, htT, hrt, hlk, x00, hIn⟩ := id X
  have hK := hIn.2.1
  have hT := hIn.2.2.1
  have hNe := hIn.2.2.2
  intro a0 i1 i2 j3 i6 hf
  rw [zb_M_isRevoked_70] at hf
  refine zg_1 (pc' := 71) (fun _ _ _ _ _ hl w => lv_iconst (v := (1 : Int32)) hx hb zd_M_isRevoked_70 (by decide) w) ?_
  refine zg_1 (pc' := 75) (fun _ _ _ _ _ hl w => lv_goto hx hb zd_M_isRevoked_71 (by decide) w) ?_
  exact zw_M_isRevoked_75 X hR hF hret n _ hr6 a0 i1 i2 j3 i6 (1 : Int32) hf
set_option maxHeartbeats 4000000 in
theorem zw_M_isRevoked_74 {p : Program} {l : Launch} {e : Env} {R : Room} {s : State} {m : MethodId} {args : Array Value} {below : List Frame} {meth : Method} {c : Code} {Q : State → Prop} {h0 : Nat} {D : va_G} {dA : Nat → ClassId} {tb : Nat → Nat} {c0 k0 : Nat} {s0 : zh_S} {r : Int32} (X : zg_X p s m args meth c ze_M_isRevoked 7 zr_M (some .boolean) h0 D dA tb) (hR : zg_R R c0 k0 s0) (hF : 1 ≤ R.frames ∧ 22 ≤ R.locals) (hret : (r = 0 ∨ r = 1) → ∀ (pc : Nat) (lv : List (Nat × Value)), decode ze_M_isRevoked pc = .ok (.ireturn, 1) → zg_G p l e R s m args below meth c Q h0 D dA 7 c0 k0 s0 s0 pc lv [.int r]) (n : Nat) (r6 : zh_S → Nat → Int32 → Int32 → Int64 → Int32 → Int32 → Option Int32) (hr6 : ∀ (a0 : Nat) (i1 : Int32) (i2 : Int32) (j3 : Int64) (i5 : Int32) (i6 : Int32), r6 s0 a0 i1 i2 j3 i5 i6 = some r → zg_G p l e R s m args below meth c Q h0 D dA 7 c0 k0 s0 s0 6 [(0, .ref (h0 + a0)), (1, .int i1), (2, .int i2), (3, .long j3), (5, .int i5), (6, .int i6)] []) : ∀ (a0 : Nat) (i1 : Int32) (i2 : Int32) (j3 : Int64) (i6 : Int32), zb_M_isRevoked_74 n r6 s0 a0 i1 i2 j3 i6 = some r → zg_G p l e R s m args below meth c Q h0 D dA 7 c0 k0 s0 s0 74 [(0, .ref (h0 + a0)), (1, .int i1), (2, .int i2), (3, .long j3), (6, .int i6)] [] := by
  obtain ⟨hx, hb, hml, hown, htT, hrt, hlk, x00, hIn⟩ := id X
  have hK := hIn.2.1
  have hT := hIn.2.2.1
  have hNe := hIn.2.2.2
  intro a0 i1 i2 j3 i6 hf
  rw [zb_M_isRevoked_74] at hf
  refine zg_1 (pc' := 75) (fun _ _ _ _ _ hl w => lv_iconst (v := (0 : Int32)) hx hb zd_M_isRevoked_74 (by decide) w) ?_
  exact zw_M_isRevoked_75 X hR hF hret n _ hr6 a0 i1 i2 j3 i6 (0 : Int32) hf
set_option maxHeartbeats 4000000 in
theorem zw_M_isRevoked_6 {p : Program} {l : Launch} {e : Env} {R : Room} {s : State} {m : MethodId} {args : Array Value} {below : List Frame} {meth : Method} {c : Code} {Q : State → Prop} {h0 : Nat} {D : va_G} {dA : Nat → ClassId} {tb : Nat → Nat} {c0 k0 : Nat} {s0 : zh_S} {r : Int32} (X : zg_X p s m args meth c ze_M_isRevoked 7 zr_M (some .boolean) h0 D dA tb) (hR : zg_R R c0 k0 s0) (hF : 1 ≤ R.frames ∧ 22 ≤ R.locals) (hret : (r = 0 ∨ r = 1) → ∀ (pc : Nat) (lv : List (Nat × Value)), decode ze_M_isRevoked pc = .ok (.ireturn, 1) → zg_G p l e R s m args below meth c Q h0 D dA 7 c0 k0 s0 s0 pc lv [.int r]) (n : Nat) (k : Nat) : ∀ (a0 : Nat) (i1 : Int32) (i2 : Int32) (j3 : Int64) (i5 : Int32) (i6 : Int32), zl_M_isRevoked_6 n k s0 a0 i1 i2 j3 i5 i6 = some r → zg_G p l e R s m args below meth c Q h0 D dA 7 c0 k0 s0 s0 6 [(0, .ref (h0 + a0)), (1, .int i1), (2, .int i2), (3, .long j3), (5, .int i5), (6, .int i6)] [] := by
  obtain ⟨hx, hb, hml, hown, htT, hrt, hlk, x00, hIn⟩ := id X
  have hK := hIn.2.1
  have hT := hIn.2.2.1
  have hNe := hIn.2.2.2
  induction k with
  | zero => intro a0 i1 i2 j3 i5 i6 hf; cases hf
  | succ k ih =>
    intro a0 i1 i2 j3 i5 i6 hf
    rw [zl_M_isRevoked_6] at hf
    refine zg_1 (pc' := 7) (fun _ _ _ _ _ hl w => lv_iload_n hx hb zd_M_isRevoked_6 rfl (lv_at hl 2 rfl) w) ?_
    refine zg_2 (pc1 := 83) (pc2 := 10) (Classical.em _) (fun _ _ _ _ _ w1 w2 => lv_if_lt hx hb zd_M_isRevoked_7 (by decide) w1 w2) (fun hc => ?_) (fun hc => ?_)
    · rw [if_pos hc] at hf
      refine zg_1 (pc' := 85) (fun _ _ _ _ _ hl w => lv_iload hx hb zd_M_isRevoked_83 (lv_at hl 4 rfl) w) ?_
      obtain ⟨h_1, hf⟩ := zx_ck hf
      obtain rfl := zx_r1 hf
      exact hret h_1 _ _ zd_M_isRevoked_85
    · rw [if_neg hc] at hf
      refine zg_1 (pc' := 12) (fun _ _ _ _ _ hl w => lv_iload hx hb zd_M_isRevoked_10 (lv_at hl 5 rfl) w) ?_
      refine zg_1 (pc' := 13) (fun _ _ _ _ _ hl w => lv_i2l (v := i6.toInt64) hx hb zd_M_isRevoked_12 rfl w) ?_
      refine zg_1 (pc' := 14) (fun _ _ _ _ _ hl w => lv_aload_n hx hb zd_M_isRevoked_13 rfl (lv_at hl 0 rfl) w) ?_
      obtain ⟨h_2, hf⟩ := zx_ck hf
      obtain ⟨a_3, h_4, hf⟩ := zx_p hf
      refine zg_get (pc' := 17) (ci := 8) hx hb htT zi_M hown hK h_2 rfl rfl 18 (by decide) (htT _ zt_823) (fun _ h9 => h9) (zx_hv h_4) zd_M_isRevoked_14 rfl ?_
      refine zg_1 (pc' := 19) (fun _ _ _ _ _ hl w => lv_bipush (v := (6 : Int32)) hx hb zd_M_isRevoked_17 (by decide) w) ?_
      refine zg_1 (pc' := 20) (fun _ _ _ _ _ hl w => lv_iload_n hx hb zd_M_isRevoked_19 rfl (lv_at hl 2 rfl) w) ?_
      refine zg_1 (pc' := 21) (fun _ _ _ _ _ hl w => lv_imul hx hb zd_M_isRevoked_20 w) ?_
      refine zg_1 (pc' := 22) (fun _ _ _ _ _ hl w => lv_iconst (v := (3 : Int32)) hx hb zd_M_isRevoked_21 (by decide) w) ?_
      refine zg_1 (pc' := 23) (fun _ _ _ _ _ hl w => lv_iadd hx hb zd_M_isRevoked_22 w) ?_
      obtain ⟨h_5, hf⟩ := zx_ck hf
      refine zg_lald (pc' := 24) hx hb hK h_5 zd_M_isRevoked_23 rfl ?_
      refine zg_1 (pc' := 25) (fun _ _ _ _ _ hl w => W.lcmp hx hb zd_M_isRevoked_24 w) ?_
      refine zg_2 (pc1 := 83) (pc2 := 28) (Classical.em _) (fun _ _ _ _ _ w1 w2 => lv_if_ge hx hb zd_M_isRevoked_25 (by decide) w1 w2) (fun hc => ?_) (fun hc => ?_)
      · rw [if_pos hc] at hf
        refine zg_1 (pc' := 85) (fun _ _ _ _ _ hl w => lv_iload hx hb zd_M_isRevoked_83 (lv_at hl 4 rfl) w) ?_
        obtain ⟨h_6, hf⟩ := zx_ck hf
        obtain rfl := zx_r1 hf
        exact hret h_6 _ _ zd_M_isRevoked_85
      · rw [if_neg hc] at hf
        refine zg_1 (pc' := 30) (fun _ _ _ _ _ hl w => lv_iload hx hb zd_M_isRevoked_28 (lv_at hl 4 rfl) w) ?_
        refine zg_2 (pc1 := 70) (pc2 := 33) (Classical.em _).symm (fun _ _ _ _ _ w1 w2 => lv_if_ne hx hb zd_M_isRevoked_30 (by decide) w1 w2) (fun hc => ?_) (fun hc => ?_)
        · rw [if_neg hc] at hf
          refine zg_v [0, 1, 2, 3, 5] rfl ?_
          exact zw_M_isRevoked_70 X hR hF hret n _ ih a0 i1 i2 j3 i6 hf
        · rw [if_pos hc] at hf
          refine zg_1 (pc' := 34) (fun _ _ _ _ _ hl w => lv_aload_n hx hb zd_M_isRevoked_33 rfl (lv_at hl 0 rfl) w) ?_
          obtain ⟨a_7, h_8, hf⟩ := zx_p hf
          refine zg_get (pc' := 37) (ci := 8) hx hb htT zi_M hown hK h_2 rfl rfl 19 (by decide) (htT _ zt_824) (fun _ h9 => h9) (zx_hv h_8) zd_M_isRevoked_34 rfl ?_
          refine zg_1 (pc' := 38) (fun _ _ _ _ _ hl w => lv_iconst (v := (4 : Int32)) hx hb zd_M_isRevoked_37 (by decide) w) ?_
          refine zg_1 (pc' := 39) (fun _ _ _ _ _ hl w => lv_iload_n hx hb zd_M_isRevoked_38 rfl (lv_at hl 2 rfl) w) ?_
          refine zg_1 (pc' := 40) (fun _ _ _ _ _ hl w => lv_imul hx hb zd_M_isRevoked_39 w) ?_
          refine zg_1 (pc' := 42) (fun _ _ _ _ _ hl w => lv_iload hx hb zd_M_isRevoked_40 (lv_at hl 5 rfl) w) ?_
          refine zg_1 (pc' := 43) (fun _ _ _ _ _ hl w => lv_iadd hx hb zd_M_isRevoked_42 w) ?_
          obtain ⟨h_9, hf⟩ := zx_ck hf
          refine zg_lald (pc' := 44) hx hb hK h_9 zd_M_isRevoked_43 rfl ?_
          refine zg_1 (pc' := 45) (fun _ _ _ _ _ hl w => lv_aload_n hx hb zd_M_isRevoked_44 rfl (lv_at hl 0 rfl) w) ?_
          refine zg_1 (pc' := 46) (fun _ _ _ _ _ hl w => lv_iload_n hx hb zd_M_isRevoked_45 rfl (lv_at hl 1 rfl) w) ?_
          refine zg_1 (pc' := 47) (fun _ _ _ _ _ hl w => lv_iconst (v := (0 : Int32)) hx hb zd_M_isRevoked_46 (by decide) w) ?_
          obtain ⟨j_10, hq, hf⟩ := zx_p hf
          refine zg_call (pc' := 50) (y := s0) (rv := (some (.long j_10))) (rest := [.long (zh_J s0 a_7 ((((4 : Int32) * i2) + i6).toNatClampNeg))]) X hR ⟨Nat.le_refl _, Nat.le_refl _⟩ (fun H locs ls k j hsz hI hU hk => va_runV (As := [.int i1, .int (0 : Int32)]) (rest := [.long (zh_J s0 a_7 ((((4 : Int32) * i2) + i6).toNatClampNeg))]) ⟨hx, hb, hml, hown, htT⟩ (zc_M_of l h0 D dA tb n hq) (cwV 2 htT (zw_gV zt_1066 zt_1068 zt_52 zt_71 zt_1069) rfl rfl rfl (by decide +kernel) ⟨Nat.le_trans (Nat.le_of_ble_eq_true rfl) hF.1, Nat.le_trans (Nat.le_of_ble_eq_true rfl) hF.2⟩) ⟨(zg_pre hU).1, zg_recv hK hI h_2 rfl, (zg_pre hU).2⟩ rfl rfl hsz rfl (lv_room (Nat.le_of_ble_eq_true rfl)) zd_M_isRevoked_47 hk) rfl ?_
          refine zg_1 (pc' := 51) (fun _ _ _ _ _ hl w => W.lcmp hx hb zd_M_isRevoked_50 w) ?_
          refine zg_2 (pc1 := 74) (pc2 := 54) (Classical.em _).symm (fun _ _ _ _ _ w1 w2 => lv_if_ne hx hb zd_M_isRevoked_51 (by decide) w1 w2) (fun hc => ?_) (fun hc => ?_)
          · rw [if_neg hc] at hf
            refine zg_v [0, 1, 2, 3, 5] rfl ?_
            exact zw_M_isRevoked_74 X hR hF hret n _ ih a0 i1 i2 j3 i6 hf
          · rw [if_pos hc] at hf
            refine zg_1 (pc' := 55) (fun _ _ _ _ _ hl w => lv_aload_n hx hb zd_M_isRevoked_54 rfl (lv_at hl 0 rfl) w) ?_
            obtain ⟨a_11, h_12, hf⟩ := zx_p hf
            refine zg_get (pc' := 58) (ci := 8) hx hb htT zi_M hown hK h_2 rfl rfl 20 (by decide) (htT _ zt_825) (fun _ h9 => h9) (zx_hv h_12) zd_M_isRevoked_55 rfl ?_
            refine zg_1 (pc' := 59) (fun _ _ _ _ _ hl w => lv_iconst (v := (4 : Int32)) hx hb zd_M_isRevoked_58 (by decide) w) ?_
            refine zg_1 (pc' := 60) (fun _ _ _ _ _ hl w => lv_iload_n hx hb zd_M_isRevoked_59 rfl (lv_at hl 2 rfl) w) ?_
            refine zg_1 (pc' := 61) (fun _ _ _ _ _ hl w => lv_imul hx hb zd_M_isRevoked_60 w) ?_
            refine zg_1 (pc' := 63) (fun _ _ _ _ _ hl w => lv_iload hx hb zd_M_isRevoked_61 (lv_at hl 5 rfl) w) ?_
            refine zg_1 (pc' := 64) (fun _ _ _ _ _ hl w => lv_iadd hx hb zd_M_isRevoked_63 w) ?_
            obtain ⟨h_13, hf⟩ := zx_ck hf
            refine zg_lald (pc' := 65) hx hb hK h_13 zd_M_isRevoked_64 rfl ?_
            refine zg_1 (pc' := 66) (fun _ _ _ _ _ hl w => lv_lload_n hx hb zd_M_isRevoked_65 rfl (lv_at hl 3 rfl) w) ?_
            refine zg_1 (pc' := 67) (fun _ _ _ _ _ hl w => W.lcmp hx hb zd_M_isRevoked_66 w) ?_
            refine zg_2 (pc1 := 74) (pc2 := 70) (Classical.em _) (fun _ _ _ _ _ w1 w2 => lv_if_gt hx hb zd_M_isRevoked_67 (by decide) w1 w2) (fun hc => ?_) (fun hc => ?_)
            · rw [if_pos hc] at hf
              refine zg_v [0, 1, 2, 3, 5] rfl ?_
              exact zw_M_isRevoked_74 X hR hF hret n _ ih a0 i1 i2 j3 i6 hf
            · rw [if_neg hc] at hf
              refine zg_v [0, 1, 2, 3, 5] rfl ?_
              exact zw_M_isRevoked_70 X hR hF hret n _ ih a0 i1 i2 j3 i6 hf
set_option maxHeartbeats 4000000 in
theorem zc_M_isRevoked (l : Launch) (h0 : Nat) (D : va_G) (dA : Nat → ClassId) (tb : Nat → Nat) (n : Nat) {s0 : zh_S} {a0 : Nat} {i1 : Int32} {i2 : Int32} {j3 : Int64} {r : Int32} (hf : zf_M_isRevoked n s0 a0 i1 i2 j3 = some r) : zc_M l zn_M_isRevoked zs_M_isRevoked 1 22 h0 D dA tb [.ref (h0 + a0), .int i1, .int i2, .long j3] s0 (some (.int r)) s0 := by
  rw [zf_M_isRevoked] at hf
  refine zc_of (cc := ze_M_isRevoked) (maxL := 7) (ret := (some .boolean)) (lv := [(0, .ref (h0 + a0)), (1, .int i1), (2, .int i2), (3, .long j3)]) (by decide) rfl (Nat.le_of_ble_eq_true rfl) rfl ?_
  intro p e s m args below meth c X hnm
  obtain ⟨hx, hb, hml, hown, htT, hrt, hlk, x00, hIn⟩ := id X
  have hK := hIn.2.1
  have hT := hIn.2.2.1
  have hNe := hIn.2.2.2
  have hR : zg_R { frames := 1, cells := zh_N s0 - zh_N s0, slots := zh_M s0 - zh_M s0, locals := 22 } (zh_N s0) (zh_M s0) s0 := ⟨by show zh_N s0 ≤ zh_N s0 + (zh_N s0 - zh_N s0); omega, by show zh_M s0 ≤ zh_M s0 + (zh_M s0 - zh_M s0); omega⟩
  have hF : 1 ≤ ({ frames := 1, cells := zh_N s0 - zh_N s0, slots := zh_M s0 - zh_M s0, locals := 22 } : Room).frames ∧ 22 ≤ ({ frames := 1, cells := zh_N s0 - zh_N s0, slots := zh_M s0 - zh_M s0, locals := 22 } : Room).locals := ⟨Nat.le_refl _, Nat.le_refl _⟩
  have hret := fun (hz : r = 0 ∨ r = 1) (pc : Nat) (lv : List (Nat × Value)) (hd : decode ze_M_isRevoked pc = .ok (.ireturn, 1)) => zg_iret (R := { frames := 1, cells := zh_N s0 - zh_N s0, slots := zh_M s0 - zh_M s0, locals := 22 }) (l := l) (e := e) (below := below) (c0 := zh_N s0) (s0 := zh_M s0) (z := s0) (lv := lv) (v := r) X (zx_nz hz) hd
  refine zg_1 (pc' := 1) (fun _ _ _ _ _ hl w => lv_iconst (v := (0 : Int32)) hx hb zd_M_isRevoked_0 (by decide) w) ?_
  refine zg_s (pc' := 3) (lv' := [(5, .int (0 : Int32)), (0, .ref (h0 + a0)), (1, .int i1), (2, .int i2), (3, .long j3)]) (fun _ _ _ _ _ hl w => lv_istore hx hb zd_M_isRevoked_1 hl (by decide) rfl w) ?_
  refine zg_1 (pc' := 4) (fun _ _ _ _ _ hl w => lv_iconst (v := (0 : Int32)) hx hb zd_M_isRevoked_3 (by decide) w) ?_
  refine zg_s (pc' := 6) (lv' := [(6, .int (0 : Int32)), (5, .int (0 : Int32)), (0, .ref (h0 + a0)), (1, .int i1), (2, .int i2), (3, .long j3)]) (fun _ _ _ _ _ hl w => lv_istore hx hb zd_M_isRevoked_4 hl (by decide) rfl w) ?_
  refine zg_v [2, 3, 4, 5, 1, 0] rfl ?_
  exact zw_M_isRevoked_6 X hR hF hret n n a0 i1 i2 j3 (0 : Int32) (0 : Int32) hf
set_option maxHeartbeats 4000000 in
theorem zw_M_letters_2 {p : Program} {l : Launch} {e : Env} {R : Room} {s : State} {m : MethodId} {args : Array Value} {below : List Frame} {meth : Method} {c : Code} {Q : State → Prop} {h0 : Nat} {D : va_G} {dA : Nat → ClassId} {tb : Nat → Nat} {c0 k0 : Nat} {s0 : zh_S} {r : Int32} (X : zg_X p s m args meth c ze_M_letters 3 zr_M (some .int) h0 D dA tb) (hR : zg_R R c0 k0 s0) (hF : 0 ≤ R.frames ∧ 0 ≤ R.locals) (hret : ∀ (pc : Nat) (lv : List (Nat × Value)), decode ze_M_letters pc = .ok (.ireturn, 1) → zg_G p l e R s m args below meth c Q h0 D dA 3 c0 k0 s0 s0 pc lv [.int r]) (n : Nat) (k : Nat) : ∀ (j0 : Int64) (i2 : Int32), zl_M_letters_2 n k j0 i2 = some r → zg_G p l e R s m args below meth c Q h0 D dA 3 c0 k0 s0 s0 2 [(0, .long j0), (2, .int i2)] [] := by
  obtain ⟨hx, hb, hml, hown, htT, hrt, hlk, x00, hIn⟩ := id X
  have hK := hIn.2.1
  have hT := hIn.2.2.1
  have hNe := hIn.2.2.2
  induction k with
  | zero => intro j0 i2 hf; cases hf
  | succ k ih =>
    intro j0 i2 hf
    rw [zl_M_letters_2] at hf
    refine zg_1 (pc' := 3) (fun _ _ _ _ _ hl w => lv_iload_n hx hb zd_M_letters_2 rfl (lv_at hl 1 rfl) w) ?_
    refine zg_1 (pc' := 5) (fun _ _ _ _ _ hl w => lv_bipush (v := (8 : Int32)) hx hb zd_M_letters_3 (by decide) w) ?_
    refine zg_2 (pc1 := 28) (pc2 := 8) (Classical.em _) (fun _ _ _ _ _ w1 w2 => lv_icmp_ge hx hb zd_M_letters_5 (by decide) w1 w2) (fun hc => ?_) (fun hc => ?_)
    · rw [if_pos hc] at hf
      refine zg_1 (pc' := 29) (fun _ _ _ _ _ hl w => lv_iload_n hx hb zd_M_letters_28 rfl (lv_at hl 1 rfl) w) ?_
      obtain rfl := zx_r1 hf
      exact hret _ _ zd_M_letters_29
    · rw [if_neg hc] at hf
      refine zg_1 (pc' := 9) (fun _ _ _ _ _ hl w => lv_lload_n hx hb zd_M_letters_8 rfl (lv_at hl 0 rfl) w) ?_
      refine zg_1 (pc' := 10) (fun _ _ _ _ _ hl w => lv_iconst (v := (5 : Int32)) hx hb zd_M_letters_9 (by decide) w) ?_
      refine zg_1 (pc' := 11) (fun _ _ _ _ _ hl w => lv_iload_n hx hb zd_M_letters_10 rfl (lv_at hl 1 rfl) w) ?_
      refine zg_1 (pc' := 12) (fun _ _ _ _ _ hl w => lv_imul hx hb zd_M_letters_11 w) ?_
      refine zg_1 (pc' := 13) (fun _ _ _ _ _ hl w => lv_lshr (v := (j0 >>> (((5 : Int32) * i2).toInt64 &&& 63))) hx hb zd_M_letters_12 rfl w) ?_
      refine zg_1 (pc' := 16) (fun _ _ _ _ _ hl w => lv_ldc2 (v := (31 : Int64)) hx hb hown (htT _ zt_940) zd_M_letters_13 w) ?_
      refine zg_1 (pc' := 17) (fun _ _ _ _ _ hl w => lv_land hx hb zd_M_letters_16 w) ?_
      refine zg_1 (pc' := 18) (fun _ _ _ _ _ hl w => lv_lconst (v := (0 : Int64)) hx hb zd_M_letters_17 (by decide) w) ?_
      refine zg_1 (pc' := 19) (fun _ _ _ _ _ hl w => W.lcmp hx hb zd_M_letters_18 w) ?_
      refine zg_2 (pc1 := 28) (pc2 := 22) (Classical.em _) (fun _ _ _ _ _ w1 w2 => lv_if_le hx hb zd_M_letters_19 (by decide) w1 w2) (fun hc => ?_) (fun hc => ?_)
      · rw [if_pos hc] at hf
        refine zg_1 (pc' := 29) (fun _ _ _ _ _ hl w => lv_iload_n hx hb zd_M_letters_28 rfl (lv_at hl 1 rfl) w) ?_
        obtain rfl := zx_r1 hf
        exact hret _ _ zd_M_letters_29
      · rw [if_neg hc] at hf
        obtain ⟨i_1, e_i_1, hf⟩ := zx_l hf
        refine zg_s (pc' := 25) (lv' := [(2, .int i_1), (0, .long j0)]) (fun _ _ _ _ _ hl w => lv_iinc (k := 1) (v := i_1) hx hb zd_M_letters_22 hl rfl (by rw [e_i_1]; rfl) (by decide) rfl w) ?_
        refine zg_1 (pc' := 2) (fun _ _ _ _ _ hl w => lv_goto hx hb zd_M_letters_25 (by decide) w) ?_
        refine zg_v [1, 0] rfl ?_
        exact ih j0 i_1 hf
set_option maxHeartbeats 4000000 in
theorem zc_M_letters (l : Launch) (h0 : Nat) (D : va_G) (dA : Nat → ClassId) (tb : Nat → Nat) (n : Nat) {s0 : zh_S} {j0 : Int64} {r : Int32} (hf : zf_M_letters n j0 = some r) : zc_M l zn_M_letters zs_M_letters 0 0 h0 D dA tb [.long j0] s0 (some (.int r)) s0 := by
  rw [zf_M_letters] at hf
  refine zc_of (cc := ze_M_letters) (maxL := 3) (ret := (some .int)) (lv := [(0, .long j0)]) (by decide) rfl (Nat.le_of_ble_eq_true rfl) rfl ?_
  intro p e s m args below meth c X hnm
  obtain ⟨hx, hb, hml, hown, htT, hrt, hlk, x00, hIn⟩ := id X
  have hK := hIn.2.1
  have hT := hIn.2.2.1
  have hNe := hIn.2.2.2
  have hR : zg_R { frames := 0, cells := zh_N s0 - zh_N s0, slots := zh_M s0 - zh_M s0, locals := 0 } (zh_N s0) (zh_M s0) s0 := ⟨by show zh_N s0 ≤ zh_N s0 + (zh_N s0 - zh_N s0); omega, by show zh_M s0 ≤ zh_M s0 + (zh_M s0 - zh_M s0); omega⟩
  have hF : 0 ≤ ({ frames := 0, cells := zh_N s0 - zh_N s0, slots := zh_M s0 - zh_M s0, locals := 0 } : Room).frames ∧ 0 ≤ ({ frames := 0, cells := zh_N s0 - zh_N s0, slots := zh_M s0 - zh_M s0, locals := 0 } : Room).locals := ⟨Nat.le_refl _, Nat.le_refl _⟩
  have hret := fun (pc : Nat) (lv : List (Nat × Value)) (hd : decode ze_M_letters pc = .ok (.ireturn, 1)) => zg_iret (R := { frames := 0, cells := zh_N s0 - zh_N s0, slots := zh_M s0 - zh_M s0, locals := 0 }) (l := l) (e := e) (below := below) (c0 := zh_N s0) (s0 := zh_M s0) (z := s0) (lv := lv) (v := r) X rfl hd
  refine zg_1 (pc' := 1) (fun _ _ _ _ _ hl w => lv_iconst (v := (0 : Int32)) hx hb zd_M_letters_0 (by decide) w) ?_
  refine zg_s (pc' := 2) (lv' := [(2, .int (0 : Int32)), (0, .long j0)]) (fun _ _ _ _ _ hl w => lv_istore_n hx hb zd_M_letters_1 rfl hl (by decide) rfl w) ?_
  refine zg_v [1, 0] rfl ?_
  exact zw_M_letters_2 X hR hF hret n n j0 (0 : Int32) hf
set_option maxHeartbeats 4000000 in
theorem zc_M_within (l : Launch) (h0 : Nat) (D : va_G) (dA : Nat → ClassId) (tb : Nat → Nat) (n : Nat) {s0 : zh_S} {j0 : Int64} {j2 : Int64} {r : Int32} (hf : zf_M_within n j0 j2 = some r) : zc_M l zn_M_within zs_M_within 1 22 h0 D dA tb [.long j0, .long j2] s0 (some (.int r)) s0 := by
  rw [zf_M_within] at hf
  refine zc_of (cc := ze_M_within) (maxL := 5) (ret := (some .boolean)) (lv := [(0, .long j0), (2, .long j2)]) (by decide) rfl (Nat.le_of_ble_eq_true rfl) rfl ?_
  intro p e s m args below meth c X hnm
  obtain ⟨hx, hb, hml, hown, htT, hrt, hlk, x00, hIn⟩ := id X
  have hK := hIn.2.1
  have hT := hIn.2.2.1
  have hNe := hIn.2.2.2
  have hR : zg_R { frames := 1, cells := zh_N s0 - zh_N s0, slots := zh_M s0 - zh_M s0, locals := 22 } (zh_N s0) (zh_M s0) s0 := ⟨by show zh_N s0 ≤ zh_N s0 + (zh_N s0 - zh_N s0); omega, by show zh_M s0 ≤ zh_M s0 + (zh_M s0 - zh_M s0); omega⟩
  have hF : 1 ≤ ({ frames := 1, cells := zh_N s0 - zh_N s0, slots := zh_M s0 - zh_M s0, locals := 22 } : Room).frames ∧ 22 ≤ ({ frames := 1, cells := zh_N s0 - zh_N s0, slots := zh_M s0 - zh_M s0, locals := 22 } : Room).locals := ⟨Nat.le_refl _, Nat.le_refl _⟩
  have hret := fun (hz : r = 0 ∨ r = 1) (pc : Nat) (lv : List (Nat × Value)) (hd : decode ze_M_within pc = .ok (.ireturn, 1)) => zg_iret (R := { frames := 1, cells := zh_N s0 - zh_N s0, slots := zh_M s0 - zh_M s0, locals := 22 }) (l := l) (e := e) (below := below) (c0 := zh_N s0) (s0 := zh_M s0) (z := s0) (lv := lv) (v := r) X (zx_nz hz) hd
  refine zg_1 (pc' := 1) (fun _ _ _ _ _ hl w => lv_lload_n hx hb zd_M_within_0 rfl (lv_at hl 0 rfl) w) ?_
  obtain ⟨i_1, hq, hf⟩ := zx_p hf
  refine zg_call (pc' := 4) (y := s0) (rv := (some (.int i_1))) (rest := []) X hR ⟨Nat.le_refl _, Nat.le_refl _⟩ (fun H locs ls k j hsz hI hU hk => va_runS (As := [.long j0]) (rest := []) ⟨hx, hb, hml, hown, htT⟩ (zc_M_letters l h0 D dA tb n hq) (va_cwS 1 htT (zw_gS zt_937 zt_938 zt_71 zt_939) rfl rfl rfl (by decide +kernel) ⟨Nat.le_trans (Nat.le_of_ble_eq_true rfl) hF.1, Nat.le_trans (Nat.le_of_ble_eq_true rfl) hF.2⟩) (zg_pre hU) rfl rfl hsz rfl (lv_room (Nat.le_of_ble_eq_true rfl)) zd_M_within_1 hk) rfl ?_
  refine zg_1 (pc' := 5) (fun _ _ _ _ _ hl w => lv_lload_n hx hb zd_M_within_4 rfl (lv_at hl 1 rfl) w) ?_
  obtain ⟨i_2, hq, hf⟩ := zx_p hf
  refine zg_call (pc' := 8) (y := s0) (rv := (some (.int i_2))) (rest := [.int i_1]) X hR ⟨Nat.le_refl _, Nat.le_refl _⟩ (fun H locs ls k j hsz hI hU hk => va_runS (As := [.long j2]) (rest := [.int i_1]) ⟨hx, hb, hml, hown, htT⟩ (zc_M_letters l h0 D dA tb n hq) (va_cwS 1 htT (zw_gS zt_937 zt_938 zt_71 zt_939) rfl rfl rfl (by decide +kernel) ⟨Nat.le_trans (Nat.le_of_ble_eq_true rfl) hF.1, Nat.le_trans (Nat.le_of_ble_eq_true rfl) hF.2⟩) (zg_pre hU) rfl rfl hsz rfl (lv_room (Nat.le_of_ble_eq_true rfl)) zd_M_within_5 hk) rfl ?_
  refine zg_1 (pc' := 9) (fun _ _ _ _ _ hl w => lv_isub hx hb zd_M_within_8 w) ?_
  obtain ⟨i_3, e_i_3, hf⟩ := zx_l hf
  refine zg_ti e_i_3 ?_
  refine zg_s (pc' := 11) (lv' := [(4, .int i_3), (0, .long j0), (2, .long j2)]) (fun _ _ _ _ _ hl w => lv_istore hx hb zd_M_within_9 hl (by decide) rfl w) ?_
  refine zg_1 (pc' := 13) (fun _ _ _ _ _ hl w => lv_iload hx hb zd_M_within_11 (lv_at hl 0 rfl) w) ?_
  refine zg_1 (pc' := 14) (fun _ _ _ _ _ hl w => lv_iconst (v := (1 : Int32)) hx hb zd_M_within_13 (by decide) w) ?_
  refine zg_2 (pc1 := 29) (pc2 := 17) (Classical.em _) (fun _ _ _ _ _ w1 w2 => lv_icmp_ge hx hb zd_M_within_14 (by decide) w1 w2) (fun hc => ?_) (fun hc => ?_)
  · rw [if_pos hc] at hf
    refine zg_1 (pc' := 30) (fun _ _ _ _ _ hl w => lv_lload_n hx hb zd_M_within_29 rfl (lv_at hl 1 rfl) w) ?_
    refine zg_1 (pc' := 31) (fun _ _ _ _ _ hl w => lv_iconst (v := (5 : Int32)) hx hb zd_M_within_30 (by decide) w) ?_
    refine zg_1 (pc' := 33) (fun _ _ _ _ _ hl w => lv_iload hx hb zd_M_within_31 (lv_at hl 0 rfl) w) ?_
    refine zg_1 (pc' := 34) (fun _ _ _ _ _ hl w => lv_imul hx hb zd_M_within_33 w) ?_
    refine zg_1 (pc' := 35) (fun _ _ _ _ _ hl w => lv_lshr (v := (j0 >>> (((5 : Int32) * i_3).toInt64 &&& 63))) hx hb zd_M_within_34 rfl w) ?_
    refine zg_1 (pc' := 36) (fun _ _ _ _ _ hl w => lv_lload_n hx hb zd_M_within_35 rfl (lv_at hl 2 rfl) w) ?_
    refine zg_1 (pc' := 37) (fun _ _ _ _ _ hl w => W.lcmp hx hb zd_M_within_36 w) ?_
    refine zg_2 (pc1 := 63) (pc2 := 40) (Classical.em _).symm (fun _ _ _ _ _ w1 w2 => lv_if_ne hx hb zd_M_within_37 (by decide) w1 w2) (fun hc => ?_) (fun hc => ?_)
    · rw [if_neg hc] at hf
      refine zg_1 (pc' := 64) (fun _ _ _ _ _ hl w => lv_iconst (v := (0 : Int32)) hx hb zd_M_within_63 (by decide) w) ?_
      obtain rfl := zx_r1 hf
      exact hret (Or.inl rfl) _ _ zd_M_within_64
    · rw [if_pos hc] at hf
      refine zg_1 (pc' := 41) (fun _ _ _ _ _ hl w => lv_lload_n hx hb zd_M_within_40 rfl (lv_at hl 1 rfl) w) ?_
      refine zg_1 (pc' := 42) (fun _ _ _ _ _ hl w => lv_iconst (v := (5 : Int32)) hx hb zd_M_within_41 (by decide) w) ?_
      refine zg_1 (pc' := 44) (fun _ _ _ _ _ hl w => lv_iload hx hb zd_M_within_42 (lv_at hl 0 rfl) w) ?_
      refine zg_1 (pc' := 45) (fun _ _ _ _ _ hl w => lv_iconst (v := (1 : Int32)) hx hb zd_M_within_44 (by decide) w) ?_
      refine zg_1 (pc' := 46) (fun _ _ _ _ _ hl w => lv_isub hx hb zd_M_within_45 w) ?_
      refine zg_1 (pc' := 47) (fun _ _ _ _ _ hl w => lv_imul hx hb zd_M_within_46 w) ?_
      refine zg_1 (pc' := 48) (fun _ _ _ _ _ hl w => lv_lshr (v := (j0 >>> (((5 : Int32) * (i_3 - (1 : Int32))).toInt64 &&& 63))) hx hb zd_M_within_47 rfl w) ?_
      refine zg_1 (pc' := 51) (fun _ _ _ _ _ hl w => lv_ldc2 (v := (31 : Int64)) hx hb hown (htT _ zt_940) zd_M_within_48 w) ?_
      refine zg_1 (pc' := 52) (fun _ _ _ _ _ hl w => lv_land hx hb zd_M_within_51 w) ?_
      refine zg_1 (pc' := 55) (fun _ _ _ _ _ hl w => lv_ldc2 (v := (27 : Int64)) hx hb hown (htT _ zt_941) zd_M_within_52 w) ?_
      refine zg_1 (pc' := 56) (fun _ _ _ _ _ hl w => W.lcmp hx hb zd_M_within_55 w) ?_
      refine zg_2 (pc1 := 63) (pc2 := 59) (Classical.em _).symm (fun _ _ _ _ _ w1 w2 => lv_if_ne hx hb zd_M_within_56 (by decide) w1 w2) (fun hc => ?_) (fun hc => ?_)
      · rw [if_neg hc] at hf
        refine zg_1 (pc' := 64) (fun _ _ _ _ _ hl w => lv_iconst (v := (0 : Int32)) hx hb zd_M_within_63 (by decide) w) ?_
        obtain rfl := zx_r1 hf
        exact hret (Or.inl rfl) _ _ zd_M_within_64
      · rw [if_pos hc] at hf
        refine zg_1 (pc' := 60) (fun _ _ _ _ _ hl w => lv_iconst (v := (1 : Int32)) hx hb zd_M_within_59 (by decide) w) ?_
        refine zg_1 (pc' := 64) (fun _ _ _ _ _ hl w => lv_goto hx hb zd_M_within_60 (by decide) w) ?_
        obtain rfl := zx_r1 hf
        exact hret (Or.inr rfl) _ _ zd_M_within_64
  · rw [if_neg hc] at hf
    refine zg_1 (pc' := 18) (fun _ _ _ _ _ hl w => lv_lload_n hx hb zd_M_within_17 rfl (lv_at hl 1 rfl) w) ?_
    refine zg_1 (pc' := 19) (fun _ _ _ _ _ hl w => lv_lload_n hx hb zd_M_within_18 rfl (lv_at hl 2 rfl) w) ?_
    refine zg_1 (pc' := 20) (fun _ _ _ _ _ hl w => W.lcmp hx hb zd_M_within_19 w) ?_
    refine zg_2 (pc1 := 27) (pc2 := 23) (Classical.em _).symm (fun _ _ _ _ _ w1 w2 => lv_if_ne hx hb zd_M_within_20 (by decide) w1 w2) (fun hc => ?_) (fun hc => ?_)
    · rw [if_neg hc] at hf
      refine zg_1 (pc' := 28) (fun _ _ _ _ _ hl w => lv_iconst (v := (0 : Int32)) hx hb zd_M_within_27 (by decide) w) ?_
      obtain rfl := zx_r1 hf
      exact hret (Or.inl rfl) _ _ zd_M_within_28
    · rw [if_pos hc] at hf
      refine zg_1 (pc' := 24) (fun _ _ _ _ _ hl w => lv_iconst (v := (1 : Int32)) hx hb zd_M_within_23 (by decide) w) ?_
      refine zg_1 (pc' := 28) (fun _ _ _ _ _ hl w => lv_goto hx hb zd_M_within_24 (by decide) w) ?_
      obtain rfl := zx_r1 hf
      exact hret (Or.inr rfl) _ _ zd_M_within_28
set_option maxHeartbeats 4000000 in
theorem zw_M_keptOut_100 {p : Program} {l : Launch} {e : Env} {R : Room} {s : State} {m : MethodId} {args : Array Value} {below : List Frame} {meth : Method} {c : Code} {Q : State → Prop} {h0 : Nat} {D : va_G} {dA : Nat → ClassId} {tb : Nat → Nat} {c0 k0 : Nat} {s0 : zh_S} {r : Int32} (X : zg_X p s m args meth c ze_M_keptOut 11 zr_M (some .boolean) h0 D dA tb) (hR : zg_R R c0 k0 s0) (hF : 2 ≤ R.frames ∧ 46 ≤ R.locals) (hret : (r = 0 ∨ r = 1) → ∀ (pc : Nat) (lv : List (Nat × Value)), decode ze_M_keptOut pc = .ok (.ireturn, 1) → zg_G p l e R s m args below meth c Q h0 D dA 11 c0 k0 s0 s0 pc lv [.int r]) (n : Nat) (r20 : zh_S → Nat → Int32 → Int64 → Int32 → Int32 → Option Int32) (hr20 : ∀ (a0 : Nat) (i2 : Int32) (j3 : Int64) (i5 : Int32) (i6 : Int32), r20 s0 a0 i2 j3 i5 i6 = some r → zg_G p l e R s m args below meth c Q h0 D dA 11 c0 k0 s0 s0 20 [(0, .ref (h0 + a0)), (2, .int i2), (3, .long j3), (5, .int i5), (6, .int i6)] []) : ∀ (a0 : Nat) (i2 : Int32) (j3 : Int64) (i6 : Int32) (it0 : Int32), zb_M_keptOut_100 n r20 s0 a0 i2 j3 i6 it0 = some r → zg_G p l e R s m args below meth c Q h0 D dA 11 c0 k0 s0 s0 100 [(0, .ref (h0 + a0)), (2, .int i2), (3, .long j3), (6, .int i6)] [.int it0] := by
  obtain ⟨hx, hb, hml, hown, htT, hrt, hlk, x00, hIn⟩ := id X
  have hK := hIn.2.1
  have hT := hIn.2.2.1
  have hNe := hIn.2.2.2
  intro a0 i2 j3 i6 it0 hf
  rw [zb_M_keptOut_100] at hf
  refine zg_s (pc' := 102) (lv' := [(5, .int it0), (0, .ref (h0 + a0)), (2, .int i2), (3, .long j3), (6, .int i6)]) (fun _ _ _ _ _ hl w => lv_istore hx hb zd_M_keptOut_100 hl (by decide) rfl w) ?_
  obtain ⟨i_1, e_i_1, hf⟩ := zx_l hf
  refine zg_s (pc' := 105) (lv' := [(6, .int i_1), (5, .int it0), (0, .ref (h0 + a0)), (2, .int i2), (3, .long j3)]) (fun _ _ _ _ _ hl w => lv_iinc (k := 4) (v := i_1) hx hb zd_M_keptOut_102 hl rfl (by rw [e_i_1]; rfl) (by decide) rfl w) ?_
  refine zg_1 (pc' := 20) (fun _ _ _ _ _ hl w => lv_goto hx hb zd_M_keptOut_105 (by decide) w) ?_
  refine zg_v [2, 3, 4, 1, 0] rfl ?_
  exact hr20 a0 i2 j3 it0 i_1 hf
set_option maxHeartbeats 4000000 in
theorem zw_M_keptOut_95 {p : Program} {l : Launch} {e : Env} {R : Room} {s : State} {m : MethodId} {args : Array Value} {below : List Frame} {meth : Method} {c : Code} {Q : State → Prop} {h0 : Nat} {D : va_G} {dA : Nat → ClassId} {tb : Nat → Nat} {c0 k0 : Nat} {s0 : zh_S} {r : Int32} (X : zg_X p s m args meth c ze_M_keptOut 11 zr_M (some .boolean) h0 D dA tb) (hR : zg_R R c0 k0 s0) (hF : 2 ≤ R.frames ∧ 46 ≤ R.locals) (hret : (r = 0 ∨ r = 1) → ∀ (pc : Nat) (lv : List (Nat × Value)), decode ze_M_keptOut pc = .ok (.ireturn, 1) → zg_G p l e R s m args below meth c Q h0 D dA 11 c0 k0 s0 s0 pc lv [.int r]) (n : Nat) (r20 : zh_S → Nat → Int32 → Int64 → Int32 → Int32 → Option Int32) (hr20 : ∀ (a0 : Nat) (i2 : Int32) (j3 : Int64) (i5 : Int32) (i6 : Int32), r20 s0 a0 i2 j3 i5 i6 = some r → zg_G p l e R s m args below meth c Q h0 D dA 11 c0 k0 s0 s0 20 [(0, .ref (h0 + a0)), (2, .int i2), (3, .long j3), (5, .int i5), (6, .int i6)] []) : ∀ (a0 : Nat) (i2 : Int32) (j3 : Int64) (i6 : Int32), zb_M_keptOut_95 n r20 s0 a0 i2 j3 i6 = some r → zg_G p l e R s m args below meth c Q h0 D dA 11 c0 k0 s0 s0 95 [(0, .ref (h0 + a0)), (2, .int i2), (3, .long j3), (6, .int i6)] [] := by
  obtain ⟨hx, hb, hml, hown, htT, hrt, hlk, x00, hIn⟩ := id X
  have hK := hIn.2.1
  have hT := hIn.2.2.1
  have hNe := hIn.2.2.2
  intro a0 i2 j3 i6 hf
  rw [zb_M_keptOut_95] at hf
  refine zg_1 (pc' := 96) (fun _ _ _ _ _ hl w => lv_iconst (v := (1 : Int32)) hx hb zd_M_keptOut_95 (by decide) w) ?_
  refine zg_1 (pc' := 100) (fun _ _ _ _ _ hl w => lv_goto hx hb zd_M_keptOut_96 (by decide) w) ?_
  exact zw_M_keptOut_100 X hR hF hret n _ hr20 a0 i2 j3 i6 (1 : Int32) hf
set_option maxHeartbeats 4000000 in
theorem zw_M_keptOut_99 {p : Program} {l : Launch} {e : Env} {R : Room} {s : State} {m : MethodId} {args : Array Value} {below : List Frame} {meth : Method} {c : Code} {Q : State → Prop} {h0 : Nat} {D : va_G} {dA : Nat → ClassId} {tb : Nat → Nat} {c0 k0 : Nat} {s0 : zh_S} {r : Int32} (X : zg_X p s m args meth c ze_M_keptOut 11 zr_M (some .boolean) h0 D dA tb) (hR : zg_R R c0 k0 s0) (hF : 2 ≤ R.frames ∧ 46 ≤ R.locals) (hret : (r = 0 ∨ r = 1) → ∀ (pc : Nat) (lv : List (Nat × Value)), decode ze_M_keptOut pc = .ok (.ireturn, 1) → zg_G p l e R s m args below meth c Q h0 D dA 11 c0 k0 s0 s0 pc lv [.int r]) (n : Nat) (r20 : zh_S → Nat → Int32 → Int64 → Int32 → Int32 → Option Int32) (hr20 : ∀ (a0 : Nat) (i2 : Int32) (j3 : Int64) (i5 : Int32) (i6 : Int32), r20 s0 a0 i2 j3 i5 i6 = some r → zg_G p l e R s m args below meth c Q h0 D dA 11 c0 k0 s0 s0 20 [(0, .ref (h0 + a0)), (2, .int i2), (3, .long j3), (5, .int i5), (6, .int i6)] []) : ∀ (a0 : Nat) (i2 : Int32) (j3 : Int64) (i6 : Int32), zb_M_keptOut_99 n r20 s0 a0 i2 j3 i6 = some r → zg_G p l e R s m args below meth c Q h0 D dA 11 c0 k0 s0 s0 99 [(0, .ref (h0 + a0)), (2, .int i2), (3, .long j3), (6, .int i6)] [] := by
  obtain ⟨hx, hb, hml, hown, htT, hrt, hlk, x00, hIn⟩ := id X
  have hK := hIn.2.1
  have hT := hIn.2.2.1
  have hNe := hIn.2.2.2
  intro a0 i2 j3 i6 hf
  rw [zb_M_keptOut_99] at hf
  refine zg_1 (pc' := 100) (fun _ _ _ _ _ hl w => lv_iconst (v := (0 : Int32)) hx hb zd_M_keptOut_99 (by decide) w) ?_
  exact zw_M_keptOut_100 X hR hF hret n _ hr20 a0 i2 j3 i6 (0 : Int32) hf
set_option maxHeartbeats 4000000 in
theorem zw_M_keptOut_79 {p : Program} {l : Launch} {e : Env} {R : Room} {s : State} {m : MethodId} {args : Array Value} {below : List Frame} {meth : Method} {c : Code} {Q : State → Prop} {h0 : Nat} {D : va_G} {dA : Nat → ClassId} {tb : Nat → Nat} {c0 k0 : Nat} {s0 : zh_S} {r : Int32} (X : zg_X p s m args meth c ze_M_keptOut 11 zr_M (some .boolean) h0 D dA tb) (hR : zg_R R c0 k0 s0) (hF : 2 ≤ R.frames ∧ 46 ≤ R.locals) (hret : (r = 0 ∨ r = 1) → ∀ (pc : Nat) (lv : List (Nat × Value)), decode ze_M_keptOut pc = .ok (.ireturn, 1) → zg_G p l e R s m args below meth c Q h0 D dA 11 c0 k0 s0 s0 pc lv [.int r]) (n : Nat) (r20 : zh_S → Nat → Int32 → Int64 → Int32 → Int32 → Option Int32) (hr20 : ∀ (a0 : Nat) (i2 : Int32) (j3 : Int64) (i5 : Int32) (i6 : Int32), r20 s0 a0 i2 j3 i5 i6 = some r → zg_G p l e R s m args below meth c Q h0 D dA 11 c0 k0 s0 s0 20 [(0, .ref (h0 + a0)), (2, .int i2), (3, .long j3), (5, .int i5), (6, .int i6)] []) : ∀ (a0 : Nat) (i2 : Int32) (j3 : Int64) (i6 : Int32) (j9 : Int64), zb_M_keptOut_79 n r20 s0 a0 i2 j3 i6 j9 = some r → zg_G p l e R s m args below meth c Q h0 D dA 11 c0 k0 s0 s0 79 [(0, .ref (h0 + a0)), (2, .int i2), (3, .long j3), (6, .int i6), (9, .long j9)] [] := by
  obtain ⟨hx, hb, hml, hown, htT, hrt, hlk, x00, hIn⟩ := id X
  have hK := hIn.2.1
  have hT := hIn.2.2.1
  have hNe := hIn.2.2.2
  intro a0 i2 j3 i6 j9 hf
  rw [zb_M_keptOut_79] at hf
  refine zg_1 (pc' := 81) (fun _ _ _ _ _ hl w => lv_lload hx hb zd_M_keptOut_79 (lv_at hl 4 rfl) w) ?_
  refine zg_1 (pc' := 82) (fun _ _ _ _ _ hl w => lv_lconst (v := (0 : Int64)) hx hb zd_M_keptOut_81 (by decide) w) ?_
  refine zg_1 (pc' := 83) (fun _ _ _ _ _ hl w => W.lcmp hx hb zd_M_keptOut_82 w) ?_
  refine zg_2 (pc1 := 99) (pc2 := 86) (Classical.em _) (fun _ _ _ _ _ w1 w2 => lv_if_eq hx hb zd_M_keptOut_83 (by decide) w1 w2) (fun hc => ?_) (fun hc => ?_)
  · rw [if_pos hc] at hf
    refine zg_v [0, 1, 2, 3] rfl ?_
    exact zw_M_keptOut_99 X hR hF hret n _ hr20 a0 i2 j3 i6 hf
  · rw [if_neg hc] at hf
    refine zg_1 (pc' := 87) (fun _ _ _ _ _ hl w => lv_lload_n hx hb zd_M_keptOut_86 rfl (lv_at hl 2 rfl) w) ?_
    refine zg_1 (pc' := 89) (fun _ _ _ _ _ hl w => lv_lload hx hb zd_M_keptOut_87 (lv_at hl 4 rfl) w) ?_
    obtain ⟨i_1, hq, hf⟩ := zx_p hf
    refine zg_call (pc' := 92) (y := s0) (rv := (some (.int i_1))) (rest := []) X hR ⟨Nat.le_refl _, Nat.le_refl _⟩ (fun H locs ls k j hsz hI hU hk => va_runS (As := [.long j3, .long j9]) (rest := []) ⟨hx, hb, hml, hown, htT⟩ (zc_M_within l h0 D dA tb n hq) (va_cwS 2 htT (zw_gS zt_1111 zt_1112 zt_71 zt_1113) rfl rfl rfl (by decide +kernel) ⟨Nat.le_trans (Nat.le_of_ble_eq_true rfl) hF.1, Nat.le_trans (Nat.le_of_ble_eq_true rfl) hF.2⟩) (zg_pre hU) rfl rfl hsz rfl (lv_room (Nat.le_of_ble_eq_true rfl)) zd_M_keptOut_89 hk) rfl ?_
    refine zg_2 (pc1 := 99) (pc2 := 95) (Classical.em _) (fun _ _ _ _ _ w1 w2 => lv_if_eq hx hb zd_M_keptOut_92 (by decide) w1 w2) (fun hc => ?_) (fun hc => ?_)
    · rw [if_pos hc] at hf
      refine zg_v [0, 1, 2, 3] rfl ?_
      exact zw_M_keptOut_99 X hR hF hret n _ hr20 a0 i2 j3 i6 hf
    · rw [if_neg hc] at hf
      refine zg_v [0, 1, 2, 3] rfl ?_
      exact zw_M_keptOut_95 X hR hF hret n _ hr20 a0 i2 j3 i6 hf
set_option maxHeartbeats 4000000 in
theorem zw_M_keptOut_20 {p : Program} {l : Launch} {e : Env} {R : Room} {s : State} {m : MethodId} {args : Array Value} {below : List Frame} {meth : Method} {c : Code} {Q : State → Prop} {h0 : Nat} {D : va_G} {dA : Nat → ClassId} {tb : Nat → Nat} {c0 k0 : Nat} {s0 : zh_S} {r : Int32} (X : zg_X p s m args meth c ze_M_keptOut 11 zr_M (some .boolean) h0 D dA tb) (hR : zg_R R c0 k0 s0) (hF : 2 ≤ R.frames ∧ 46 ≤ R.locals) (hret : (r = 0 ∨ r = 1) → ∀ (pc : Nat) (lv : List (Nat × Value)), decode ze_M_keptOut pc = .ok (.ireturn, 1) → zg_G p l e R s m args below meth c Q h0 D dA 11 c0 k0 s0 s0 pc lv [.int r]) (n : Nat) (k : Nat) : ∀ (a0 : Nat) (i2 : Int32) (j3 : Int64) (i5 : Int32) (i6 : Int32), zl_M_keptOut_20 n k s0 a0 i2 j3 i5 i6 = some r → zg_G p l e R s m args below meth c Q h0 D dA 11 c0 k0 s0 s0 20 [(0, .ref (h0 + a0)), (2, .int i2), (3, .long j3), (5, .int i5), (6, .int i6)] [] := by
  obtain ⟨hx, hb, hml, hown, htT, hrt, hlk, x00, hIn⟩ := id X
  have hK := hIn.2.1
  have hT := hIn.2.2.1
  have hNe := hIn.2.2.2
  induction k with
  | zero => intro a0 i2 j3 i5 i6 hf; cases hf
  | succ k ih =>
    intro a0 i2 j3 i5 i6 hf
    rw [zl_M_keptOut_20] at hf
    refine zg_1 (pc' := 22) (fun _ _ _ _ _ hl w => lv_iload hx hb zd_M_keptOut_20 (lv_at hl 4 rfl) w) ?_
    refine zg_1 (pc' := 23) (fun _ _ _ _ _ hl w => lv_iload_n hx hb zd_M_keptOut_22 rfl (lv_at hl 1 rfl) w) ?_
    refine zg_1 (pc' := 24) (fun _ _ _ _ _ hl w => lv_iconst (v := (1 : Int32)) hx hb zd_M_keptOut_23 (by decide) w) ?_
    refine zg_1 (pc' := 25) (fun _ _ _ _ _ hl w => lv_isub hx hb zd_M_keptOut_24 w) ?_
    refine zg_2 (pc1 := 108) (pc2 := 28) (Classical.em _) (fun _ _ _ _ _ w1 w2 => lv_icmp_ge hx hb zd_M_keptOut_25 (by decide) w1 w2) (fun hc => ?_) (fun hc => ?_)
    · rw [if_pos hc] at hf
      refine zg_1 (pc' := 110) (fun _ _ _ _ _ hl w => lv_iload hx hb zd_M_keptOut_108 (lv_at hl 3 rfl) w) ?_
      obtain ⟨h_1, hf⟩ := zx_ck hf
      obtain rfl := zx_r1 hf
      exact hret h_1 _ _ zd_M_keptOut_110
    · rw [if_neg hc] at hf
      refine zg_1 (pc' := 29) (fun _ _ _ _ _ hl w => lv_aload_n hx hb zd_M_keptOut_28 rfl (lv_at hl 0 rfl) w) ?_
      refine zg_1 (pc' := 30) (fun _ _ _ _ _ hl w => lv_aload_n hx hb zd_M_keptOut_29 rfl (lv_at hl 0 rfl) w) ?_
      obtain ⟨h_2, hf⟩ := zx_ck hf
      obtain ⟨a_3, h_4, hf⟩ := zx_p hf
      refine zg_get (pc' := 33) (ci := 8) hx hb htT zi_M hown hK h_2 rfl rfl 21 (by decide) (htT _ zt_826) (fun _ h9 => h9) (zx_hv h_4) zd_M_keptOut_30 rfl ?_
      refine zg_1 (pc' := 35) (fun _ _ _ _ _ hl w => lv_iload hx hb zd_M_keptOut_33 (lv_at hl 4 rfl) w) ?_
      obtain ⟨h_5, hf⟩ := zx_ck hf
      refine zg_iald (pc' := 36) hx hb hK h_5 zd_M_keptOut_35 rfl ?_
      refine zg_1 (pc' := 38) (fun _ _ _ _ _ hl w => lv_bipush (v := (11 : Int32)) hx hb zd_M_keptOut_36 (by decide) w) ?_
      obtain ⟨j_6, hq, hf⟩ := zx_p hf
      refine zg_call (pc' := 41) (y := s0) (rv := (some (.long j_6))) (rest := []) X hR ⟨Nat.le_refl _, Nat.le_refl _⟩ (fun H locs ls k j hsz hI hU hk => va_runV (As := [.int (zh_I s0 a_3 (i6.toNatClampNeg)), .int (11 : Int32)]) (rest := []) ⟨hx, hb, hml, hown, htT⟩ (zc_M_of l h0 D dA tb n hq) (cwV 2 htT (zw_gV zt_1066 zt_1068 zt_52 zt_71 zt_1069) rfl rfl rfl (by decide +kernel) ⟨Nat.le_trans (Nat.le_of_ble_eq_true rfl) hF.1, Nat.le_trans (Nat.le_of_ble_eq_true rfl) hF.2⟩) ⟨(zg_pre hU).1, zg_recv hK hI h_2 rfl, (zg_pre hU).2⟩ rfl rfl hsz rfl (lv_room (Nat.le_of_ble_eq_true rfl)) zd_M_keptOut_38 hk) rfl ?_
      refine zg_s (pc' := 43) (lv' := [(7, .long j_6), (0, .ref (h0 + a0)), (2, .int i2), (3, .long j3), (5, .int i5), (6, .int i6)]) (fun _ _ _ _ _ hl w => lv_lstore hx hb zd_M_keptOut_41 hl (by decide) rfl w) ?_
      refine zg_1 (pc' := 44) (fun _ _ _ _ _ hl w => lv_aload_n hx hb zd_M_keptOut_43 rfl (lv_at hl 1 rfl) w) ?_
      refine zg_1 (pc' := 45) (fun _ _ _ _ _ hl w => lv_aload_n hx hb zd_M_keptOut_44 rfl (lv_at hl 1 rfl) w) ?_
      obtain ⟨a_7, h_8, hf⟩ := zx_p hf
      refine zg_get (pc' := 48) (ci := 8) hx hb htT zi_M hown hK h_2 rfl rfl 21 (by decide) (htT _ zt_826) (fun _ h9 => h9) (zx_hv h_8) zd_M_keptOut_45 rfl ?_
      refine zg_1 (pc' := 50) (fun _ _ _ _ _ hl w => lv_iload hx hb zd_M_keptOut_48 (lv_at hl 5 rfl) w) ?_
      obtain ⟨h_9, hf⟩ := zx_ck hf
      refine zg_iald (pc' := 51) hx hb hK h_9 zd_M_keptOut_50 rfl ?_
      refine zg_1 (pc' := 53) (fun _ _ _ _ _ hl w => lv_bipush (v := (12 : Int32)) hx hb zd_M_keptOut_51 (by decide) w) ?_
      obtain ⟨j_10, hq, hf⟩ := zx_p hf
      refine zg_call (pc' := 56) (y := s0) (rv := (some (.long j_10))) (rest := []) X hR ⟨Nat.le_refl _, Nat.le_refl _⟩ (fun H locs ls k j hsz hI hU hk => va_runV (As := [.int (zh_I s0 a_7 (i6.toNatClampNeg)), .int (12 : Int32)]) (rest := []) ⟨hx, hb, hml, hown, htT⟩ (zc_M_of l h0 D dA tb n hq) (cwV 2 htT (zw_gV zt_1066 zt_1068 zt_52 zt_71 zt_1069) rfl rfl rfl (by decide +kernel) ⟨Nat.le_trans (Nat.le_of_ble_eq_true rfl) hF.1, Nat.le_trans (Nat.le_of_ble_eq_true rfl) hF.2⟩) ⟨(zg_pre hU).1, zg_recv hK hI h_2 rfl, (zg_pre hU).2⟩ rfl rfl hsz rfl (lv_room (Nat.le_of_ble_eq_true rfl)) zd_M_keptOut_53 hk) rfl ?_
      refine zg_s (pc' := 58) (lv' := [(9, .long j_10), (7, .long j_6), (0, .ref (h0 + a0)), (2, .int i2), (3, .long j3), (5, .int i5), (6, .int i6)]) (fun _ _ _ _ _ hl w => lv_lstore hx hb zd_M_keptOut_56 hl (by decide) rfl w) ?_
      refine zg_1 (pc' := 60) (fun _ _ _ _ _ hl w => lv_iload hx hb zd_M_keptOut_58 (lv_at hl 5 rfl) w) ?_
      refine zg_2 (pc1 := 95) (pc2 := 63) (Classical.em _).symm (fun _ _ _ _ _ w1 w2 => lv_if_ne hx hb zd_M_keptOut_60 (by decide) w1 w2) (fun hc => ?_) (fun hc => ?_)
      · rw [if_neg hc] at hf
        refine zg_v [2, 3, 4, 6] rfl ?_
        exact zw_M_keptOut_95 X hR hF hret n _ ih a0 i2 j3 i6 hf
      · rw [if_pos hc] at hf
        refine zg_1 (pc' := 65) (fun _ _ _ _ _ hl w => lv_lload hx hb zd_M_keptOut_63 (lv_at hl 1 rfl) w) ?_
        refine zg_1 (pc' := 66) (fun _ _ _ _ _ hl w => lv_lconst (v := (0 : Int64)) hx hb zd_M_keptOut_65 (by decide) w) ?_
        refine zg_1 (pc' := 67) (fun _ _ _ _ _ hl w => W.lcmp hx hb zd_M_keptOut_66 w) ?_
        refine zg_2 (pc1 := 79) (pc2 := 70) (Classical.em _) (fun _ _ _ _ _ w1 w2 => lv_if_eq hx hb zd_M_keptOut_67 (by decide) w1 w2) (fun hc => ?_) (fun hc => ?_)
        · rw [if_pos hc] at hf
          refine zg_v [2, 3, 4, 6, 0] rfl ?_
          exact zw_M_keptOut_79 X hR hF hret n _ ih a0 i2 j3 i6 j_10 hf
        · rw [if_neg hc] at hf
          refine zg_1 (pc' := 71) (fun _ _ _ _ _ hl w => lv_lload_n hx hb zd_M_keptOut_70 rfl (lv_at hl 4 rfl) w) ?_
          refine zg_1 (pc' := 73) (fun _ _ _ _ _ hl w => lv_lload hx hb zd_M_keptOut_71 (lv_at hl 1 rfl) w) ?_
          obtain ⟨i_11, hq, hf⟩ := zx_p hf
          refine zg_call (pc' := 76) (y := s0) (rv := (some (.int i_11))) (rest := []) X hR ⟨Nat.le_refl _, Nat.le_refl _⟩ (fun H locs ls k j hsz hI hU hk => va_runS (As := [.long j3, .long j_6]) (rest := []) ⟨hx, hb, hml, hown, htT⟩ (zc_M_within l h0 D dA tb n hq) (va_cwS 2 htT (zw_gS zt_1111 zt_1112 zt_71 zt_1113) rfl rfl rfl (by decide +kernel) ⟨Nat.le_trans (Nat.le_of_ble_eq_true rfl) hF.1, Nat.le_trans (Nat.le_of_ble_eq_true rfl) hF.2⟩) (zg_pre hU) rfl rfl hsz rfl (lv_room (Nat.le_of_ble_eq_true rfl)) zd_M_keptOut_73 hk) rfl ?_
          refine zg_2 (pc1 := 95) (pc2 := 79) (Classical.em _) (fun _ _ _ _ _ w1 w2 => lv_if_eq hx hb zd_M_keptOut_76 (by decide) w1 w2) (fun hc => ?_) (fun hc => ?_)
          · rw [if_pos hc] at hf
            refine zg_v [2, 3, 4, 6] rfl ?_
            exact zw_M_keptOut_95 X hR hF hret n _ ih a0 i2 j3 i6 hf
          · rw [if_neg hc] at hf
            refine zg_v [2, 3, 4, 6, 0] rfl ?_
            exact zw_M_keptOut_79 X hR hF hret n _ ih a0 i2 j3 i6 j_10 hf
set_option maxHeartbeats 4000000 in
theorem zc_M_keptOut (l : Launch) (h0 : Nat) (D : va_G) (dA : Nat → ClassId) (tb : Nat → Nat) (n : Nat) {s0 : zh_S} {a0 : Nat} {i1 : Int32} {i2 : Int32} {r : Int32} (hf : zf_M_keptOut n s0 a0 i1 i2 = some r) : zc_M l zn_M_keptOut zs_M_keptOut 2 46 h0 D dA tb [.ref (h0 + a0), .int i1, .int i2] s0 (some (.int r)) s0 := by
  rw [zf_M_keptOut] at hf
  refine zc_of (cc := ze_M_keptOut) (maxL := 11) (ret := (some .boolean)) (lv := [(0, .ref (h0 + a0)), (1, .int i1), (2, .int i2)]) (by decide) rfl (Nat.le_of_ble_eq_true rfl) rfl ?_
  intro p e s m args below meth c X hnm
  obtain ⟨hx, hb, hml, hown, htT, hrt, hlk, x00, hIn⟩ := id X
  have hK := hIn.2.1
  have hT := hIn.2.2.1
  have hNe := hIn.2.2.2
  have hR : zg_R { frames := 2, cells := zh_N s0 - zh_N s0, slots := zh_M s0 - zh_M s0, locals := 46 } (zh_N s0) (zh_M s0) s0 := ⟨by show zh_N s0 ≤ zh_N s0 + (zh_N s0 - zh_N s0); omega, by show zh_M s0 ≤ zh_M s0 + (zh_M s0 - zh_M s0); omega⟩
  have hF : 2 ≤ ({ frames := 2, cells := zh_N s0 - zh_N s0, slots := zh_M s0 - zh_M s0, locals := 46 } : Room).frames ∧ 46 ≤ ({ frames := 2, cells := zh_N s0 - zh_N s0, slots := zh_M s0 - zh_M s0, locals := 46 } : Room).locals := ⟨Nat.le_refl _, Nat.le_refl _⟩
  have hret := fun (hz : r = 0 ∨ r = 1) (pc : Nat) (lv : List (Nat × Value)) (hd : decode ze_M_keptOut pc = .ok (.ireturn, 1)) => zg_iret (R := { frames := 2, cells := zh_N s0 - zh_N s0, slots := zh_M s0 - zh_M s0, locals := 46 }) (l := l) (e := e) (below := below) (c0 := zh_N s0) (s0 := zh_M s0) (z := s0) (lv := lv) (v := r) X (zx_nz hz) hd
  refine zg_1 (pc' := 1) (fun _ _ _ _ _ hl w => lv_aload_n hx hb zd_M_keptOut_0 rfl (lv_at hl 0 rfl) w) ?_
  refine zg_1 (pc' := 2) (fun _ _ _ _ _ hl w => lv_aload_n hx hb zd_M_keptOut_1 rfl (lv_at hl 0 rfl) w) ?_
  obtain ⟨h_1, hf⟩ := zx_ck hf
  obtain ⟨a_2, h_3, hf⟩ := zx_p hf
  refine zg_get (pc' := 5) (ci := 8) hx hb htT zi_M hown hK h_1 rfl rfl 21 (by decide) (htT _ zt_826) (fun _ h9 => h9) (zx_hv h_3) zd_M_keptOut_2 rfl ?_
  refine zg_1 (pc' := 6) (fun _ _ _ _ _ hl w => lv_iload_n hx hb zd_M_keptOut_5 rfl (lv_at hl 1 rfl) w) ?_
  obtain ⟨h_4, hf⟩ := zx_ck hf
  refine zg_iald (pc' := 7) hx hb hK h_4 zd_M_keptOut_6 rfl ?_
  refine zg_1 (pc' := 8) (fun _ _ _ _ _ hl w => lv_iconst (v := (4 : Int32)) hx hb zd_M_keptOut_7 (by decide) w) ?_
  obtain ⟨j_5, hq, hf⟩ := zx_p hf
  refine zg_call (pc' := 11) (y := s0) (rv := (some (.long j_5))) (rest := []) X hR ⟨Nat.le_refl _, Nat.le_refl _⟩ (fun H locs ls k j hsz hI hU hk => va_runV (As := [.int (zh_I s0 a_2 (i1.toNatClampNeg)), .int (4 : Int32)]) (rest := []) ⟨hx, hb, hml, hown, htT⟩ (zc_M_of l h0 D dA tb n hq) (cwV 2 htT (zw_gV zt_1066 zt_1068 zt_52 zt_71 zt_1069) rfl rfl rfl (by decide +kernel) ⟨Nat.le_trans (Nat.le_of_ble_eq_true rfl) hF.1, Nat.le_trans (Nat.le_of_ble_eq_true rfl) hF.2⟩) ⟨(zg_pre hU).1, zg_recv hK hI h_1 rfl, (zg_pre hU).2⟩ rfl rfl hsz rfl (lv_room (Nat.le_of_ble_eq_true rfl)) zd_M_keptOut_8 hk) rfl ?_
  refine zg_s (pc' := 12) (lv' := [(3, .long j_5), (0, .ref (h0 + a0)), (1, .int i1), (2, .int i2)]) (fun _ _ _ _ _ hl w => lv_lstore_n hx hb zd_M_keptOut_11 rfl hl (by decide) rfl w) ?_
  refine zg_1 (pc' := 13) (fun _ _ _ _ _ hl w => lv_iconst (v := (0 : Int32)) hx hb zd_M_keptOut_12 (by decide) w) ?_
  refine zg_s (pc' := 15) (lv' := [(5, .int (0 : Int32)), (3, .long j_5), (0, .ref (h0 + a0)), (1, .int i1), (2, .int i2)]) (fun _ _ _ _ _ hl w => lv_istore hx hb zd_M_keptOut_13 hl (by decide) rfl w) ?_
  refine zg_1 (pc' := 16) (fun _ _ _ _ _ hl w => lv_iload_n hx hb zd_M_keptOut_15 rfl (lv_at hl 3 rfl) w) ?_
  refine zg_1 (pc' := 17) (fun _ _ _ _ _ hl w => lv_iconst (v := (1 : Int32)) hx hb zd_M_keptOut_16 (by decide) w) ?_
  refine zg_1 (pc' := 18) (fun _ _ _ _ _ hl w => lv_iadd hx hb zd_M_keptOut_17 w) ?_
  obtain ⟨i_6, e_i_6, hf⟩ := zx_l hf
  refine zg_ti e_i_6 ?_
  refine zg_s (pc' := 20) (lv' := [(6, .int i_6), (5, .int (0 : Int32)), (3, .long j_5), (0, .ref (h0 + a0)), (1, .int i1), (2, .int i2)]) (fun _ _ _ _ _ hl w => lv_istore hx hb zd_M_keptOut_18 hl (by decide) rfl w) ?_
  refine zg_v [3, 5, 2, 1, 0] rfl ?_
  exact zw_M_keptOut_20 X hR hF hret n n a0 i2 j_5 (0 : Int32) i_6 hf
set_option maxHeartbeats 4000000 in
theorem zw_M_between_41 {p : Program} {l : Launch} {e : Env} {R : Room} {s : State} {m : MethodId} {args : Array Value} {below : List Frame} {meth : Method} {c : Code} {Q : State → Prop} {h0 : Nat} {D : va_G} {dA : Nat → ClassId} {tb : Nat → Nat} {c0 k0 : Nat} {s0 : zh_S} {r : Int32} (X : zg_X p s m args meth c ze_M_between 4 zr_M (some .int) h0 D dA tb) (hR : zg_R R c0 k0 s0) (hF : 1 ≤ R.frames ∧ 22 ≤ R.locals) (hret : ∀ (pc : Nat) (lv : List (Nat × Value)), decode ze_M_between pc = .ok (.ireturn, 1) → zg_G p l e R s m args below meth c Q h0 D dA 4 c0 k0 s0 s0 pc lv [.int r]) (n : Nat) (r4 : zh_S → Nat → Int32 → Int32 → Int32 → Option Int32) (hr4 : ∀ (a0 : Nat) (i1 : Int32) (i2 : Int32) (i3 : Int32), r4 s0 a0 i1 i2 i3 = some r → zg_G p l e R s m args below meth c Q h0 D dA 4 c0 k0 s0 s0 4 [(0, .ref (h0 + a0)), (1, .int i1), (2, .int i2), (3, .int i3)] []) : ∀ (a0 : Nat) (i1 : Int32) (i3 : Int32) (it0 : Int32) (it1 : Int32), zb_M_between_41 n r4 s0 a0 i1 i3 it0 it1 = some r → zg_G p l e R s m args below meth c Q h0 D dA 4 c0 k0 s0 s0 41 [(0, .ref (h0 + a0)), (1, .int i1), (3, .int i3)] [.int it1, .int it0] := by
  obtain ⟨hx, hb, hml, hown, htT, hrt, hlk, x00, hIn⟩ := id X
  have hK := hIn.2.1
  have hT := hIn.2.2.1
  have hNe := hIn.2.2.2
  intro a0 i1 i3 it0 it1 hf
  rw [zb_M_between_41] at hf
  refine zg_1 (pc' := 42) (fun _ _ _ _ _ hl w => lv_iadd hx hb zd_M_between_41 w) ?_
  obtain ⟨i_1, e_i_1, hf⟩ := zx_l hf
  refine zg_ti e_i_1 ?_
  refine zg_s (pc' := 43) (lv' := [(2, .int i_1), (0, .ref (h0 + a0)), (1, .int i1), (3, .int i3)]) (fun _ _ _ _ _ hl w => lv_istore_n hx hb zd_M_between_42 rfl hl (by decide) rfl w) ?_
  obtain ⟨i_2, e_i_2, hf⟩ := zx_l hf
  refine zg_s (pc' := 46) (lv' := [(3, .int i_2), (2, .int i_1), (0, .ref (h0 + a0)), (1, .int i1)]) (fun _ _ _ _ _ hl w => lv_iinc (k := 3) (v := i_2) hx hb zd_M_between_43 hl rfl (by rw [e_i_2]; rfl) (by decide) rfl w) ?_
  refine zg_1 (pc' := 4) (fun _ _ _ _ _ hl w => lv_goto hx hb zd_M_between_46 (by decide) w) ?_
  refine zg_v [2, 3, 1, 0] rfl ?_
  exact hr4 a0 i1 i_1 i_2 hf
set_option maxHeartbeats 4000000 in
theorem zw_M_between_4 {p : Program} {l : Launch} {e : Env} {R : Room} {s : State} {m : MethodId} {args : Array Value} {below : List Frame} {meth : Method} {c : Code} {Q : State → Prop} {h0 : Nat} {D : va_G} {dA : Nat → ClassId} {tb : Nat → Nat} {c0 k0 : Nat} {s0 : zh_S} {r : Int32} (X : zg_X p s m args meth c ze_M_between 4 zr_M (some .int) h0 D dA tb) (hR : zg_R R c0 k0 s0) (hF : 1 ≤ R.frames ∧ 22 ≤ R.locals) (hret : ∀ (pc : Nat) (lv : List (Nat × Value)), decode ze_M_between pc = .ok (.ireturn, 1) → zg_G p l e R s m args below meth c Q h0 D dA 4 c0 k0 s0 s0 pc lv [.int r]) (n : Nat) (k : Nat) : ∀ (a0 : Nat) (i1 : Int32) (i2 : Int32) (i3 : Int32), zl_M_between_4 n k s0 a0 i1 i2 i3 = some r → zg_G p l e R s m args below meth c Q h0 D dA 4 c0 k0 s0 s0 4 [(0, .ref (h0 + a0)), (1, .int i1), (2, .int i2), (3, .int i3)] [] := by
  obtain ⟨hx, hb, hml, hown, htT, hrt, hlk, x00, hIn⟩ := id X
  have hK := hIn.2.1
  have hT := hIn.2.2.1
  have hNe := hIn.2.2.2
  induction k with
  | zero => intro a0 i1 i2 i3 hf; cases hf
  | succ k ih =>
    intro a0 i1 i2 i3 hf
    rw [zl_M_between_4] at hf
    refine zg_1 (pc' := 5) (fun _ _ _ _ _ hl w => lv_iload_n hx hb zd_M_between_4 rfl (lv_at hl 3 rfl) w) ?_
    refine zg_1 (pc' := 6) (fun _ _ _ _ _ hl w => lv_iload_n hx hb zd_M_between_5 rfl (lv_at hl 1 rfl) w) ?_
    refine zg_2 (pc1 := 49) (pc2 := 9) (Classical.em _) (fun _ _ _ _ _ w1 w2 => lv_icmp_ge hx hb zd_M_between_6 (by decide) w1 w2) (fun hc => ?_) (fun hc => ?_)
    · rw [if_pos hc] at hf
      refine zg_1 (pc' := 50) (fun _ _ _ _ _ hl w => lv_iload_n hx hb zd_M_between_49 rfl (lv_at hl 2 rfl) w) ?_
      obtain rfl := zx_r1 hf
      exact hret _ _ zd_M_between_50
    · rw [if_neg hc] at hf
      refine zg_1 (pc' := 10) (fun _ _ _ _ _ hl w => lv_iload_n hx hb zd_M_between_9 rfl (lv_at hl 2 rfl) w) ?_
      refine zg_1 (pc' := 11) (fun _ _ _ _ _ hl w => lv_aload_n hx hb zd_M_between_10 rfl (lv_at hl 0 rfl) w) ?_
      refine zg_1 (pc' := 12) (fun _ _ _ _ _ hl w => lv_aload_n hx hb zd_M_between_11 rfl (lv_at hl 0 rfl) w) ?_
      obtain ⟨h_1, hf⟩ := zx_ck hf
      obtain ⟨a_2, h_3, hf⟩ := zx_p hf
      refine zg_get (pc' := 15) (ci := 8) hx hb htT zi_M hown hK h_1 rfl rfl 21 (by decide) (htT _ zt_826) (fun _ h9 => h9) (zx_hv h_3) zd_M_between_12 rfl ?_
      refine zg_1 (pc' := 16) (fun _ _ _ _ _ hl w => lv_iload_n hx hb zd_M_between_15 rfl (lv_at hl 3 rfl) w) ?_
      obtain ⟨h_4, hf⟩ := zx_ck hf
      refine zg_iald (pc' := 17) hx hb hK h_4 zd_M_between_16 rfl ?_
      refine zg_1 (pc' := 18) (fun _ _ _ _ _ hl w => lv_iconst (v := (1 : Int32)) hx hb zd_M_between_17 (by decide) w) ?_
      obtain ⟨j_5, hq, hf⟩ := zx_p hf
      refine zg_call (pc' := 21) (y := s0) (rv := (some (.long j_5))) (rest := [.int i2]) X hR ⟨Nat.le_refl _, Nat.le_refl _⟩ (fun H locs ls k j hsz hI hU hk => va_runV (As := [.int (zh_I s0 a_2 (i3.toNatClampNeg)), .int (1 : Int32)]) (rest := [.int i2]) ⟨hx, hb, hml, hown, htT⟩ (zc_M_of l h0 D dA tb n hq) (cwV 2 htT (zw_gV zt_1066 zt_1068 zt_52 zt_71 zt_1069) rfl rfl rfl (by decide +kernel) ⟨Nat.le_trans (Nat.le_of_ble_eq_true rfl) hF.1, Nat.le_trans (Nat.le_of_ble_eq_true rfl) hF.2⟩) ⟨(zg_pre hU).1, zg_recv hK hI h_1 rfl, (zg_pre hU).2⟩ rfl rfl hsz rfl (lv_room (Nat.le_of_ble_eq_true rfl)) zd_M_between_18 hk) rfl ?_
      refine zg_1 (pc' := 22) (fun _ _ _ _ _ hl w => lv_aload_n hx hb zd_M_between_21 rfl (lv_at hl 0 rfl) w) ?_
      refine zg_1 (pc' := 23) (fun _ _ _ _ _ hl w => lv_aload_n hx hb zd_M_between_22 rfl (lv_at hl 0 rfl) w) ?_
      obtain ⟨a_6, h_7, hf⟩ := zx_p hf
      refine zg_get (pc' := 26) (ci := 8) hx hb htT zi_M hown hK h_1 rfl rfl 21 (by decide) (htT _ zt_826) (fun _ h9 => h9) (zx_hv h_7) zd_M_between_23 rfl ?_
      refine zg_1 (pc' := 27) (fun _ _ _ _ _ hl w => lv_iload_n hx hb zd_M_between_26 rfl (lv_at hl 3 rfl) w) ?_
      obtain ⟨h_8, hf⟩ := zx_ck hf
      refine zg_iald (pc' := 28) hx hb hK h_8 zd_M_between_27 rfl ?_
      refine zg_1 (pc' := 29) (fun _ _ _ _ _ hl w => lv_iconst (v := (4 : Int32)) hx hb zd_M_between_28 (by decide) w) ?_
      obtain ⟨j_9, hq, hf⟩ := zx_p hf
      refine zg_call (pc' := 32) (y := s0) (rv := (some (.long j_9))) (rest := [.long j_5, .int i2]) X hR ⟨Nat.le_refl _, Nat.le_refl _⟩ (fun H locs ls k j hsz hI hU hk => va_runV (As := [.int (zh_I s0 a_6 (i3.toNatClampNeg)), .int (4 : Int32)]) (rest := [.long j_5, .int i2]) ⟨hx, hb, hml, hown, htT⟩ (zc_M_of l h0 D dA tb n hq) (cwV 2 htT (zw_gV zt_1066 zt_1068 zt_52 zt_71 zt_1069) rfl rfl rfl (by decide +kernel) ⟨Nat.le_trans (Nat.le_of_ble_eq_true rfl) hF.1, Nat.le_trans (Nat.le_of_ble_eq_true rfl) hF.2⟩) ⟨(zg_pre hU).1, zg_recv hK hI h_1 rfl, (zg_pre hU).2⟩ rfl rfl hsz rfl (lv_room (Nat.le_of_ble_eq_true rfl)) zd_M_between_29 hk) rfl ?_
      refine zg_1 (pc' := 33) (fun _ _ _ _ _ hl w => W.lcmp hx hb zd_M_between_32 w) ?_
      refine zg_2 (pc1 := 40) (pc2 := 36) (Classical.em _).symm (fun _ _ _ _ _ w1 w2 => lv_if_ne hx hb zd_M_between_33 (by decide) w1 w2) (fun hc => ?_) (fun hc => ?_)
      · rw [if_neg hc] at hf
        refine zg_1 (pc' := 41) (fun _ _ _ _ _ hl w => lv_iconst (v := (1 : Int32)) hx hb zd_M_between_40 (by decide) w) ?_
        refine zg_v [0, 1, 3] rfl ?_
        exact zw_M_between_41 X hR hF hret n _ ih a0 i1 i3 i2 (1 : Int32) hf
      · rw [if_pos hc] at hf
        refine zg_1 (pc' := 37) (fun _ _ _ _ _ hl w => lv_iconst (v := (0 : Int32)) hx hb zd_M_between_36 (by decide) w) ?_
        refine zg_1 (pc' := 41) (fun _ _ _ _ _ hl w => lv_goto hx hb zd_M_between_37 (by decide) w) ?_
        refine zg_v [0, 1, 3] rfl ?_
        exact zw_M_between_41 X hR hF hret n _ ih a0 i1 i3 i2 (0 : Int32) hf
set_option maxHeartbeats 4000000 in
theorem zc_M_between (l : Launch) (h0 : Nat) (D : va_G) (dA : Nat → ClassId) (tb : Nat → Nat) (n : Nat) {s0 : zh_S} {a0 : Nat} {i1 : Int32} {r : Int32} (hf : zf_M_between n s0 a0 i1 = some r) : zc_M l zn_M_between zs_M_between 1 22 h0 D dA tb [.ref (h0 + a0), .int i1] s0 (some (.int r)) s0 := by
  rw [zf_M_between] at hf
  refine zc_of (cc := ze_M_between) (maxL := 4) (ret := (some .int)) (lv := [(0, .ref (h0 + a0)), (1, .int i1)]) (by decide) rfl (Nat.le_of_ble_eq_true rfl) rfl ?_
  intro p e s m args below meth c X hnm
  obtain ⟨hx, hb, hml, hown, htT, hrt, hlk, x00, hIn⟩ := id X
  have hK := hIn.2.1
  have hT := hIn.2.2.1
  have hNe := hIn.2.2.2
  have hR : zg_R { frames := 1, cells := zh_N s0 - zh_N s0, slots := zh_M s0 - zh_M s0, locals := 22 } (zh_N s0) (zh_M s0) s0 := ⟨by show zh_N s0 ≤ zh_N s0 + (zh_N s0 - zh_N s0); omega, by show zh_M s0 ≤ zh_M s0 + (zh_M s0 - zh_M s0); omega⟩
  have hF : 1 ≤ ({ frames := 1, cells := zh_N s0 - zh_N s0, slots := zh_M s0 - zh_M s0, locals := 22 } : Room).frames ∧ 22 ≤ ({ frames := 1, cells := zh_N s0 - zh_N s0, slots := zh_M s0 - zh_M s0, locals := 22 } : Room).locals := ⟨Nat.le_refl _, Nat.le_refl _⟩
  have hret := fun (pc : Nat) (lv : List (Nat × Value)) (hd : decode ze_M_between pc = .ok (.ireturn, 1)) => zg_iret (R := { frames := 1, cells := zh_N s0 - zh_N s0, slots := zh_M s0 - zh_M s0, locals := 22 }) (l := l) (e := e) (below := below) (c0 := zh_N s0) (s0 := zh_M s0) (z := s0) (lv := lv) (v := r) X rfl hd
  refine zg_1 (pc' := 1) (fun _ _ _ _ _ hl w => lv_iconst (v := (0 : Int32)) hx hb zd_M_between_0 (by decide) w) ?_
  refine zg_s (pc' := 2) (lv' := [(2, .int (0 : Int32)), (0, .ref (h0 + a0)), (1, .int i1)]) (fun _ _ _ _ _ hl w => lv_istore_n hx hb zd_M_between_1 rfl hl (by decide) rfl w) ?_
  refine zg_1 (pc' := 3) (fun _ _ _ _ _ hl w => lv_iconst (v := (1 : Int32)) hx hb zd_M_between_2 (by decide) w) ?_
  refine zg_s (pc' := 4) (lv' := [(3, .int (1 : Int32)), (2, .int (0 : Int32)), (0, .ref (h0 + a0)), (1, .int i1)]) (fun _ _ _ _ _ hl w => lv_istore_n hx hb zd_M_between_3 rfl hl (by decide) rfl w) ?_
  refine zg_v [2, 3, 1, 0] rfl ?_
  exact zw_M_between_4 X hR hF hret n n a0 i1 (0 : Int32) (1 : Int32) hf
set_option maxHeartbeats 4000000 in
theorem zw_M_against_186 {p : Program} {l : Launch} {e : Env} {R : Room} {s : State} {m : MethodId} {args : Array Value} {below : List Frame} {meth : Method} {c : Code} {Q : State → Prop} {h0 : Nat} {D : va_G} {dA : Nat → ClassId} {tb : Nat → Nat} {c0 k0 : Nat} {s0 : zh_S} {r : Int32} (X : zg_X p s m args meth c ze_M_against 9 zr_M (some .int) h0 D dA tb) (hR : zg_R R c0 k0 s0) (hF : 5 ≤ R.frames ∧ 146 ≤ R.locals) (hret : ∀ (pc : Nat) (lv : List (Nat × Value)), decode ze_M_against pc = .ok (.ireturn, 1) → zg_G p l e R s m args below meth c Q h0 D dA 9 c0 k0 s0 s0 pc lv [.int r]) (n : Nat) : ∀ (a0 : Nat) (i6 : Int32), zb_M_against_186 n s0 a0 i6 = some r → zg_G p l e R s m args below meth c Q h0 D dA 9 c0 k0 s0 s0 186 [(0, .ref (h0 + a0)), (6, .int i6)] [] := by
  obtain ⟨hx, hb, hml, hown, htT, hrt, hlk, x00, hIn⟩ := id X
  have hK := hIn.2.1
  have hT := hIn.2.2.1
  have hNe := hIn.2.2.2
  intro a0 i6 hf
  rw [zb_M_against_186] at hf
  refine zg_1 (pc' := 187) (fun _ _ _ _ _ hl w => lv_aload_n hx hb zd_M_against_186 rfl (lv_at hl 0 rfl) w) ?_
  refine zg_1 (pc' := 189) (fun _ _ _ _ _ hl w => lv_iload hx hb zd_M_against_187 (lv_at hl 1 rfl) w) ?_
  refine zg_1 (pc' := 191) (fun _ _ _ _ _ hl w => lv_bipush (v := (10 : Int32)) hx hb zd_M_against_189 (by decide) w) ?_
  obtain ⟨h_1, hf⟩ := zx_ck hf
  obtain ⟨j_2, hq, hf⟩ := zx_p hf
  refine zg_call (pc' := 194) (y := s0) (rv := (some (.long j_2))) (rest := []) X hR ⟨Nat.le_refl _, Nat.le_refl _⟩ (fun H locs ls k j hsz hI hU hk => va_runV (As := [.int i6, .int (10 : Int32)]) (rest := []) ⟨hx, hb, hml, hown, htT⟩ (zc_M_of l h0 D dA tb n hq) (cwV 2 htT (zw_gV zt_1066 zt_1068 zt_52 zt_71 zt_1069) rfl rfl rfl (by decide +kernel) ⟨Nat.le_trans (Nat.le_of_ble_eq_true rfl) hF.1, Nat.le_trans (Nat.le_of_ble_eq_true rfl) hF.2⟩) ⟨(zg_pre hU).1, zg_recv hK hI h_1 rfl, (zg_pre hU).2⟩ rfl rfl hsz rfl (lv_room (Nat.le_of_ble_eq_true rfl)) zd_M_against_191 hk) rfl ?_
  refine zg_1 (pc' := 195) (fun _ _ _ _ _ hl w => lv_lconst (v := (0 : Int64)) hx hb zd_M_against_194 (by decide) w) ?_
  refine zg_1 (pc' := 196) (fun _ _ _ _ _ hl w => W.lcmp hx hb zd_M_against_195 w) ?_
  refine zg_2 (pc1 := 219) (pc2 := 199) (Classical.em _) (fun _ _ _ _ _ w1 w2 => lv_if_eq hx hb zd_M_against_196 (by decide) w1 w2) (fun hc => ?_) (fun hc => ?_)
  · rw [if_pos hc] at hf
    refine zg_1 (pc' := 220) (fun _ _ _ _ _ hl w => lv_iconst (v := (0 : Int32)) hx hb zd_M_against_219 (by decide) w) ?_
    obtain rfl := zx_r1 hf
    exact hret _ _ zd_M_against_220
  · rw [if_neg hc] at hf
    refine zg_1 (pc' := 200) (fun _ _ _ _ _ hl w => lv_aload_n hx hb zd_M_against_199 rfl (lv_at hl 0 rfl) w) ?_
    refine zg_1 (pc' := 202) (fun _ _ _ _ _ hl w => lv_iload hx hb zd_M_against_200 (lv_at hl 1 rfl) w) ?_
    refine zg_1 (pc' := 204) (fun _ _ _ _ _ hl w => lv_bipush (v := (10 : Int32)) hx hb zd_M_against_202 (by decide) w) ?_
    obtain ⟨j_3, hq, hf⟩ := zx_p hf
    refine zg_call (pc' := 207) (y := s0) (rv := (some (.long j_3))) (rest := []) X hR ⟨Nat.le_refl _, Nat.le_refl _⟩ (fun H locs ls k j hsz hI hU hk => va_runV (As := [.int i6, .int (10 : Int32)]) (rest := []) ⟨hx, hb, hml, hown, htT⟩ (zc_M_of l h0 D dA tb n hq) (cwV 2 htT (zw_gV zt_1066 zt_1068 zt_52 zt_71 zt_1069) rfl rfl rfl (by decide +kernel) ⟨Nat.le_trans (Nat.le_of_ble_eq_true rfl) hF.1, Nat.le_trans (Nat.le_of_ble_eq_true rfl) hF.2⟩) ⟨(zg_pre hU).1, zg_recv hK hI h_1 rfl, (zg_pre hU).2⟩ rfl rfl hsz rfl (lv_room (Nat.le_of_ble_eq_true rfl)) zd_M_against_204 hk) rfl ?_
    refine zg_1 (pc' := 208) (fun _ _ _ _ _ hl w => lv_lconst (v := (1 : Int64)) hx hb zd_M_against_207 (by decide) w) ?_
    refine zg_1 (pc' := 209) (fun _ _ _ _ _ hl w => lv_land hx hb zd_M_against_208 w) ?_
    refine zg_1 (pc' := 210) (fun _ _ _ _ _ hl w => lv_lconst (v := (0 : Int64)) hx hb zd_M_against_209 (by decide) w) ?_
    refine zg_1 (pc' := 211) (fun _ _ _ _ _ hl w => W.lcmp hx hb zd_M_against_210 w) ?_
    refine zg_2 (pc1 := 219) (pc2 := 214) (Classical.em _).symm (fun _ _ _ _ _ w1 w2 => lv_if_ne hx hb zd_M_against_211 (by decide) w1 w2) (fun hc => ?_) (fun hc => ?_)
    · rw [if_neg hc] at hf
      refine zg_1 (pc' := 220) (fun _ _ _ _ _ hl w => lv_iconst (v := (0 : Int32)) hx hb zd_M_against_219 (by decide) w) ?_
      obtain rfl := zx_r1 hf
      exact hret _ _ zd_M_against_220
    · rw [if_pos hc] at hf
      refine zg_1 (pc' := 216) (fun _ _ _ _ _ hl w => lv_bipush (v := (9 : Int32)) hx hb zd_M_against_214 (by decide) w) ?_
      refine zg_1 (pc' := 220) (fun _ _ _ _ _ hl w => lv_goto hx hb zd_M_against_216 (by decide) w) ?_
      obtain rfl := zx_r1 hf
      exact hret _ _ zd_M_against_220
set_option maxHeartbeats 4000000 in
theorem zw_M_against_105 {p : Program} {l : Launch} {e : Env} {R : Room} {s : State} {m : MethodId} {args : Array Value} {below : List Frame} {meth : Method} {c : Code} {Q : State → Prop} {h0 : Nat} {D : va_G} {dA : Nat → ClassId} {tb : Nat → Nat} {c0 k0 : Nat} {s0 : zh_S} {r : Int32} (X : zg_X p s m args meth c ze_M_against 9 zr_M (some .int) h0 D dA tb) (hR : zg_R R c0 k0 s0) (hF : 5 ≤ R.frames ∧ 146 ≤ R.locals) (hret : ∀ (pc : Nat) (lv : List (Nat × Value)), decode ze_M_against pc = .ok (.ireturn, 1) → zg_G p l e R s m args below meth c Q h0 D dA 9 c0 k0 s0 s0 pc lv [.int r]) (n : Nat) : ∀ (a0 : Nat) (i1 : Int32) (i2 : Int32) (i6 : Int32), zb_M_against_105 n s0 a0 i1 i2 i6 = some r → zg_G p l e R s m args below meth c Q h0 D dA 9 c0 k0 s0 s0 105 [(0, .ref (h0 + a0)), (1, .int i1), (2, .int i2), (6, .int i6)] [] := by
  obtain ⟨hx, hb, hml, hown, htT, hrt, hlk, x00, hIn⟩ := id X
  have hK := hIn.2.1
  have hT := hIn.2.2.1
  have hNe := hIn.2.2.2
  intro a0 i1 i2 i6 hf
  rw [zb_M_against_105] at hf
  refine zg_1 (pc' := 106) (fun _ _ _ _ _ hl w => lv_aload_n hx hb zd_M_against_105 rfl (lv_at hl 0 rfl) w) ?_
  refine zg_1 (pc' := 107) (fun _ _ _ _ _ hl w => lv_iload_n hx hb zd_M_against_106 rfl (lv_at hl 1 rfl) w) ?_
  refine zg_1 (pc' := 108) (fun _ _ _ _ _ hl w => lv_iload_n hx hb zd_M_against_107 rfl (lv_at hl 2 rfl) w) ?_
  obtain ⟨h_1, hf⟩ := zx_ck hf
  obtain ⟨i_2, hq, hf⟩ := zx_p hf
  refine zg_call (pc' := 111) (y := s0) (rv := (some (.int i_2))) (rest := []) X hR ⟨Nat.le_refl _, Nat.le_refl _⟩ (fun H locs ls k j hsz hI hU hk => va_runV (As := [.int i1, .int i2]) (rest := []) ⟨hx, hb, hml, hown, htT⟩ (zc_M_keptOut l h0 D dA tb n hq) (cwV 2 htT (zw_gV zt_1107 zt_1109 zt_60 zt_71 zt_1110) rfl rfl rfl (by decide +kernel) ⟨Nat.le_trans (Nat.le_of_ble_eq_true rfl) hF.1, Nat.le_trans (Nat.le_of_ble_eq_true rfl) hF.2⟩) ⟨(zg_pre hU).1, zg_recv hK hI h_1 rfl, (zg_pre hU).2⟩ rfl rfl hsz rfl (lv_room (Nat.le_of_ble_eq_true rfl)) zd_M_against_108 hk) rfl ?_
  refine zg_2 (pc1 := 116) (pc2 := 114) (Classical.em _) (fun _ _ _ _ _ w1 w2 => lv_if_eq hx hb zd_M_against_111 (by decide) w1 w2) (fun hc => ?_) (fun hc => ?_)
  · rw [if_pos hc] at hf
    refine zg_1 (pc' := 117) (fun _ _ _ _ _ hl w => lv_aload_n hx hb zd_M_against_116 rfl (lv_at hl 0 rfl) w) ?_
    refine zg_1 (pc' := 119) (fun _ _ _ _ _ hl w => lv_iload hx hb zd_M_against_117 (lv_at hl 3 rfl) w) ?_
    refine zg_1 (pc' := 122) (fun _ _ _ _ _ hl w => lv_ldc2 (v := (8 : Int64)) hx hb hown (htT _ zt_1019) zd_M_against_119 w) ?_
    obtain ⟨i_3, hq, hf⟩ := zx_p hf
    refine zg_call (pc' := 125) (y := s0) (rv := (some (.int i_3))) (rest := []) X hR ⟨Nat.le_refl _, Nat.le_refl _⟩ (fun H locs ls k j hsz hI hU hk => va_runV (As := [.int i6, .long (8 : Int64)]) (rest := []) ⟨hx, hb, hml, hown, htT⟩ (zc_M_flag l h0 D dA tb n hq) (cwV 2 htT (zw_gV zt_1082 zt_1084 zt_54 zt_71 zt_1085) rfl rfl rfl (by decide +kernel) ⟨Nat.le_trans (Nat.le_of_ble_eq_true rfl) hF.1, Nat.le_trans (Nat.le_of_ble_eq_true rfl) hF.2⟩) ⟨(zg_pre hU).1, zg_recv hK hI h_1 rfl, (zg_pre hU).2⟩ rfl rfl hsz rfl (lv_room (Nat.le_of_ble_eq_true rfl)) zd_M_against_122 hk) rfl ?_
    refine zg_2 (pc1 := 131) (pc2 := 128) (Classical.em _) (fun _ _ _ _ _ w1 w2 => lv_if_eq hx hb zd_M_against_125 (by decide) w1 w2) (fun hc => ?_) (fun hc => ?_)
    · rw [if_pos hc] at hf
      refine zg_1 (pc' := 132) (fun _ _ _ _ _ hl w => lv_iload_n hx hb zd_M_against_131 rfl (lv_at hl 1 rfl) w) ?_
      refine zg_2 (pc1 := 137) (pc2 := 135) (Classical.em _).symm (fun _ _ _ _ _ w1 w2 => lv_if_ne hx hb zd_M_against_132 (by decide) w1 w2) (fun hc => ?_) (fun hc => ?_)
      · rw [if_neg hc] at hf
        refine zg_1 (pc' := 138) (fun _ _ _ _ _ hl w => lv_aload_n hx hb zd_M_against_137 rfl (lv_at hl 0 rfl) w) ?_
        refine zg_1 (pc' := 140) (fun _ _ _ _ _ hl w => lv_iload hx hb zd_M_against_138 (lv_at hl 3 rfl) w) ?_
        refine zg_1 (pc' := 143) (fun _ _ _ _ _ hl w => lv_ldc2 (v := (4 : Int64)) hx hb hown (htT _ zt_1040) zd_M_against_140 w) ?_
        obtain ⟨i_4, hq, hf⟩ := zx_p hf
        refine zg_call (pc' := 146) (y := s0) (rv := (some (.int i_4))) (rest := []) X hR ⟨Nat.le_refl _, Nat.le_refl _⟩ (fun H locs ls k j hsz hI hU hk => va_runV (As := [.int i6, .long (4 : Int64)]) (rest := []) ⟨hx, hb, hml, hown, htT⟩ (zc_M_flag l h0 D dA tb n hq) (cwV 2 htT (zw_gV zt_1082 zt_1084 zt_54 zt_71 zt_1085) rfl rfl rfl (by decide +kernel) ⟨Nat.le_trans (Nat.le_of_ble_eq_true rfl) hF.1, Nat.le_trans (Nat.le_of_ble_eq_true rfl) hF.2⟩) ⟨(zg_pre hU).1, zg_recv hK hI h_1 rfl, (zg_pre hU).2⟩ rfl rfl hsz rfl (lv_room (Nat.le_of_ble_eq_true rfl)) zd_M_against_143 hk) rfl ?_
        refine zg_2 (pc1 := 152) (pc2 := 149) (Classical.em _).symm (fun _ _ _ _ _ w1 w2 => lv_if_ne hx hb zd_M_against_146 (by decide) w1 w2) (fun hc => ?_) (fun hc => ?_)
        · rw [if_neg hc] at hf
          refine zg_1 (pc' := 153) (fun _ _ _ _ _ hl w => lv_aload_n hx hb zd_M_against_152 rfl (lv_at hl 0 rfl) w) ?_
          refine zg_1 (pc' := 155) (fun _ _ _ _ _ hl w => lv_iload hx hb zd_M_against_153 (lv_at hl 3 rfl) w) ?_
          refine zg_1 (pc' := 157) (fun _ _ _ _ _ hl w => lv_bipush (v := (9 : Int32)) hx hb zd_M_against_155 (by decide) w) ?_
          obtain ⟨j_5, hq, hf⟩ := zx_p hf
          refine zg_call (pc' := 160) (y := s0) (rv := (some (.long j_5))) (rest := []) X hR ⟨Nat.le_refl _, Nat.le_refl _⟩ (fun H locs ls k j hsz hI hU hk => va_runV (As := [.int i6, .int (9 : Int32)]) (rest := []) ⟨hx, hb, hml, hown, htT⟩ (zc_M_of l h0 D dA tb n hq) (cwV 2 htT (zw_gV zt_1066 zt_1068 zt_52 zt_71 zt_1069) rfl rfl rfl (by decide +kernel) ⟨Nat.le_trans (Nat.le_of_ble_eq_true rfl) hF.1, Nat.le_trans (Nat.le_of_ble_eq_true rfl) hF.2⟩) ⟨(zg_pre hU).1, zg_recv hK hI h_1 rfl, (zg_pre hU).2⟩ rfl rfl hsz rfl (lv_room (Nat.le_of_ble_eq_true rfl)) zd_M_against_157 hk) rfl ?_
          refine zg_1 (pc' := 161) (fun _ _ _ _ _ hl w => lv_lconst (v := (0 : Int64)) hx hb zd_M_against_160 (by decide) w) ?_
          refine zg_1 (pc' := 162) (fun _ _ _ _ _ hl w => W.lcmp hx hb zd_M_against_161 w) ?_
          refine zg_2 (pc1 := 186) (pc2 := 165) (Classical.em _) (fun _ _ _ _ _ w1 w2 => lv_if_lt hx hb zd_M_against_162 (by decide) w1 w2) (fun hc => ?_) (fun hc => ?_)
          · rw [if_pos hc] at hf
            refine zg_v [0, 3] rfl ?_
            exact zw_M_against_186 X hR hF hret n a0 i6 hf
          · rw [if_neg hc] at hf
            refine zg_1 (pc' := 166) (fun _ _ _ _ _ hl w => lv_aload_n hx hb zd_M_against_165 rfl (lv_at hl 0 rfl) w) ?_
            refine zg_1 (pc' := 167) (fun _ _ _ _ _ hl w => lv_iload_n hx hb zd_M_against_166 rfl (lv_at hl 1 rfl) w) ?_
            obtain ⟨i_6, hq, hf⟩ := zx_p hf
            refine zg_call (pc' := 170) (y := s0) (rv := (some (.int i_6))) (rest := []) X hR ⟨Nat.le_refl _, Nat.le_refl _⟩ (fun H locs ls k j hsz hI hU hk => va_runV (As := [.int i1]) (rest := []) ⟨hx, hb, hml, hown, htT⟩ (zc_M_between l h0 D dA tb n hq) (cwV 1 htT (zw_gV zt_1114 zt_1116 zt_61 zt_71 zt_1117) rfl rfl rfl (by decide +kernel) ⟨Nat.le_trans (Nat.le_of_ble_eq_true rfl) hF.1, Nat.le_trans (Nat.le_of_ble_eq_true rfl) hF.2⟩) ⟨(zg_pre hU).1, zg_recv hK hI h_1 rfl, (zg_pre hU).2⟩ rfl rfl hsz rfl (lv_room (Nat.le_of_ble_eq_true rfl)) zd_M_against_167 hk) rfl ?_
            refine zg_1 (pc' := 171) (fun _ _ _ _ _ hl w => lv_i2l (v := i_6.toInt64) hx hb zd_M_against_170 rfl w) ?_
            refine zg_1 (pc' := 172) (fun _ _ _ _ _ hl w => lv_aload_n hx hb zd_M_against_171 rfl (lv_at hl 0 rfl) w) ?_
            refine zg_1 (pc' := 174) (fun _ _ _ _ _ hl w => lv_iload hx hb zd_M_against_172 (lv_at hl 3 rfl) w) ?_
            refine zg_1 (pc' := 176) (fun _ _ _ _ _ hl w => lv_bipush (v := (9 : Int32)) hx hb zd_M_against_174 (by decide) w) ?_
            obtain ⟨j_7, hq, hf⟩ := zx_p hf
            refine zg_call (pc' := 179) (y := s0) (rv := (some (.long j_7))) (rest := [.long (i_6.toInt64)]) X hR ⟨Nat.le_refl _, Nat.le_refl _⟩ (fun H locs ls k j hsz hI hU hk => va_runV (As := [.int i6, .int (9 : Int32)]) (rest := [.long (i_6.toInt64)]) ⟨hx, hb, hml, hown, htT⟩ (zc_M_of l h0 D dA tb n hq) (cwV 2 htT (zw_gV zt_1066 zt_1068 zt_52 zt_71 zt_1069) rfl rfl rfl (by decide +kernel) ⟨Nat.le_trans (Nat.le_of_ble_eq_true rfl) hF.1, Nat.le_trans (Nat.le_of_ble_eq_true rfl) hF.2⟩) ⟨(zg_pre hU).1, zg_recv hK hI h_1 rfl, (zg_pre hU).2⟩ rfl rfl hsz rfl (lv_room (Nat.le_of_ble_eq_true rfl)) zd_M_against_176 hk) rfl ?_
            refine zg_1 (pc' := 180) (fun _ _ _ _ _ hl w => W.lcmp hx hb zd_M_against_179 w) ?_
            refine zg_2 (pc1 := 186) (pc2 := 183) (Classical.em _) (fun _ _ _ _ _ w1 w2 => lv_if_le hx hb zd_M_against_180 (by decide) w1 w2) (fun hc => ?_) (fun hc => ?_)
            · rw [if_pos hc] at hf
              refine zg_v [0, 3] rfl ?_
              exact zw_M_against_186 X hR hF hret n a0 i6 hf
            · rw [if_neg hc] at hf
              refine zg_1 (pc' := 185) (fun _ _ _ _ _ hl w => lv_bipush (v := (8 : Int32)) hx hb zd_M_against_183 (by decide) w) ?_
              obtain rfl := zx_r1 hf
              exact hret _ _ zd_M_against_185
        · rw [if_pos hc] at hf
          refine zg_1 (pc' := 151) (fun _ _ _ _ _ hl w => lv_bipush (v := (7 : Int32)) hx hb zd_M_against_149 (by decide) w) ?_
          obtain rfl := zx_r1 hf
          exact hret _ _ zd_M_against_151
      · rw [if_pos hc] at hf
        refine zg_1 (pc' := 136) (fun _ _ _ _ _ hl w => lv_iconst (v := (0 : Int32)) hx hb zd_M_against_135 (by decide) w) ?_
        obtain rfl := zx_r1 hf
        exact hret _ _ zd_M_against_136
    · rw [if_neg hc] at hf
      refine zg_1 (pc' := 130) (fun _ _ _ _ _ hl w => lv_bipush (v := (6 : Int32)) hx hb zd_M_against_128 (by decide) w) ?_
      obtain rfl := zx_r1 hf
      exact hret _ _ zd_M_against_130
  · rw [if_neg hc] at hf
    refine zg_1 (pc' := 115) (fun _ _ _ _ _ hl w => lv_iconst (v := (5 : Int32)) hx hb zd_M_against_114 (by decide) w) ?_
    obtain rfl := zx_r1 hf
    exact hret _ _ zd_M_against_115
set_option maxHeartbeats 4000000 in
theorem zc_M_against (l : Launch) (h0 : Nat) (D : va_G) (dA : Nat → ClassId) (tb : Nat → Nat) (n : Nat) {s0 : zh_S} {a0 : Nat} {i1 : Int32} {i2 : Int32} {j3 : Int64} {i5 : Int32} {r : Int32} (hf : zf_M_against n s0 a0 i1 i2 j3 i5 = some r) : zc_M l zn_M_against zs_M_against 5 146 h0 D dA tb [.ref (h0 + a0), .int i1, .int i2, .long j3, .int i5] s0 (some (.int r)) s0 := by
  rw [zf_M_against] at hf
  refine zc_of (cc := ze_M_against) (maxL := 9) (ret := (some .int)) (lv := [(0, .ref (h0 + a0)), (1, .int i1), (2, .int i2), (3, .long j3), (5, .int i5)]) (by decide) rfl (Nat.le_of_ble_eq_true rfl) rfl ?_
  intro p e s m args below meth c X hnm
  obtain ⟨hx, hb, hml, hown, htT, hrt, hlk, x00, hIn⟩ := id X
  have hK := hIn.2.1
  have hT := hIn.2.2.1
  have hNe := hIn.2.2.2
  have hR : zg_R { frames := 5, cells := zh_N s0 - zh_N s0, slots := zh_M s0 - zh_M s0, locals := 146 } (zh_N s0) (zh_M s0) s0 := ⟨by show zh_N s0 ≤ zh_N s0 + (zh_N s0 - zh_N s0); omega, by show zh_M s0 ≤ zh_M s0 + (zh_M s0 - zh_M s0); omega⟩
  have hF : 5 ≤ ({ frames := 5, cells := zh_N s0 - zh_N s0, slots := zh_M s0 - zh_M s0, locals := 146 } : Room).frames ∧ 146 ≤ ({ frames := 5, cells := zh_N s0 - zh_N s0, slots := zh_M s0 - zh_M s0, locals := 146 } : Room).locals := ⟨Nat.le_refl _, Nat.le_refl _⟩
  have hret := fun (pc : Nat) (lv : List (Nat × Value)) (hd : decode ze_M_against pc = .ok (.ireturn, 1)) => zg_iret (R := { frames := 5, cells := zh_N s0 - zh_N s0, slots := zh_M s0 - zh_M s0, locals := 146 }) (l := l) (e := e) (below := below) (c0 := zh_N s0) (s0 := zh_M s0) (z := s0) (lv := lv) (v := r) X rfl hd
  refine zg_1 (pc' := 1) (fun _ _ _ _ _ hl w => lv_aload_n hx hb zd_M_against_0 rfl (lv_at hl 0 rfl) w) ?_
  obtain ⟨h_1, hf⟩ := zx_ck hf
  obtain ⟨a_2, h_3, hf⟩ := zx_p hf
  refine zg_get (pc' := 4) (ci := 8) hx hb htT zi_M hown hK h_1 rfl rfl 21 (by decide) (htT _ zt_826) (fun _ h9 => h9) (zx_hv h_3) zd_M_against_1 rfl ?_
  refine zg_1 (pc' := 5) (fun _ _ _ _ _ hl w => lv_iload_n hx hb zd_M_against_4 rfl (lv_at hl 1 rfl) w) ?_
  obtain ⟨h_4, hf⟩ := zx_ck hf
  refine zg_iald (pc' := 6) hx hb hK h_4 zd_M_against_5 rfl ?_
  obtain ⟨i_5, e_i_5, hf⟩ := zx_l hf
  refine zg_ti e_i_5 ?_
  refine zg_s (pc' := 8) (lv' := [(6, .int i_5), (0, .ref (h0 + a0)), (1, .int i1), (2, .int i2), (3, .long j3), (5, .int i5)]) (fun _ _ _ _ _ hl w => lv_istore hx hb zd_M_against_6 hl (by decide) rfl w) ?_
  refine zg_1 (pc' := 9) (fun _ _ _ _ _ hl w => lv_aload_n hx hb zd_M_against_8 rfl (lv_at hl 1 rfl) w) ?_
  obtain ⟨a_6, h_7, hf⟩ := zx_p hf
  refine zg_get (pc' := 12) (ci := 8) hx hb htT zi_M hown hK h_1 rfl rfl 21 (by decide) (htT _ zt_826) (fun _ h9 => h9) (zx_hv h_7) zd_M_against_9 rfl ?_
  refine zg_1 (pc' := 13) (fun _ _ _ _ _ hl w => lv_iload_n hx hb zd_M_against_12 rfl (lv_at hl 2 rfl) w) ?_
  refine zg_1 (pc' := 14) (fun _ _ _ _ _ hl w => lv_iconst (v := (1 : Int32)) hx hb zd_M_against_13 (by decide) w) ?_
  refine zg_1 (pc' := 15) (fun _ _ _ _ _ hl w => lv_iadd hx hb zd_M_against_14 w) ?_
  obtain ⟨h_8, hf⟩ := zx_ck hf
  refine zg_iald (pc' := 16) hx hb hK h_8 zd_M_against_15 rfl ?_
  obtain ⟨i_9, e_i_9, hf⟩ := zx_l hf
  refine zg_ti e_i_9 ?_
  refine zg_s (pc' := 18) (lv' := [(7, .int i_9), (6, .int i_5), (0, .ref (h0 + a0)), (1, .int i1), (2, .int i2), (3, .long j3), (5, .int i5)]) (fun _ _ _ _ _ hl w => lv_istore hx hb zd_M_against_16 hl (by decide) rfl w) ?_
  refine zg_1 (pc' := 19) (fun _ _ _ _ _ hl w => lv_aload_n hx hb zd_M_against_18 rfl (lv_at hl 2 rfl) w) ?_
  refine zg_1 (pc' := 20) (fun _ _ _ _ _ hl w => lv_aload_n hx hb zd_M_against_19 rfl (lv_at hl 2 rfl) w) ?_
  refine zg_1 (pc' := 22) (fun _ _ _ _ _ hl w => lv_iload hx hb zd_M_against_20 (lv_at hl 1 rfl) w) ?_
  refine zg_1 (pc' := 24) (fun _ _ _ _ _ hl w => lv_bipush (v := (7 : Int32)) hx hb zd_M_against_22 (by decide) w) ?_
  obtain ⟨j_10, hq, hf⟩ := zx_p hf
  refine zg_call (pc' := 27) (y := s0) (rv := (some (.long j_10))) (rest := [.ref (h0 + a0)]) X hR ⟨Nat.le_refl _, Nat.le_refl _⟩ (fun H locs ls k j hsz hI hU hk => va_runV (As := [.int i_5, .int (7 : Int32)]) (rest := [.ref (h0 + a0)]) ⟨hx, hb, hml, hown, htT⟩ (zc_M_of l h0 D dA tb n hq) (cwV 2 htT (zw_gV zt_1066 zt_1068 zt_52 zt_71 zt_1069) rfl rfl rfl (by decide +kernel) ⟨Nat.le_trans (Nat.le_of_ble_eq_true rfl) hF.1, Nat.le_trans (Nat.le_of_ble_eq_true rfl) hF.2⟩) ⟨(zg_pre hU).1, zg_recv hK hI h_1 rfl, (zg_pre hU).2⟩ rfl rfl hsz rfl (lv_room (Nat.le_of_ble_eq_true rfl)) zd_M_against_24 hk) rfl ?_
  refine zg_1 (pc' := 28) (fun _ _ _ _ _ hl w => lv_aload_n hx hb zd_M_against_27 rfl (lv_at hl 2 rfl) w) ?_
  refine zg_1 (pc' := 30) (fun _ _ _ _ _ hl w => lv_iload hx hb zd_M_against_28 (lv_at hl 1 rfl) w) ?_
  refine zg_1 (pc' := 32) (fun _ _ _ _ _ hl w => lv_bipush (v := (8 : Int32)) hx hb zd_M_against_30 (by decide) w) ?_
  obtain ⟨j_11, hq, hf⟩ := zx_p hf
  refine zg_call (pc' := 35) (y := s0) (rv := (some (.long j_11))) (rest := [.long j_10, .ref (h0 + a0)]) X hR ⟨Nat.le_refl _, Nat.le_refl _⟩ (fun H locs ls k j hsz hI hU hk => va_runV (As := [.int i_5, .int (8 : Int32)]) (rest := [.long j_10, .ref (h0 + a0)]) ⟨hx, hb, hml, hown, htT⟩ (zc_M_of l h0 D dA tb n hq) (cwV 2 htT (zw_gV zt_1066 zt_1068 zt_52 zt_71 zt_1069) rfl rfl rfl (by decide +kernel) ⟨Nat.le_trans (Nat.le_of_ble_eq_true rfl) hF.1, Nat.le_trans (Nat.le_of_ble_eq_true rfl) hF.2⟩) ⟨(zg_pre hU).1, zg_recv hK hI h_1 rfl, (zg_pre hU).2⟩ rfl rfl hsz rfl (lv_room (Nat.le_of_ble_eq_true rfl)) zd_M_against_32 hk) rfl ?_
  refine zg_1 (pc' := 37) (fun _ _ _ _ _ hl w => lv_iload hx hb zd_M_against_35 (lv_at hl 0 rfl) w) ?_
  obtain ⟨i_12, hq, hf⟩ := zx_p hf
  refine zg_call (pc' := 40) (y := s0) (rv := (some (.int i_12))) (rest := []) X hR ⟨Nat.le_refl _, Nat.le_refl _⟩ (fun H locs ls k j hsz hI hU hk => va_runV (As := [.long j_10, .long j_11, .int i_9]) (rest := []) ⟨hx, hb, hml, hown, htT⟩ (zc_M_signedBy l h0 D dA tb n hq) (cwV 3 htT (zw_gV zt_1094 zt_1096 zt_57 zt_71 zt_1097) rfl rfl rfl (by decide +kernel) ⟨Nat.le_trans (Nat.le_of_ble_eq_true rfl) hF.1, Nat.le_trans (Nat.le_of_ble_eq_true rfl) hF.2⟩) ⟨(zg_pre hU).1, zg_recv hK hI h_1 rfl, (zg_pre hU).2⟩ rfl rfl hsz rfl (lv_room (Nat.le_of_ble_eq_true rfl)) zd_M_against_37 hk) rfl ?_
  refine zg_2 (pc1 := 45) (pc2 := 43) (Classical.em _).symm (fun _ _ _ _ _ w1 w2 => lv_if_ne hx hb zd_M_against_40 (by decide) w1 w2) (fun hc => ?_) (fun hc => ?_)
  · rw [if_neg hc] at hf
    refine zg_1 (pc' := 46) (fun _ _ _ _ _ hl w => lv_lload_n hx hb zd_M_against_45 rfl (lv_at hl 5 rfl) w) ?_
    refine zg_1 (pc' := 47) (fun _ _ _ _ _ hl w => lv_aload_n hx hb zd_M_against_46 rfl (lv_at hl 2 rfl) w) ?_
    refine zg_1 (pc' := 49) (fun _ _ _ _ _ hl w => lv_iload hx hb zd_M_against_47 (lv_at hl 1 rfl) w) ?_
    refine zg_1 (pc' := 50) (fun _ _ _ _ _ hl w => lv_iconst (v := (2 : Int32)) hx hb zd_M_against_49 (by decide) w) ?_
    obtain ⟨j_13, hq, hf⟩ := zx_p hf
    refine zg_call (pc' := 53) (y := s0) (rv := (some (.long j_13))) (rest := [.long j3]) X hR ⟨Nat.le_refl _, Nat.le_refl _⟩ (fun H locs ls k j hsz hI hU hk => va_runV (As := [.int i_5, .int (2 : Int32)]) (rest := [.long j3]) ⟨hx, hb, hml, hown, htT⟩ (zc_M_of l h0 D dA tb n hq) (cwV 2 htT (zw_gV zt_1066 zt_1068 zt_52 zt_71 zt_1069) rfl rfl rfl (by decide +kernel) ⟨Nat.le_trans (Nat.le_of_ble_eq_true rfl) hF.1, Nat.le_trans (Nat.le_of_ble_eq_true rfl) hF.2⟩) ⟨(zg_pre hU).1, zg_recv hK hI h_1 rfl, (zg_pre hU).2⟩ rfl rfl hsz rfl (lv_room (Nat.le_of_ble_eq_true rfl)) zd_M_against_50 hk) rfl ?_
    refine zg_1 (pc' := 54) (fun _ _ _ _ _ hl w => lv_aload_n hx hb zd_M_against_53 rfl (lv_at hl 2 rfl) w) ?_
    refine zg_1 (pc' := 56) (fun _ _ _ _ _ hl w => lv_iload hx hb zd_M_against_54 (lv_at hl 1 rfl) w) ?_
    refine zg_1 (pc' := 57) (fun _ _ _ _ _ hl w => lv_iconst (v := (3 : Int32)) hx hb zd_M_against_56 (by decide) w) ?_
    obtain ⟨j_14, hq, hf⟩ := zx_p hf
    refine zg_call (pc' := 60) (y := s0) (rv := (some (.long j_14))) (rest := [.long j_13, .long j3]) X hR ⟨Nat.le_refl _, Nat.le_refl _⟩ (fun H locs ls k j hsz hI hU hk => va_runV (As := [.int i_5, .int (3 : Int32)]) (rest := [.long j_13, .long j3]) ⟨hx, hb, hml, hown, htT⟩ (zc_M_of l h0 D dA tb n hq) (cwV 2 htT (zw_gV zt_1066 zt_1068 zt_52 zt_71 zt_1069) rfl rfl rfl (by decide +kernel) ⟨Nat.le_trans (Nat.le_of_ble_eq_true rfl) hF.1, Nat.le_trans (Nat.le_of_ble_eq_true rfl) hF.2⟩) ⟨(zg_pre hU).1, zg_recv hK hI h_1 rfl, (zg_pre hU).2⟩ rfl rfl hsz rfl (lv_room (Nat.le_of_ble_eq_true rfl)) zd_M_against_57 hk) rfl ?_
    obtain ⟨i_15, hq, hf⟩ := zx_p hf
    refine zg_call (pc' := 63) (y := s0) (rv := (some (.int i_15))) (rest := []) X hR ⟨Nat.le_refl _, Nat.le_refl _⟩ (fun H locs ls k j hsz hI hU hk => va_runS (As := [.long j3, .long j_13, .long j_14]) (rest := []) ⟨hx, hb, hml, hown, htT⟩ (zc_M_in l h0 D dA tb n hq) (va_cwS 3 htT (zw_gS zt_909 zt_910 zt_71 zt_911) rfl rfl rfl (by decide +kernel) ⟨Nat.le_trans (Nat.le_of_ble_eq_true rfl) hF.1, Nat.le_trans (Nat.le_of_ble_eq_true rfl) hF.2⟩) (zg_pre hU) rfl rfl hsz rfl (lv_room (Nat.le_of_ble_eq_true rfl)) zd_M_against_60 hk) rfl ?_
    refine zg_2 (pc1 := 68) (pc2 := 66) (Classical.em _).symm (fun _ _ _ _ _ w1 w2 => lv_if_ne hx hb zd_M_against_63 (by decide) w1 w2) (fun hc => ?_) (fun hc => ?_)
    · rw [if_neg hc] at hf
      refine zg_1 (pc' := 69) (fun _ _ _ _ _ hl w => lv_aload_n hx hb zd_M_against_68 rfl (lv_at hl 2 rfl) w) ?_
      refine zg_1 (pc' := 71) (fun _ _ _ _ _ hl w => lv_iload hx hb zd_M_against_69 (lv_at hl 1 rfl) w) ?_
      refine zg_1 (pc' := 73) (fun _ _ _ _ _ hl w => lv_iload hx hb zd_M_against_71 (lv_at hl 0 rfl) w) ?_
      refine zg_1 (pc' := 74) (fun _ _ _ _ _ hl w => lv_lload_n hx hb zd_M_against_73 rfl (lv_at hl 5 rfl) w) ?_
      obtain ⟨i_16, hq, hf⟩ := zx_p hf
      refine zg_call (pc' := 77) (y := s0) (rv := (some (.int i_16))) (rest := []) X hR ⟨Nat.le_refl _, Nat.le_refl _⟩ (fun H locs ls k j hsz hI hU hk => va_runV (As := [.int i_5, .int i_9, .long j3]) (rest := []) ⟨hx, hb, hml, hown, htT⟩ (zc_M_listFor l h0 D dA tb n hq) (cwV 3 htT (zw_gV zt_1099 zt_1101 zt_58 zt_71 zt_1102) rfl rfl rfl (by decide +kernel) ⟨Nat.le_trans (Nat.le_of_ble_eq_true rfl) hF.1, Nat.le_trans (Nat.le_of_ble_eq_true rfl) hF.2⟩) ⟨(zg_pre hU).1, zg_recv hK hI h_1 rfl, (zg_pre hU).2⟩ rfl rfl hsz rfl (lv_room (Nat.le_of_ble_eq_true rfl)) zd_M_against_74 hk) rfl ?_
      refine zg_s (pc' := 79) (lv' := [(8, .int i_16), (7, .int i_9), (6, .int i_5), (0, .ref (h0 + a0)), (1, .int i1), (2, .int i2), (3, .long j3), (5, .int i5)]) (fun _ _ _ _ _ hl w => lv_istore hx hb zd_M_against_77 hl (by decide) rfl w) ?_
      refine zg_1 (pc' := 80) (fun _ _ _ _ _ hl w => lv_aload_n hx hb zd_M_against_79 rfl (lv_at hl 3 rfl) w) ?_
      refine zg_1 (pc' := 82) (fun _ _ _ _ _ hl w => lv_iload hx hb zd_M_against_80 (lv_at hl 2 rfl) w) ?_
      refine zg_1 (pc' := 84) (fun _ _ _ _ _ hl w => lv_iload hx hb zd_M_against_82 (lv_at hl 0 rfl) w) ?_
      refine zg_1 (pc' := 85) (fun _ _ _ _ _ hl w => lv_lload_n hx hb zd_M_against_84 rfl (lv_at hl 6 rfl) w) ?_
      obtain ⟨i_17, hq, hf⟩ := zx_p hf
      refine zg_call (pc' := 88) (y := s0) (rv := (some (.int i_17))) (rest := []) X hR ⟨Nat.le_refl _, Nat.le_refl _⟩ (fun H locs ls k j hsz hI hU hk => va_runV (As := [.int i_5, .int i_16, .long j3]) (rest := []) ⟨hx, hb, hml, hown, htT⟩ (zc_M_isRevoked l h0 D dA tb n hq) (cwV 3 htT (zw_gV zt_1103 zt_1105 zt_59 zt_71 zt_1106) rfl rfl rfl (by decide +kernel) ⟨Nat.le_trans (Nat.le_of_ble_eq_true rfl) hF.1, Nat.le_trans (Nat.le_of_ble_eq_true rfl) hF.2⟩) ⟨(zg_pre hU).1, zg_recv hK hI h_1 rfl, (zg_pre hU).2⟩ rfl rfl hsz rfl (lv_room (Nat.le_of_ble_eq_true rfl)) zd_M_against_85 hk) rfl ?_
      refine zg_2 (pc1 := 93) (pc2 := 91) (Classical.em _) (fun _ _ _ _ _ w1 w2 => lv_if_eq hx hb zd_M_against_88 (by decide) w1 w2) (fun hc => ?_) (fun hc => ?_)
      · rw [if_pos hc] at hf
        refine zg_1 (pc' := 95) (fun _ _ _ _ _ hl w => lv_iload hx hb zd_M_against_93 (lv_at hl 7 rfl) w) ?_
        refine zg_2 (pc1 := 105) (pc2 := 98) (Classical.em _) (fun _ _ _ _ _ w1 w2 => lv_if_eq hx hb zd_M_against_95 (by decide) w1 w2) (fun hc => ?_) (fun hc => ?_)
        · rw [if_pos hc] at hf
          refine zg_v [3, 4, 5, 2] rfl ?_
          exact zw_M_against_105 X hR hF hret n a0 i1 i2 i_5 hf
        · rw [if_neg hc] at hf
          refine zg_1 (pc' := 100) (fun _ _ _ _ _ hl w => lv_iload hx hb zd_M_against_98 (lv_at hl 0 rfl) w) ?_
          refine zg_2 (pc1 := 105) (pc2 := 103) (Classical.em _) (fun _ _ _ _ _ w1 w2 => lv_if_ge hx hb zd_M_against_100 (by decide) w1 w2) (fun hc => ?_) (fun hc => ?_)
          · rw [if_pos hc] at hf
            refine zg_v [3, 4, 5, 2] rfl ?_
            exact zw_M_against_105 X hR hF hret n a0 i1 i2 i_5 hf
          · rw [if_neg hc] at hf
            refine zg_1 (pc' := 104) (fun _ _ _ _ _ hl w => lv_iconst (v := (4 : Int32)) hx hb zd_M_against_103 (by decide) w) ?_
            obtain rfl := zx_r1 hf
            exact hret _ _ zd_M_against_104
      · rw [if_neg hc] at hf
        refine zg_1 (pc' := 92) (fun _ _ _ _ _ hl w => lv_iconst (v := (3 : Int32)) hx hb zd_M_against_91 (by decide) w) ?_
        obtain rfl := zx_r1 hf
        exact hret _ _ zd_M_against_92
    · rw [if_pos hc] at hf
      refine zg_1 (pc' := 67) (fun _ _ _ _ _ hl w => lv_iconst (v := (2 : Int32)) hx hb zd_M_against_66 (by decide) w) ?_
      obtain rfl := zx_r1 hf
      exact hret _ _ zd_M_against_67
  · rw [if_pos hc] at hf
    refine zg_1 (pc' := 44) (fun _ _ _ _ _ hl w => lv_iconst (v := (1 : Int32)) hx hb zd_M_against_43 (by decide) w) ?_
    obtain rfl := zx_r1 hf
    exact hret _ _ zd_M_against_44
set_option maxHeartbeats 4000000 in
theorem zw_M_holds_42 {p : Program} {l : Launch} {e : Env} {R : Room} {s : State} {m : MethodId} {args : Array Value} {below : List Frame} {meth : Method} {c : Code} {Q : State → Prop} {h0 : Nat} {D : va_G} {dA : Nat → ClassId} {tb : Nat → Nat} {c0 k0 : Nat} {z : zh_S} {r : Int32} (X : zg_X p s m args meth c ze_M_holds 6 zr_M (some .boolean) h0 D dA tb) (hR : zg_R R c0 k0 z) (hF : 6 ≤ R.frames ∧ 174 ≤ R.locals) (hret : (r = 0 ∨ r = 1) → ∀ (pc : Nat) (lv : List (Nat × Value)), decode ze_M_holds pc = .ok (.ireturn, 1) → zg_G p l e R s m args below meth c Q h0 D dA 6 c0 k0 z z pc lv [.int r]) (n : Nat) : ∀ (s0 : zh_S) (a0 : Nat), zb_M_holds_42 n s0 a0 = some (r, z) → zg_G p l e R s m args below meth c Q h0 D dA 6 c0 k0 z s0 42 [(0, .ref (h0 + a0))] [] := by
  obtain ⟨hx, hb, hml, hown, htT, hrt, hlk, x00, hIn⟩ := id X
  have hK := hIn.2.1
  have hT := hIn.2.2.1
  have hNe := hIn.2.2.2
  intro s0 a0 hf
  rw [zb_M_holds_42] at hf
  refine zg_1 (pc' := 43) (fun _ _ _ _ _ hl w => lv_aload_n hx hb zd_M_holds_42 rfl (lv_at hl 0 rfl) w) ?_
  obtain ⟨h_1, hf⟩ := zx_ck hf
  refine zg_get (pc' := 46) (ci := 8) hx hb htT zi_M hown hK h_1 rfl rfl 26 (by decide) (htT _ zt_831) (fun _ h9 => h9) rfl zd_M_holds_43 rfl ?_
  refine zg_2 (pc1 := 53) (pc2 := 49) (Classical.em _).symm (fun _ _ _ _ _ w1 w2 => lv_if_ne hx hb zd_M_holds_46 (by decide) w1 w2) (fun hc => ?_) (fun hc => ?_)
  · rw [if_neg hc] at hf
    refine zg_1 (pc' := 54) (fun _ _ _ _ _ hl w => lv_iconst (v := (0 : Int32)) hx hb zd_M_holds_53 (by decide) w) ?_
    obtain ⟨rfl, rfl⟩ := zx_r2 hf
    exact hret (Or.inl rfl) _ _ zd_M_holds_54
  · rw [if_pos hc] at hf
    refine zg_1 (pc' := 50) (fun _ _ _ _ _ hl w => lv_iconst (v := (1 : Int32)) hx hb zd_M_holds_49 (by decide) w) ?_
    refine zg_1 (pc' := 54) (fun _ _ _ _ _ hl w => lv_goto hx hb zd_M_holds_50 (by decide) w) ?_
    obtain ⟨rfl, rfl⟩ := zx_r2 hf
    exact hret (Or.inr rfl) _ _ zd_M_holds_54
set_option maxHeartbeats 4000000 in
theorem zw_M_holds_10 {p : Program} {l : Launch} {e : Env} {R : Room} {s : State} {m : MethodId} {args : Array Value} {below : List Frame} {meth : Method} {c : Code} {Q : State → Prop} {h0 : Nat} {D : va_G} {dA : Nat → ClassId} {tb : Nat → Nat} {c0 k0 : Nat} {z : zh_S} {r : Int32} (X : zg_X p s m args meth c ze_M_holds 6 zr_M (some .boolean) h0 D dA tb) (hR : zg_R R c0 k0 z) (hF : 6 ≤ R.frames ∧ 174 ≤ R.locals) (hret : (r = 0 ∨ r = 1) → ∀ (pc : Nat) (lv : List (Nat × Value)), decode ze_M_holds pc = .ok (.ireturn, 1) → zg_G p l e R s m args below meth c Q h0 D dA 6 c0 k0 z z pc lv [.int r]) (n : Nat) (k : Nat) : ∀ (s0 : zh_S) (a0 : Nat) (i1 : Int32) (j2 : Int64) (i4 : Int32) (i5 : Int32), zl_M_holds_10 n k s0 a0 i1 j2 i4 i5 = some (r, z) → zg_G p l e R s m args below meth c Q h0 D dA 6 c0 k0 z s0 10 [(0, .ref (h0 + a0)), (1, .int i1), (2, .long j2), (4, .int i4), (5, .int i5)] [] := by
  obtain ⟨hx, hb, hml, hown, htT, hrt, hlk, x00, hIn⟩ := id X
  have hK := hIn.2.1
  have hT := hIn.2.2.1
  have hNe := hIn.2.2.2
  induction k with
  | zero => intro s0 a0 i1 j2 i4 i5 hf; cases hf
  | succ k ih =>
    intro s0 a0 i1 j2 i4 i5 hf
    rw [zl_M_holds_10] at hf
    refine zg_1 (pc' := 12) (fun _ _ _ _ _ hl w => lv_iload hx hb zd_M_holds_10 (lv_at hl 4 rfl) w) ?_
    refine zg_2 (pc1 := 42) (pc2 := 15) (Classical.em _) (fun _ _ _ _ _ w1 w2 => lv_if_lt hx hb zd_M_holds_12 (by decide) w1 w2) (fun hc => ?_) (fun hc => ?_)
    · rw [if_pos hc] at hf
      refine zg_v [0] rfl ?_
      exact zw_M_holds_42 X hR hF hret n s0 a0 hf
    · rw [if_neg hc] at hf
      refine zg_1 (pc' := 16) (fun _ _ _ _ _ hl w => lv_aload_n hx hb zd_M_holds_15 rfl (lv_at hl 0 rfl) w) ?_
      obtain ⟨h_1, hf⟩ := zx_ck hf
      refine zg_get (pc' := 19) (ci := 8) hx hb htT zi_M hown hK h_1 rfl rfl 26 (by decide) (htT _ zt_831) (fun _ h9 => h9) rfl zd_M_holds_16 rfl ?_
      refine zg_2 (pc1 := 42) (pc2 := 22) (Classical.em _).symm (fun _ _ _ _ _ w1 w2 => lv_if_ne hx hb zd_M_holds_19 (by decide) w1 w2) (fun hc => ?_) (fun hc => ?_)
      · rw [if_neg hc] at hf
        refine zg_v [0] rfl ?_
        exact zw_M_holds_42 X hR hF hret n s0 a0 hf
      · rw [if_pos hc] at hf
        refine zg_1 (pc' := 23) (fun _ _ _ _ _ hl w => lv_aload_n hx hb zd_M_holds_22 rfl (lv_at hl 0 rfl) w) ?_
        refine zg_1 (pc' := 24) (fun _ _ _ _ _ hl w => lv_aload_n hx hb zd_M_holds_23 rfl (lv_at hl 0 rfl) w) ?_
        refine zg_1 (pc' := 26) (fun _ _ _ _ _ hl w => lv_iload hx hb zd_M_holds_24 (lv_at hl 4 rfl) w) ?_
        refine zg_1 (pc' := 27) (fun _ _ _ _ _ hl w => lv_iload_n hx hb zd_M_holds_26 rfl (lv_at hl 1 rfl) w) ?_
        refine zg_1 (pc' := 28) (fun _ _ _ _ _ hl w => lv_lload_n hx hb zd_M_holds_27 rfl (lv_at hl 2 rfl) w) ?_
        refine zg_1 (pc' := 30) (fun _ _ _ _ _ hl w => lv_iload hx hb zd_M_holds_28 (lv_at hl 3 rfl) w) ?_
        obtain ⟨i_2, hq, hf⟩ := zx_p hf
        refine zg_call (pc' := 33) (y := s0) (rv := (some (.int i_2))) (rest := [.ref (h0 + a0)]) X hR ⟨Nat.le_refl _, Nat.le_refl _⟩ (fun H locs ls k j hsz hI hU hk => va_runV (As := [.int i5, .int i1, .long j2, .int i4]) (rest := [.ref (h0 + a0)]) ⟨hx, hb, hml, hown, htT⟩ (zc_M_against l h0 D dA tb n hq) (cwV 4 htT (zw_gV zt_1090 zt_1092 zt_56 zt_71 zt_1093) rfl rfl rfl (by decide +kernel) ⟨Nat.le_trans (Nat.le_of_ble_eq_true rfl) hF.1, Nat.le_trans (Nat.le_of_ble_eq_true rfl) hF.2⟩) ⟨(zg_pre hU).1, zg_recv hK hI h_1 rfl, (zg_pre hU).2⟩ rfl rfl hsz rfl (lv_room (Nat.le_of_ble_eq_true rfl)) zd_M_holds_30 hk) rfl ?_
        obtain ⟨s_3, e_s_3, hf⟩ := zx_l hf
        refine zg_putI (pc' := 36) (ci := 8) (ty := .int) hx hb htT zi_M zy_M zo_M zj_M hown hK h_1 rfl rfl 26 (by decide) (htT _ zt_831) (fun _ h9 => h9) (Or.inl rfl) (by decide +kernel) rfl rfl rfl e_s_3 zd_M_holds_33 rfl ?_
        obtain ⟨i_4, e_i_4, hf⟩ := zx_l hf
        refine zg_s (pc' := 39) (lv' := [(5, .int i_4), (0, .ref (h0 + a0)), (1, .int i1), (2, .long j2), (4, .int i4)]) (fun _ _ _ _ _ hl w => lv_iinc (k := 4) (v := i_4) hx hb zd_M_holds_36 hl rfl (by rw [e_i_4]; rfl) (by decide) rfl w) ?_
        refine zg_1 (pc' := 10) (fun _ _ _ _ _ hl w => lv_goto hx hb zd_M_holds_39 (by decide) w) ?_
        refine zg_v [1, 2, 3, 4, 0] rfl ?_
        exact ih s_3 a0 i1 j2 i4 i_4 hf
set_option maxHeartbeats 4000000 in
theorem zc_M_holds (l : Launch) (h0 : Nat) (D : va_G) (dA : Nat → ClassId) (tb : Nat → Nat) (n : Nat) {s0 : zh_S} {a0 : Nat} {i1 : Int32} {j2 : Int64} {i4 : Int32} {r : Int32} {z : zh_S} (hf : zf_M_holds n s0 a0 i1 j2 i4 = some (r, z)) : zc_M l zn_M_holds zs_M_holds 6 174 h0 D dA tb [.ref (h0 + a0), .int i1, .long j2, .int i4] s0 (some (.int r)) z := by
  rw [zf_M_holds] at hf
  refine zc_of (cc := ze_M_holds) (maxL := 6) (ret := (some .boolean)) (lv := [(0, .ref (h0 + a0)), (1, .int i1), (2, .long j2), (4, .int i4)]) (by decide) rfl (Nat.le_of_ble_eq_true rfl) rfl ?_
  intro p e s m args below meth c X hnm
  obtain ⟨hx, hb, hml, hown, htT, hrt, hlk, x00, hIn⟩ := id X
  have hK := hIn.2.1
  have hT := hIn.2.2.1
  have hNe := hIn.2.2.2
  have hR : zg_R { frames := 6, cells := zh_N z - zh_N s0, slots := zh_M z - zh_M s0, locals := 174 } (zh_N s0) (zh_M s0) z := ⟨by show zh_N z ≤ zh_N s0 + (zh_N z - zh_N s0); omega, by show zh_M z ≤ zh_M s0 + (zh_M z - zh_M s0); omega⟩
  have hF : 6 ≤ ({ frames := 6, cells := zh_N z - zh_N s0, slots := zh_M z - zh_M s0, locals := 174 } : Room).frames ∧ 174 ≤ ({ frames := 6, cells := zh_N z - zh_N s0, slots := zh_M z - zh_M s0, locals := 174 } : Room).locals := ⟨Nat.le_refl _, Nat.le_refl _⟩
  have hret := fun (hz : r = 0 ∨ r = 1) (pc : Nat) (lv : List (Nat × Value)) (hd : decode ze_M_holds pc = .ok (.ireturn, 1)) => zg_iret (R := { frames := 6, cells := zh_N z - zh_N s0, slots := zh_M z - zh_M s0, locals := 174 }) (l := l) (e := e) (below := below) (c0 := zh_N s0) (s0 := zh_M s0) (z := z) (lv := lv) (v := r) X (zx_nz hz) hd
  refine zg_1 (pc' := 1) (fun _ _ _ _ _ hl w => lv_aload_n hx hb zd_M_holds_0 rfl (lv_at hl 0 rfl) w) ?_
  refine zg_1 (pc' := 2) (fun _ _ _ _ _ hl w => lv_iconst (v := (0 : Int32)) hx hb zd_M_holds_1 (by decide) w) ?_
  obtain ⟨h_2, hf⟩ := zx_ck hf
  obtain ⟨s_1, e_s_1, hf⟩ := zx_l hf
  refine zg_putI (pc' := 5) (ci := 8) (ty := .int) hx hb htT zi_M zy_M zo_M zj_M hown hK h_2 rfl rfl 26 (by decide) (htT _ zt_831) (fun _ h9 => h9) (Or.inl rfl) (by decide +kernel) rfl rfl rfl e_s_1 zd_M_holds_2 rfl ?_
  refine zg_1 (pc' := 6) (fun _ _ _ _ _ hl w => lv_iload_n hx hb zd_M_holds_5 rfl (lv_at hl 1 rfl) w) ?_
  refine zg_1 (pc' := 7) (fun _ _ _ _ _ hl w => lv_iconst (v := (2 : Int32)) hx hb zd_M_holds_6 (by decide) w) ?_
  refine zg_1 (pc' := 8) (fun _ _ _ _ _ hl w => lv_isub hx hb zd_M_holds_7 w) ?_
  obtain ⟨i_3, e_i_3, hf⟩ := zx_l hf
  refine zg_ti e_i_3 ?_
  refine zg_s (pc' := 10) (lv' := [(5, .int i_3), (0, .ref (h0 + a0)), (1, .int i1), (2, .long j2), (4, .int i4)]) (fun _ _ _ _ _ hl w => lv_istore hx hb zd_M_holds_8 hl (by decide) rfl w) ?_
  refine zg_v [1, 2, 3, 4, 0] rfl ?_
  exact zw_M_holds_10 X hR hF hret n n s_1 a0 i1 j2 i4 i_3 hf
set_option maxHeartbeats 4000000 in
theorem zw_M_search_190 {p : Program} {l : Launch} {e : Env} {R : Room} {s : State} {m : MethodId} {args : Array Value} {below : List Frame} {meth : Method} {c : Code} {Q : State → Prop} {h0 : Nat} {D : va_G} {dA : Nat → ClassId} {tb : Nat → Nat} {c0 k0 : Nat} {z : zh_S} {r : Int32} (X : zg_X p s m args meth c ze_M_search 9 zr_M (some .int) h0 D dA tb) (hR : zg_R R c0 k0 z) (hF : 7 ≤ R.frames ∧ 199 ≤ R.locals) (hret : ∀ (pc : Nat) (lv : List (Nat × Value)), decode ze_M_search pc = .ok (.ireturn, 1) → zg_G p l e R s m args below meth c Q h0 D dA 9 c0 k0 z z pc lv [.int r]) (n : Nat) (r13 : zh_S → Nat → Int64 → Int32 → Int32 → Int32 → Int32 → Option (Int32 × zh_S)) (hr13 : ∀ (s0 : zh_S) (a0 : Nat) (j1 : Int64) (i3 : Int32) (i4 : Int32) (i5 : Int32) (i6 : Int32), r13 s0 a0 j1 i3 i4 i5 i6 = some (r, z) → zg_G p l e R s m args below meth c Q h0 D dA 9 c0 k0 z s0 13 [(0, .ref (h0 + a0)), (1, .long j1), (3, .int i3), (4, .int i4), (5, .int i5), (6, .int i6)] []) : ∀ (s0 : zh_S) (a0 : Nat) (j1 : Int64) (i3 : Int32) (i4 : Int32) (i5 : Int32) (i6 : Int32), zb_M_search_190 n r13 s0 a0 j1 i3 i4 i5 i6 = some (r, z) → zg_G p l e R s m args below meth c Q h0 D dA 9 c0 k0 z s0 190 [(0, .ref (h0 + a0)), (1, .long j1), (3, .int i3), (4, .int i4), (5, .int i5), (6, .int i6)] [] := by
  obtain ⟨hx, hb, hml, hown, htT, hrt, hlk, x00, hIn⟩ := id X
  have hK := hIn.2.1
  have hT := hIn.2.2.1
  have hNe := hIn.2.2.2
  intro s0 a0 j1 i3 i4 i5 i6 hf
  rw [zb_M_search_190] at hf
  refine zg_1 (pc' := 13) (fun _ _ _ _ _ hl w => lv_goto hx hb zd_M_search_190 (by decide) w) ?_
  exact hr13 s0 a0 j1 i3 i4 i5 i6 hf
set_option maxHeartbeats 4000000 in
theorem zw_M_search_141 {p : Program} {l : Launch} {e : Env} {R : Room} {s : State} {m : MethodId} {args : Array Value} {below : List Frame} {meth : Method} {c : Code} {Q : State → Prop} {h0 : Nat} {D : va_G} {dA : Nat → ClassId} {tb : Nat → Nat} {c0 k0 : Nat} {z : zh_S} {r : Int32} (X : zg_X p s m args meth c ze_M_search 9 zr_M (some .int) h0 D dA tb) (hR : zg_R R c0 k0 z) (hF : 7 ≤ R.frames ∧ 199 ≤ R.locals) (hret : ∀ (pc : Nat) (lv : List (Nat × Value)), decode ze_M_search pc = .ok (.ireturn, 1) → zg_G p l e R s m args below meth c Q h0 D dA 9 c0 k0 z z pc lv [.int r]) (n : Nat) (r13 : zh_S → Nat → Int64 → Int32 → Int32 → Int32 → Int32 → Option (Int32 × zh_S)) (hr13 : ∀ (s0 : zh_S) (a0 : Nat) (j1 : Int64) (i3 : Int32) (i4 : Int32) (i5 : Int32) (i6 : Int32), r13 s0 a0 j1 i3 i4 i5 i6 = some (r, z) → zg_G p l e R s m args below meth c Q h0 D dA 9 c0 k0 z s0 13 [(0, .ref (h0 + a0)), (1, .long j1), (3, .int i3), (4, .int i4), (5, .int i5), (6, .int i6)] []) : ∀ (s0 : zh_S) (a0 : Nat) (j1 : Int64) (i3 : Int32) (i4 : Int32) (i5 : Int32) (i8 : Int32) (it0 : Int32), zb_M_search_141 n r13 s0 a0 j1 i3 i4 i5 i8 it0 = some (r, z) → zg_G p l e R s m args below meth c Q h0 D dA 9 c0 k0 z s0 141 [(0, .ref (h0 + a0)), (1, .long j1), (3, .int i3), (4, .int i4), (5, .int i5), (8, .int i8)] [.int it0] := by
  obtain ⟨hx, hb, hml, hown, htT, hrt, hlk, x00, hIn⟩ := id X
  have hK := hIn.2.1
  have hT := hIn.2.2.1
  have hNe := hIn.2.2.2
  intro s0 a0 j1 i3 i4 i5 i8 it0 hf
  rw [zb_M_search_141] at hf
  refine zg_s (pc' := 143) (lv' := [(6, .int it0), (0, .ref (h0 + a0)), (1, .long j1), (3, .int i3), (4, .int i4), (5, .int i5), (8, .int i8)]) (fun _ _ _ _ _ hl w => lv_istore hx hb zd_M_search_141 hl (by decide) rfl w) ?_
  refine zg_1 (pc' := 145) (fun _ _ _ _ _ hl w => lv_iload hx hb zd_M_search_143 (lv_at hl 0 rfl) w) ?_
  refine zg_2 (pc1 := 187) (pc2 := 148) (Classical.em _) (fun _ _ _ _ _ w1 w2 => lv_if_eq hx hb zd_M_search_145 (by decide) w1 w2) (fun hc => ?_) (fun hc => ?_)
  · rw [if_pos hc] at hf
    obtain ⟨i_1, e_i_1, hf⟩ := zx_l hf
    refine zg_s (pc' := 190) (lv' := [(5, .int i_1), (6, .int it0), (0, .ref (h0 + a0)), (1, .long j1), (3, .int i3), (4, .int i4), (8, .int i8)]) (fun _ _ _ _ _ hl w => lv_iinc (k := 5) (v := i_1) hx hb zd_M_search_187 hl rfl (by rw [e_i_1]; rfl) (by decide) rfl w) ?_
    refine zg_v [2, 3, 4, 5, 0, 1] rfl ?_
    exact zw_M_search_190 X hR hF hret n _ hr13 s0 a0 j1 i3 i4 i_1 it0 hf
  · rw [if_neg hc] at hf
    refine zg_1 (pc' := 149) (fun _ _ _ _ _ hl w => lv_aload_n hx hb zd_M_search_148 rfl (lv_at hl 1 rfl) w) ?_
    obtain ⟨h_2, hf⟩ := zx_ck hf
    obtain ⟨a_3, h_4, hf⟩ := zx_p hf
    refine zg_get (pc' := 152) (ci := 8) hx hb htT zi_M hown hK h_2 rfl rfl 22 (by decide) (htT _ zt_827) (fun _ h9 => h9) (zx_hv h_4) zd_M_search_149 rfl ?_
    refine zg_1 (pc' := 154) (fun _ _ _ _ _ hl w => lv_iload hx hb zd_M_search_152 (lv_at hl 5 rfl) w) ?_
    refine zg_1 (pc' := 155) (fun _ _ _ _ _ hl w => lv_iconst (v := (1 : Int32)) hx hb zd_M_search_154 (by decide) w) ?_
    refine zg_1 (pc' := 156) (fun _ _ _ _ _ hl w => lv_isub hx hb zd_M_search_155 w) ?_
    refine zg_1 (pc' := 158) (fun _ _ _ _ _ hl w => lv_iload hx hb zd_M_search_156 (lv_at hl 6 rfl) w) ?_
    refine zg_1 (pc' := 159) (fun _ _ _ _ _ hl w => lv_iconst (v := (1 : Int32)) hx hb zd_M_search_158 (by decide) w) ?_
    refine zg_1 (pc' := 160) (fun _ _ _ _ _ hl w => lv_iadd hx hb zd_M_search_159 w) ?_
    obtain ⟨h_6, hf⟩ := zx_ck hf
    obtain ⟨s_5, e_s_5, hf⟩ := zx_l hf
    refine zg_iast (pc' := 161) hx hb hK h_6 e_s_5 zd_M_search_160 rfl ?_
    refine zg_1 (pc' := 162) (fun _ _ _ _ _ hl w => lv_aload_n hx hb zd_M_search_161 rfl (lv_at hl 1 rfl) w) ?_
    obtain ⟨h_7, hf⟩ := zx_ck hf
    obtain ⟨a_8, h_9, hf⟩ := zx_p hf
    refine zg_get (pc' := 165) (ci := 8) hx hb htT zi_M hown hK h_7 rfl rfl 21 (by decide) (htT _ zt_826) (fun _ h9 => h9) (zx_hv h_9) zd_M_search_162 rfl ?_
    refine zg_1 (pc' := 167) (fun _ _ _ _ _ hl w => lv_iload hx hb zd_M_search_165 (lv_at hl 5 rfl) w) ?_
    refine zg_1 (pc' := 169) (fun _ _ _ _ _ hl w => lv_iload hx hb zd_M_search_167 (lv_at hl 6 rfl) w) ?_
    refine zg_1 (pc' := 171) (fun _ _ _ _ _ hl w => lv_bipush (v := (12 : Int32)) hx hb zd_M_search_169 (by decide) w) ?_
    obtain ⟨h_10, hf⟩ := zx_ck hf
    refine zg_1 (pc' := 172) (fun _ _ _ _ _ hl w => lv_irem hx hb zd_M_search_171 h_10 w) ?_
    obtain ⟨h_12, hf⟩ := zx_ck hf
    obtain ⟨s_11, e_s_11, hf⟩ := zx_l hf
    refine zg_iast (pc' := 173) hx hb hK h_12 e_s_11 zd_M_search_172 rfl ?_
    refine zg_1 (pc' := 174) (fun _ _ _ _ _ hl w => lv_aload_n hx hb zd_M_search_173 rfl (lv_at hl 1 rfl) w) ?_
    obtain ⟨h_13, hf⟩ := zx_ck hf
    obtain ⟨a_14, h_15, hf⟩ := zx_p hf
    refine zg_get (pc' := 177) (ci := 8) hx hb htT zi_M hown hK h_13 rfl rfl 22 (by decide) (htT _ zt_827) (fun _ h9 => h9) (zx_hv h_15) zd_M_search_174 rfl ?_
    refine zg_1 (pc' := 179) (fun _ _ _ _ _ hl w => lv_iload hx hb zd_M_search_177 (lv_at hl 5 rfl) w) ?_
    refine zg_1 (pc' := 180) (fun _ _ _ _ _ hl w => lv_iconst (v := (0 : Int32)) hx hb zd_M_search_179 (by decide) w) ?_
    obtain ⟨h_17, hf⟩ := zx_ck hf
    obtain ⟨s_16, e_s_16, hf⟩ := zx_l hf
    refine zg_iast (pc' := 181) hx hb hK h_17 e_s_16 zd_M_search_180 rfl ?_
    obtain ⟨i_18, e_i_18, hf⟩ := zx_l hf
    refine zg_s (pc' := 184) (lv' := [(5, .int i_18), (6, .int it0), (0, .ref (h0 + a0)), (1, .long j1), (3, .int i3), (4, .int i4), (8, .int i8)]) (fun _ _ _ _ _ hl w => lv_iinc (k := 5) (v := i_18) hx hb zd_M_search_181 hl rfl (by rw [e_i_18]; rfl) (by decide) rfl w) ?_
    refine zg_1 (pc' := 190) (fun _ _ _ _ _ hl w => lv_goto hx hb zd_M_search_184 (by decide) w) ?_
    refine zg_v [2, 3, 4, 5, 0, 1] rfl ?_
    exact zw_M_search_190 X hR hF hret n _ hr13 s_16 a0 j1 i3 i4 i_18 it0 hf
set_option maxHeartbeats 4000000 in
theorem zw_M_search_129 {p : Program} {l : Launch} {e : Env} {R : Room} {s : State} {m : MethodId} {args : Array Value} {below : List Frame} {meth : Method} {c : Code} {Q : State → Prop} {h0 : Nat} {D : va_G} {dA : Nat → ClassId} {tb : Nat → Nat} {c0 k0 : Nat} {z : zh_S} {r : Int32} (X : zg_X p s m args meth c ze_M_search 9 zr_M (some .int) h0 D dA tb) (hR : zg_R R c0 k0 z) (hF : 7 ≤ R.frames ∧ 199 ≤ R.locals) (hret : ∀ (pc : Nat) (lv : List (Nat × Value)), decode ze_M_search pc = .ok (.ireturn, 1) → zg_G p l e R s m args below meth c Q h0 D dA 9 c0 k0 z z pc lv [.int r]) (n : Nat) (r13 : zh_S → Nat → Int64 → Int32 → Int32 → Int32 → Int32 → Option (Int32 × zh_S)) (hr13 : ∀ (s0 : zh_S) (a0 : Nat) (j1 : Int64) (i3 : Int32) (i4 : Int32) (i5 : Int32) (i6 : Int32), r13 s0 a0 j1 i3 i4 i5 i6 = some (r, z) → zg_G p l e R s m args below meth c Q h0 D dA 9 c0 k0 z s0 13 [(0, .ref (h0 + a0)), (1, .long j1), (3, .int i3), (4, .int i4), (5, .int i5), (6, .int i6)] []) : ∀ (s0 : zh_S) (a0 : Nat) (j1 : Int64) (i3 : Int32) (i4 : Int32) (i5 : Int32) (i8 : Int32), zb_M_search_129 n r13 s0 a0 j1 i3 i4 i5 i8 = some (r, z) → zg_G p l e R s m args below meth c Q h0 D dA 9 c0 k0 z s0 129 [(0, .ref (h0 + a0)), (1, .long j1), (3, .int i3), (4, .int i4), (5, .int i5), (8, .int i8)] [] := by
  obtain ⟨hx, hb, hml, hown, htT, hrt, hlk, x00, hIn⟩ := id X
  have hK := hIn.2.1
  have hT := hIn.2.2.1
  have hNe := hIn.2.2.2
  intro s0 a0 j1 i3 i4 i5 i8 hf
  rw [zb_M_search_129] at hf
  refine zg_1 (pc' := 131) (fun _ _ _ _ _ hl w => lv_iload hx hb zd_M_search_129 (lv_at hl 5 rfl) w) ?_
  refine zg_1 (pc' := 133) (fun _ _ _ _ _ hl w => lv_bipush (v := (24 : Int32)) hx hb zd_M_search_131 (by decide) w) ?_
  refine zg_2 (pc1 := 140) (pc2 := 136) (Classical.em _) (fun _ _ _ _ _ w1 w2 => lv_icmp_ge hx hb zd_M_search_133 (by decide) w1 w2) (fun hc => ?_) (fun hc => ?_)
  · rw [if_pos hc] at hf
    refine zg_1 (pc' := 141) (fun _ _ _ _ _ hl w => lv_iconst (v := (0 : Int32)) hx hb zd_M_search_140 (by decide) w) ?_
    exact zw_M_search_141 X hR hF hret n _ hr13 s0 a0 j1 i3 i4 i5 i8 (0 : Int32) hf
  · rw [if_neg hc] at hf
    refine zg_1 (pc' := 137) (fun _ _ _ _ _ hl w => lv_iconst (v := (1 : Int32)) hx hb zd_M_search_136 (by decide) w) ?_
    refine zg_1 (pc' := 141) (fun _ _ _ _ _ hl w => lv_goto hx hb zd_M_search_137 (by decide) w) ?_
    exact zw_M_search_141 X hR hF hret n _ hr13 s0 a0 j1 i3 i4 i5 i8 (1 : Int32) hf
set_option maxHeartbeats 4000000 in
theorem zw_M_search_105 {p : Program} {l : Launch} {e : Env} {R : Room} {s : State} {m : MethodId} {args : Array Value} {below : List Frame} {meth : Method} {c : Code} {Q : State → Prop} {h0 : Nat} {D : va_G} {dA : Nat → ClassId} {tb : Nat → Nat} {c0 k0 : Nat} {z : zh_S} {r : Int32} (X : zg_X p s m args meth c ze_M_search 9 zr_M (some .int) h0 D dA tb) (hR : zg_R R c0 k0 z) (hF : 7 ≤ R.frames ∧ 199 ≤ R.locals) (hret : ∀ (pc : Nat) (lv : List (Nat × Value)), decode ze_M_search pc = .ok (.ireturn, 1) → zg_G p l e R s m args below meth c Q h0 D dA 9 c0 k0 z z pc lv [.int r]) (n : Nat) (r13 : zh_S → Nat → Int64 → Int32 → Int32 → Int32 → Int32 → Option (Int32 × zh_S)) (hr13 : ∀ (s0 : zh_S) (a0 : Nat) (j1 : Int64) (i3 : Int32) (i4 : Int32) (i5 : Int32) (i6 : Int32), r13 s0 a0 j1 i3 i4 i5 i6 = some (r, z) → zg_G p l e R s m args below meth c Q h0 D dA 9 c0 k0 z s0 13 [(0, .ref (h0 + a0)), (1, .long j1), (3, .int i3), (4, .int i4), (5, .int i5), (6, .int i6)] []) (k : Nat) : ∀ (s0 : zh_S) (a0 : Nat) (j1 : Int64) (i3 : Int32) (i4 : Int32) (i5 : Int32) (i8 : Int32), zl_M_search_105 n r13 k s0 a0 j1 i3 i4 i5 i8 = some (r, z) → zg_G p l e R s m args below meth c Q h0 D dA 9 c0 k0 z s0 105 [(0, .ref (h0 + a0)), (1, .long j1), (3, .int i3), (4, .int i4), (5, .int i5), (8, .int i8)] [] := by
  obtain ⟨hx, hb, hml, hown, htT, hrt, hlk, x00, hIn⟩ := id X
  have hK := hIn.2.1
  have hT := hIn.2.2.1
  have hNe := hIn.2.2.2
  induction k with
  | zero => intro s0 a0 j1 i3 i4 i5 i8 hf; cases hf
  | succ k ih =>
    intro s0 a0 j1 i3 i4 i5 i8 hf
    rw [zl_M_search_105] at hf
    refine zg_1 (pc' := 107) (fun _ _ _ _ _ hl w => lv_iload hx hb zd_M_search_105 (lv_at hl 5 rfl) w) ?_
    refine zg_1 (pc' := 109) (fun _ _ _ _ _ hl w => lv_bipush (v := (24 : Int32)) hx hb zd_M_search_107 (by decide) w) ?_
    refine zg_2 (pc1 := 129) (pc2 := 112) (Classical.em _) (fun _ _ _ _ _ w1 w2 => lv_icmp_ge hx hb zd_M_search_109 (by decide) w1 w2) (fun hc => ?_) (fun hc => ?_)
    · rw [if_pos hc] at hf
      exact zw_M_search_129 X hR hF hret n _ hr13 s0 a0 j1 i3 i4 i5 i8 hf
    · rw [if_neg hc] at hf
      refine zg_1 (pc' := 113) (fun _ _ _ _ _ hl w => lv_aload_n hx hb zd_M_search_112 rfl (lv_at hl 0 rfl) w) ?_
      refine zg_1 (pc' := 115) (fun _ _ _ _ _ hl w => lv_iload hx hb zd_M_search_113 (lv_at hl 5 rfl) w) ?_
      refine zg_1 (pc' := 117) (fun _ _ _ _ _ hl w => lv_iload hx hb zd_M_search_115 (lv_at hl 4 rfl) w) ?_
      obtain ⟨h_1, hf⟩ := zx_ck hf
      obtain ⟨i_2, hq, hf⟩ := zx_p hf
      refine zg_call (pc' := 120) (y := s0) (rv := (some (.int i_2))) (rest := []) X hR ⟨Nat.le_refl _, Nat.le_refl _⟩ (fun H locs ls k j hsz hI hU hk => va_runV (As := [.int i8, .int i5]) (rest := []) ⟨hx, hb, hml, hown, htT⟩ (zc_M_suits l h0 D dA tb n hq) (cwV 2 htT (zw_gV zt_1118 zt_1120 zt_62 zt_71 zt_1121) rfl rfl rfl (by decide +kernel) ⟨Nat.le_trans (Nat.le_of_ble_eq_true rfl) hF.1, Nat.le_trans (Nat.le_of_ble_eq_true rfl) hF.2⟩) ⟨(zg_pre hU).1, zg_recv hK hI h_1 rfl, (zg_pre hU).2⟩ rfl rfl hsz rfl (lv_room (Nat.le_of_ble_eq_true rfl)) zd_M_search_117 hk) rfl ?_
      refine zg_2 (pc1 := 129) (pc2 := 123) (Classical.em _).symm (fun _ _ _ _ _ w1 w2 => lv_if_ne hx hb zd_M_search_120 (by decide) w1 w2) (fun hc => ?_) (fun hc => ?_)
      · rw [if_neg hc] at hf
        exact zw_M_search_129 X hR hF hret n _ hr13 s0 a0 j1 i3 i4 i5 i8 hf
      · rw [if_pos hc] at hf
        obtain ⟨i_3, e_i_3, hf⟩ := zx_l hf
        refine zg_s (pc' := 126) (lv' := [(8, .int i_3), (0, .ref (h0 + a0)), (1, .long j1), (3, .int i3), (4, .int i4), (5, .int i5)]) (fun _ _ _ _ _ hl w => lv_iinc (k := 5) (v := i_3) hx hb zd_M_search_123 hl rfl (by rw [e_i_3]; rfl) (by decide) rfl w) ?_
        refine zg_1 (pc' := 105) (fun _ _ _ _ _ hl w => lv_goto hx hb zd_M_search_126 (by decide) w) ?_
        refine zg_v [1, 2, 3, 4, 5, 0] rfl ?_
        exact ih s0 a0 j1 i3 i4 i5 i_3 hf
set_option maxHeartbeats 4000000 in
theorem zw_M_search_103 {p : Program} {l : Launch} {e : Env} {R : Room} {s : State} {m : MethodId} {args : Array Value} {below : List Frame} {meth : Method} {c : Code} {Q : State → Prop} {h0 : Nat} {D : va_G} {dA : Nat → ClassId} {tb : Nat → Nat} {c0 k0 : Nat} {z : zh_S} {r : Int32} (X : zg_X p s m args meth c ze_M_search 9 zr_M (some .int) h0 D dA tb) (hR : zg_R R c0 k0 z) (hF : 7 ≤ R.frames ∧ 199 ≤ R.locals) (hret : ∀ (pc : Nat) (lv : List (Nat × Value)), decode ze_M_search pc = .ok (.ireturn, 1) → zg_G p l e R s m args below meth c Q h0 D dA 9 c0 k0 z z pc lv [.int r]) (n : Nat) (r13 : zh_S → Nat → Int64 → Int32 → Int32 → Int32 → Int32 → Option (Int32 × zh_S)) (hr13 : ∀ (s0 : zh_S) (a0 : Nat) (j1 : Int64) (i3 : Int32) (i4 : Int32) (i5 : Int32) (i6 : Int32), r13 s0 a0 j1 i3 i4 i5 i6 = some (r, z) → zg_G p l e R s m args below meth c Q h0 D dA 9 c0 k0 z s0 13 [(0, .ref (h0 + a0)), (1, .long j1), (3, .int i3), (4, .int i4), (5, .int i5), (6, .int i6)] []) : ∀ (s0 : zh_S) (a0 : Nat) (j1 : Int64) (i3 : Int32) (i4 : Int32) (i5 : Int32) (it0 : Int32), zb_M_search_103 n r13 s0 a0 j1 i3 i4 i5 it0 = some (r, z) → zg_G p l e R s m args below meth c Q h0 D dA 9 c0 k0 z s0 103 [(0, .ref (h0 + a0)), (1, .long j1), (3, .int i3), (4, .int i4), (5, .int i5)] [.int it0] := by
  obtain ⟨hx, hb, hml, hown, htT, hrt, hlk, x00, hIn⟩ := id X
  have hK := hIn.2.1
  have hT := hIn.2.2.1
  have hNe := hIn.2.2.2
  intro s0 a0 j1 i3 i4 i5 it0 hf
  rw [zb_M_search_103] at hf
  refine zg_s (pc' := 105) (lv' := [(8, .int it0), (0, .ref (h0 + a0)), (1, .long j1), (3, .int i3), (4, .int i4), (5, .int i5)]) (fun _ _ _ _ _ hl w => lv_istore hx hb zd_M_search_103 hl (by decide) rfl w) ?_
  refine zg_v [1, 2, 3, 4, 5, 0] rfl ?_
  exact zw_M_search_105 X hR hF hret n _ hr13 n s0 a0 j1 i3 i4 i5 it0 hf
set_option maxHeartbeats 4000000 in
theorem zw_M_search_89 {p : Program} {l : Launch} {e : Env} {R : Room} {s : State} {m : MethodId} {args : Array Value} {below : List Frame} {meth : Method} {c : Code} {Q : State → Prop} {h0 : Nat} {D : va_G} {dA : Nat → ClassId} {tb : Nat → Nat} {c0 k0 : Nat} {z : zh_S} {r : Int32} (X : zg_X p s m args meth c ze_M_search 9 zr_M (some .int) h0 D dA tb) (hR : zg_R R c0 k0 z) (hF : 7 ≤ R.frames ∧ 199 ≤ R.locals) (hret : ∀ (pc : Nat) (lv : List (Nat × Value)), decode ze_M_search pc = .ok (.ireturn, 1) → zg_G p l e R s m args below meth c Q h0 D dA 9 c0 k0 z z pc lv [.int r]) (n : Nat) (r13 : zh_S → Nat → Int64 → Int32 → Int32 → Int32 → Int32 → Option (Int32 × zh_S)) (hr13 : ∀ (s0 : zh_S) (a0 : Nat) (j1 : Int64) (i3 : Int32) (i4 : Int32) (i5 : Int32) (i6 : Int32), r13 s0 a0 j1 i3 i4 i5 i6 = some (r, z) → zg_G p l e R s m args below meth c Q h0 D dA 9 c0 k0 z s0 13 [(0, .ref (h0 + a0)), (1, .long j1), (3, .int i3), (4, .int i4), (5, .int i5), (6, .int i6)] []) : ∀ (s0 : zh_S) (a0 : Nat) (j1 : Int64) (i3 : Int32) (i4 : Int32) (i5 : Int32), zb_M_search_89 n r13 s0 a0 j1 i3 i4 i5 = some (r, z) → zg_G p l e R s m args below meth c Q h0 D dA 9 c0 k0 z s0 89 [(0, .ref (h0 + a0)), (1, .long j1), (3, .int i3), (4, .int i4), (5, .int i5)] [] := by
  obtain ⟨hx, hb, hml, hown, htT, hrt, hlk, x00, hIn⟩ := id X
  have hK := hIn.2.1
  have hT := hIn.2.2.1
  have hNe := hIn.2.2.2
  intro s0 a0 j1 i3 i4 i5 hf
  rw [zb_M_search_89] at hf
  refine zg_1 (pc' := 91) (fun _ _ _ _ _ hl w => lv_bipush (v := (24 : Int32)) hx hb zd_M_search_89 (by decide) w) ?_
  refine zg_1 (pc' := 103) (fun _ _ _ _ _ hl w => lv_goto hx hb zd_M_search_91 (by decide) w) ?_
  exact zw_M_search_103 X hR hF hret n _ hr13 s0 a0 j1 i3 i4 i5 (24 : Int32) hf
set_option maxHeartbeats 4000000 in
theorem zw_M_search_78 {p : Program} {l : Launch} {e : Env} {R : Room} {s : State} {m : MethodId} {args : Array Value} {below : List Frame} {meth : Method} {c : Code} {Q : State → Prop} {h0 : Nat} {D : va_G} {dA : Nat → ClassId} {tb : Nat → Nat} {c0 k0 : Nat} {z : zh_S} {r : Int32} (X : zg_X p s m args meth c ze_M_search 9 zr_M (some .int) h0 D dA tb) (hR : zg_R R c0 k0 z) (hF : 7 ≤ R.frames ∧ 199 ≤ R.locals) (hret : ∀ (pc : Nat) (lv : List (Nat × Value)), decode ze_M_search pc = .ok (.ireturn, 1) → zg_G p l e R s m args below meth c Q h0 D dA 9 c0 k0 z z pc lv [.int r]) (n : Nat) (r13 : zh_S → Nat → Int64 → Int32 → Int32 → Int32 → Int32 → Option (Int32 × zh_S)) (hr13 : ∀ (s0 : zh_S) (a0 : Nat) (j1 : Int64) (i3 : Int32) (i4 : Int32) (i5 : Int32) (i6 : Int32), r13 s0 a0 j1 i3 i4 i5 i6 = some (r, z) → zg_G p l e R s m args below meth c Q h0 D dA 9 c0 k0 z s0 13 [(0, .ref (h0 + a0)), (1, .long j1), (3, .int i3), (4, .int i4), (5, .int i5), (6, .int i6)] []) : ∀ (s0 : zh_S) (a0 : Nat) (j1 : Int64) (i3 : Int32) (i4 : Int32) (i5 : Int32) (i7 : Int32), zb_M_search_78 n r13 s0 a0 j1 i3 i4 i5 i7 = some (r, z) → zg_G p l e R s m args below meth c Q h0 D dA 9 c0 k0 z s0 78 [(0, .ref (h0 + a0)), (1, .long j1), (3, .int i3), (4, .int i4), (5, .int i5), (7, .int i7)] [] := by
  obtain ⟨hx, hb, hml, hown, htT, hrt, hlk, x00, hIn⟩ := id X
  have hK := hIn.2.1
  have hT := hIn.2.2.1
  have hNe := hIn.2.2.2
  intro s0 a0 j1 i3 i4 i5 i7 hf
  rw [zb_M_search_78] at hf
  refine zg_1 (pc' := 80) (fun _ _ _ _ _ hl w => lv_iload hx hb zd_M_search_78 (lv_at hl 5 rfl) w) ?_
  refine zg_2 (pc1 := 89) (pc2 := 83) (Classical.em _).symm (fun _ _ _ _ _ w1 w2 => lv_if_ne hx hb zd_M_search_80 (by decide) w1 w2) (fun hc => ?_) (fun hc => ?_)
  · rw [if_neg hc] at hf
    refine zg_v [0, 1, 2, 3, 4] rfl ?_
    exact zw_M_search_89 X hR hF hret n _ hr13 s0 a0 j1 i3 i4 i5 hf
  · rw [if_pos hc] at hf
    refine zg_1 (pc' := 85) (fun _ _ _ _ _ hl w => lv_iload hx hb zd_M_search_83 (lv_at hl 4 rfl) w) ?_
    refine zg_1 (pc' := 86) (fun _ _ _ _ _ hl w => lv_iload_n hx hb zd_M_search_85 rfl (lv_at hl 2 rfl) w) ?_
    refine zg_2 (pc1 := 94) (pc2 := 89) (Classical.em _).symm (fun _ _ _ _ _ w1 w2 => lv_icmp_ne hx hb zd_M_search_86 (by decide) w1 w2) (fun hc => ?_) (fun hc => ?_)
    · rw [if_neg hc] at hf
      refine zg_1 (pc' := 95) (fun _ _ _ _ _ hl w => lv_aload_n hx hb zd_M_search_94 rfl (lv_at hl 0 rfl) w) ?_
      obtain ⟨h_1, hf⟩ := zx_ck hf
      obtain ⟨a_2, h_3, hf⟩ := zx_p hf
      refine zg_get (pc' := 98) (ci := 8) hx hb htT zi_M hown hK h_1 rfl rfl 22 (by decide) (htT _ zt_827) (fun _ h9 => h9) (zx_hv h_3) zd_M_search_95 rfl ?_
      refine zg_1 (pc' := 100) (fun _ _ _ _ _ hl w => lv_iload hx hb zd_M_search_98 (lv_at hl 4 rfl) w) ?_
      refine zg_1 (pc' := 101) (fun _ _ _ _ _ hl w => lv_iconst (v := (1 : Int32)) hx hb zd_M_search_100 (by decide) w) ?_
      refine zg_1 (pc' := 102) (fun _ _ _ _ _ hl w => lv_isub hx hb zd_M_search_101 w) ?_
      obtain ⟨h_4, hf⟩ := zx_ck hf
      refine zg_iald (pc' := 103) hx hb hK h_4 zd_M_search_102 rfl ?_
      refine zg_v [0, 1, 2, 3, 4] rfl ?_
      exact zw_M_search_103 X hR hF hret n _ hr13 s0 a0 j1 i3 i4 i5 (zh_I s0 a_2 ((i5 - (1 : Int32)).toNatClampNeg)) hf
    · rw [if_pos hc] at hf
      refine zg_v [0, 1, 2, 3, 4] rfl ?_
      exact zw_M_search_89 X hR hF hret n _ hr13 s0 a0 j1 i3 i4 i5 hf
set_option maxHeartbeats 4000000 in
theorem zw_M_search_13 {p : Program} {l : Launch} {e : Env} {R : Room} {s : State} {m : MethodId} {args : Array Value} {below : List Frame} {meth : Method} {c : Code} {Q : State → Prop} {h0 : Nat} {D : va_G} {dA : Nat → ClassId} {tb : Nat → Nat} {c0 k0 : Nat} {z : zh_S} {r : Int32} (X : zg_X p s m args meth c ze_M_search 9 zr_M (some .int) h0 D dA tb) (hR : zg_R R c0 k0 z) (hF : 7 ≤ R.frames ∧ 199 ≤ R.locals) (hret : ∀ (pc : Nat) (lv : List (Nat × Value)), decode ze_M_search pc = .ok (.ireturn, 1) → zg_G p l e R s m args below meth c Q h0 D dA 9 c0 k0 z z pc lv [.int r]) (n : Nat) (k : Nat) : ∀ (s0 : zh_S) (a0 : Nat) (j1 : Int64) (i3 : Int32) (i4 : Int32) (i5 : Int32) (i6 : Int32), zl_M_search_13 n k s0 a0 j1 i3 i4 i5 i6 = some (r, z) → zg_G p l e R s m args below meth c Q h0 D dA 9 c0 k0 z s0 13 [(0, .ref (h0 + a0)), (1, .long j1), (3, .int i3), (4, .int i4), (5, .int i5), (6, .int i6)] [] := by
  obtain ⟨hx, hb, hml, hown, htT, hrt, hlk, x00, hIn⟩ := id X
  have hK := hIn.2.1
  have hT := hIn.2.2.1
  have hNe := hIn.2.2.2
  induction k with
  | zero => intro s0 a0 j1 i3 i4 i5 i6 hf; cases hf
  | succ k ih =>
    intro s0 a0 j1 i3 i4 i5 i6 hf
    rw [zl_M_search_13] at hf
    refine zg_1 (pc' := 15) (fun _ _ _ _ _ hl w => lv_iload hx hb zd_M_search_13 (lv_at hl 4 rfl) w) ?_
    refine zg_2 (pc1 := 193) (pc2 := 18) (Classical.em _) (fun _ _ _ _ _ w1 w2 => lv_if_le hx hb zd_M_search_15 (by decide) w1 w2) (fun hc => ?_) (fun hc => ?_)
    · rw [if_pos hc] at hf
      refine zg_1 (pc' := 194) (fun _ _ _ _ _ hl w => lv_iconst (v := (0 : Int32)) hx hb zd_M_search_193 (by decide) w) ?_
      obtain ⟨rfl, rfl⟩ := zx_r2 hf
      exact hret _ _ zd_M_search_194
    · rw [if_neg hc] at hf
      refine zg_1 (pc' := 19) (fun _ _ _ _ _ hl w => lv_aload_n hx hb zd_M_search_18 rfl (lv_at hl 0 rfl) w) ?_
      obtain ⟨h_1, hf⟩ := zx_ck hf
      refine zg_get (pc' := 22) (ci := 8) hx hb htT zi_M hown hK h_1 rfl rfl 25 (by decide) (htT _ zt_830) (fun _ h9 => h9) rfl zd_M_search_19 rfl ?_
      refine zg_1 (pc' := 24) (fun _ _ _ _ _ hl w => lv_bipush (v := (40 : Int32)) hx hb zd_M_search_22 (by decide) w) ?_
      refine zg_2 (pc1 := 193) (pc2 := 27) (Classical.em _) (fun _ _ _ _ _ w1 w2 => lv_icmp_ge hx hb zd_M_search_24 (by decide) w1 w2) (fun hc => ?_) (fun hc => ?_)
      · rw [if_pos hc] at hf
        refine zg_1 (pc' := 194) (fun _ _ _ _ _ hl w => lv_iconst (v := (0 : Int32)) hx hb zd_M_search_193 (by decide) w) ?_
        obtain ⟨rfl, rfl⟩ := zx_r2 hf
        exact hret _ _ zd_M_search_194
      · rw [if_neg hc] at hf
        refine zg_1 (pc' := 28) (fun _ _ _ _ _ hl w => lv_aload_n hx hb zd_M_search_27 rfl (lv_at hl 0 rfl) w) ?_
        refine zg_1 (pc' := 29) (fun _ _ _ _ _ hl w => lv_aload_n hx hb zd_M_search_28 rfl (lv_at hl 0 rfl) w) ?_
        obtain ⟨a_2, h_3, hf⟩ := zx_p hf
        refine zg_get (pc' := 32) (ci := 8) hx hb htT zi_M hown hK h_1 rfl rfl 21 (by decide) (htT _ zt_826) (fun _ h9 => h9) (zx_hv h_3) zd_M_search_29 rfl ?_
        refine zg_1 (pc' := 34) (fun _ _ _ _ _ hl w => lv_iload hx hb zd_M_search_32 (lv_at hl 4 rfl) w) ?_
        refine zg_1 (pc' := 35) (fun _ _ _ _ _ hl w => lv_iconst (v := (1 : Int32)) hx hb zd_M_search_34 (by decide) w) ?_
        refine zg_1 (pc' := 36) (fun _ _ _ _ _ hl w => lv_isub hx hb zd_M_search_35 w) ?_
        obtain ⟨h_4, hf⟩ := zx_ck hf
        refine zg_iald (pc' := 37) hx hb hK h_4 zd_M_search_36 rfl ?_
        refine zg_1 (pc' := 38) (fun _ _ _ _ _ hl w => lv_lconst (v := (1 : Int64)) hx hb zd_M_search_37 (by decide) w) ?_
        obtain ⟨i_5, hq, hf⟩ := zx_p hf
        refine zg_call (pc' := 41) (y := s0) (rv := (some (.int i_5))) (rest := []) X hR ⟨Nat.le_refl _, Nat.le_refl _⟩ (fun H locs ls k j hsz hI hU hk => va_runV (As := [.int (zh_I s0 a_2 ((i5 - (1 : Int32)).toNatClampNeg)), .long (1 : Int64)]) (rest := []) ⟨hx, hb, hml, hown, htT⟩ (zc_M_flag l h0 D dA tb n hq) (cwV 2 htT (zw_gV zt_1082 zt_1084 zt_54 zt_71 zt_1085) rfl rfl rfl (by decide +kernel) ⟨Nat.le_trans (Nat.le_of_ble_eq_true rfl) hF.1, Nat.le_trans (Nat.le_of_ble_eq_true rfl) hF.2⟩) ⟨(zg_pre hU).1, zg_recv hK hI h_1 rfl, (zg_pre hU).2⟩ rfl rfl hsz rfl (lv_room (Nat.le_of_ble_eq_true rfl)) zd_M_search_38 hk) rfl ?_
        refine zg_s (pc' := 43) (lv' := [(7, .int i_5), (0, .ref (h0 + a0)), (1, .long j1), (3, .int i3), (4, .int i4), (5, .int i5), (6, .int i6)]) (fun _ _ _ _ _ hl w => lv_istore hx hb zd_M_search_41 hl (by decide) rfl w) ?_
        refine zg_1 (pc' := 45) (fun _ _ _ _ _ hl w => lv_iload hx hb zd_M_search_43 (lv_at hl 6 rfl) w) ?_
        refine zg_2 (pc1 := 78) (pc2 := 48) (Classical.em _) (fun _ _ _ _ _ w1 w2 => lv_if_eq hx hb zd_M_search_45 (by decide) w1 w2) (fun hc => ?_) (fun hc => ?_)
        · rw [if_pos hc] at hf
          refine zg_v [1, 2, 3, 4, 5, 0] rfl ?_
          exact zw_M_search_78 X hR hF hret n _ ih s0 a0 j1 i3 i4 i5 i_5 hf
        · rw [if_neg hc] at hf
          refine zg_1 (pc' := 50) (fun _ _ _ _ _ hl w => lv_iload hx hb zd_M_search_48 (lv_at hl 0 rfl) w) ?_
          refine zg_2 (pc1 := 78) (pc2 := 53) (Classical.em _) (fun _ _ _ _ _ w1 w2 => lv_if_eq hx hb zd_M_search_50 (by decide) w1 w2) (fun hc => ?_) (fun hc => ?_)
          · rw [if_pos hc] at hf
            refine zg_v [1, 2, 3, 4, 5, 0] rfl ?_
            exact zw_M_search_78 X hR hF hret n _ ih s0 a0 j1 i3 i4 i5 i_5 hf
          · rw [if_neg hc] at hf
            refine zg_1 (pc' := 54) (fun _ _ _ _ _ hl w => lv_aload_n hx hb zd_M_search_53 rfl (lv_at hl 1 rfl) w) ?_
            refine zg_1 (pc' := 55) (fun _ _ _ _ _ hl w => lv_dup hx hb zd_M_search_54 rfl w) ?_
            refine zg_get (pc' := 58) (ci := 8) hx hb htT zi_M hown hK h_1 rfl rfl 25 (by decide) (htT _ zt_830) (fun _ h9 => h9) rfl zd_M_search_55 rfl ?_
            refine zg_1 (pc' := 59) (fun _ _ _ _ _ hl w => lv_iconst (v := (1 : Int32)) hx hb zd_M_search_58 (by decide) w) ?_
            refine zg_1 (pc' := 60) (fun _ _ _ _ _ hl w => lv_iadd hx hb zd_M_search_59 w) ?_
            obtain ⟨s_6, e_s_6, hf⟩ := zx_l hf
            refine zg_putI (pc' := 63) (ci := 8) (ty := .int) hx hb htT zi_M zy_M zo_M zj_M hown hK h_1 rfl rfl 25 (by decide) (htT _ zt_830) (fun _ h9 => h9) (Or.inl rfl) (by decide +kernel) rfl rfl rfl e_s_6 zd_M_search_60 rfl ?_
            refine zg_1 (pc' := 64) (fun _ _ _ _ _ hl w => lv_aload_n hx hb zd_M_search_63 rfl (lv_at hl 1 rfl) w) ?_
            refine zg_1 (pc' := 66) (fun _ _ _ _ _ hl w => lv_iload hx hb zd_M_search_64 (lv_at hl 5 rfl) w) ?_
            refine zg_1 (pc' := 67) (fun _ _ _ _ _ hl w => lv_lload_n hx hb zd_M_search_66 rfl (lv_at hl 2 rfl) w) ?_
            refine zg_1 (pc' := 69) (fun _ _ _ _ _ hl w => lv_iload hx hb zd_M_search_67 (lv_at hl 4 rfl) w) ?_
            obtain ⟨i_8, s_7, hq, hf⟩ := zx_b hf
            refine zg_call (pc' := 72) (y := s_7) (rv := (some (.int i_8))) (rest := []) X hR (zm_M_holds hq) (fun H locs ls k j hsz hI hU hk => va_runV (As := [.int i5, .long j1, .int i4]) (rest := []) ⟨hx, hb, hml, hown, htT⟩ (zc_M_holds l h0 D dA tb n hq) (cwV 3 htT (zw_gV zt_1086 zt_1088 zt_55 zt_71 zt_1089) rfl rfl rfl (by decide +kernel) ⟨Nat.le_trans (Nat.le_of_ble_eq_true rfl) hF.1, Nat.le_trans (Nat.le_of_ble_eq_true rfl) hF.2⟩) ⟨(zg_pre hU).1, zg_recv hK hI (zx_oI e_s_6 h_1) rfl, (zg_pre hU).2⟩ rfl rfl hsz rfl (lv_room (Nat.le_of_ble_eq_true rfl)) zd_M_search_69 hk) rfl ?_
            refine zg_2 (pc1 := 78) (pc2 := 75) (Classical.em _) (fun _ _ _ _ _ w1 w2 => lv_if_eq hx hb zd_M_search_72 (by decide) w1 w2) (fun hc => ?_) (fun hc => ?_)
            · rw [if_pos hc] at hf
              refine zg_v [1, 2, 3, 4, 5, 0] rfl ?_
              exact zw_M_search_78 X hR hF hret n _ ih s_7 a0 j1 i3 i4 i5 i_5 hf
            · rw [if_neg hc] at hf
              refine zg_1 (pc' := 77) (fun _ _ _ _ _ hl w => lv_iload hx hb zd_M_search_75 (lv_at hl 5 rfl) w) ?_
              obtain ⟨rfl, rfl⟩ := zx_r2 hf
              exact hret _ _ zd_M_search_77
set_option maxHeartbeats 4000000 in
theorem zc_M_search (l : Launch) (h0 : Nat) (D : va_G) (dA : Nat → ClassId) (tb : Nat → Nat) (n : Nat) {s0 : zh_S} {a0 : Nat} {j1 : Int64} {i3 : Int32} {i4 : Int32} {r : Int32} {z : zh_S} (hf : zf_M_search n s0 a0 j1 i3 i4 = some (r, z)) : zc_M l zn_M_search zs_M_search 7 199 h0 D dA tb [.ref (h0 + a0), .long j1, .int i3, .int i4] s0 (some (.int r)) z := by
  rw [zf_M_search] at hf
  refine zc_of (cc := ze_M_search) (maxL := 9) (ret := (some .int)) (lv := [(0, .ref (h0 + a0)), (1, .long j1), (3, .int i3), (4, .int i4)]) (by decide) rfl (Nat.le_of_ble_eq_true rfl) rfl ?_
  intro p e s m args below meth c X hnm
  obtain ⟨hx, hb, hml, hown, htT, hrt, hlk, x00, hIn⟩ := id X
  have hK := hIn.2.1
  have hT := hIn.2.2.1
  have hNe := hIn.2.2.2
  have hR : zg_R { frames := 7, cells := zh_N z - zh_N s0, slots := zh_M z - zh_M s0, locals := 199 } (zh_N s0) (zh_M s0) z := ⟨by show zh_N z ≤ zh_N s0 + (zh_N z - zh_N s0); omega, by show zh_M z ≤ zh_M s0 + (zh_M z - zh_M s0); omega⟩
  have hF : 7 ≤ ({ frames := 7, cells := zh_N z - zh_N s0, slots := zh_M z - zh_M s0, locals := 199 } : Room).frames ∧ 199 ≤ ({ frames := 7, cells := zh_N z - zh_N s0, slots := zh_M z - zh_M s0, locals := 199 } : Room).locals := ⟨Nat.le_refl _, Nat.le_refl _⟩
  have hret := fun (pc : Nat) (lv : List (Nat × Value)) (hd : decode ze_M_search pc = .ok (.ireturn, 1)) => zg_iret (R := { frames := 7, cells := zh_N z - zh_N s0, slots := zh_M z - zh_M s0, locals := 199 }) (l := l) (e := e) (below := below) (c0 := zh_N s0) (s0 := zh_M s0) (z := z) (lv := lv) (v := r) X rfl hd
  refine zg_1 (pc' := 1) (fun _ _ _ _ _ hl w => lv_iconst (v := (1 : Int32)) hx hb zd_M_search_0 (by decide) w) ?_
  refine zg_s (pc' := 3) (lv' := [(5, .int (1 : Int32)), (0, .ref (h0 + a0)), (1, .long j1), (3, .int i3), (4, .int i4)]) (fun _ _ _ _ _ hl w => lv_istore hx hb zd_M_search_1 hl (by decide) rfl w) ?_
  refine zg_1 (pc' := 4) (fun _ _ _ _ _ hl w => lv_aload_n hx hb zd_M_search_3 rfl (lv_at hl 1 rfl) w) ?_
  obtain ⟨h_1, hf⟩ := zx_ck hf
  obtain ⟨a_2, h_3, hf⟩ := zx_p hf
  refine zg_get (pc' := 7) (ci := 8) hx hb htT zi_M hown hK h_1 rfl rfl 22 (by decide) (htT _ zt_827) (fun _ h9 => h9) (zx_hv h_3) zd_M_search_4 rfl ?_
  refine zg_1 (pc' := 8) (fun _ _ _ _ _ hl w => lv_iconst (v := (0 : Int32)) hx hb zd_M_search_7 (by decide) w) ?_
  refine zg_1 (pc' := 9) (fun _ _ _ _ _ hl w => lv_iconst (v := (0 : Int32)) hx hb zd_M_search_8 (by decide) w) ?_
  obtain ⟨h_5, hf⟩ := zx_ck hf
  obtain ⟨s_4, e_s_4, hf⟩ := zx_l hf
  refine zg_iast (pc' := 10) hx hb hK h_5 e_s_4 zd_M_search_9 rfl ?_
  refine zg_1 (pc' := 11) (fun _ _ _ _ _ hl w => lv_iconst (v := (1 : Int32)) hx hb zd_M_search_10 (by decide) w) ?_
  refine zg_s (pc' := 13) (lv' := [(6, .int (1 : Int32)), (5, .int (1 : Int32)), (0, .ref (h0 + a0)), (1, .long j1), (3, .int i3), (4, .int i4)]) (fun _ _ _ _ _ hl w => lv_istore hx hb zd_M_search_11 hl (by decide) rfl w) ?_
  refine zg_v [2, 3, 4, 5, 1, 0] rfl ?_
  exact zw_M_search_13 X hR hF hret n n s_4 a0 j1 i3 i4 (1 : Int32) (1 : Int32) hf
set_option maxHeartbeats 4000000 in
theorem zw_M_validate_65 {p : Program} {l : Launch} {e : Env} {R : Room} {s : State} {m : MethodId} {args : Array Value} {below : List Frame} {meth : Method} {c : Code} {Q : State → Prop} {h0 : Nat} {D : va_G} {dA : Nat → ClassId} {tb : Nat → Nat} {c0 k0 : Nat} {z : zh_S} {r : Int32} (X : zg_X p s m args meth c ze_M_validate 7 zr_M (some .int) h0 D dA tb) (hR : zg_R R c0 k0 z) (hF : 8 ≤ R.frames ∧ 227 ≤ R.locals) (hret : ∀ (pc : Nat) (lv : List (Nat × Value)), decode ze_M_validate pc = .ok (.ireturn, 1) → zg_G p l e R s m args below meth c Q h0 D dA 7 c0 k0 z z pc lv [.int r]) (n : Nat) (k : Nat) : ∀ (s0 : zh_S) (a0 : Nat) (i6 : Int32), zl_M_validate_65 n k s0 a0 i6 = some (r, z) → zg_G p l e R s m args below meth c Q h0 D dA 7 c0 k0 z s0 65 [(0, .ref (h0 + a0)), (6, .int i6)] [] := by
  obtain ⟨hx, hb, hml, hown, htT, hrt, hlk, x00, hIn⟩ := id X
  have hK := hIn.2.1
  have hT := hIn.2.2.1
  have hNe := hIn.2.2.2
  induction k with
  | zero => intro s0 a0 i6 hf; cases hf
  | succ k ih =>
    intro s0 a0 i6 hf
    rw [zl_M_validate_65] at hf
    refine zg_1 (pc' := 67) (fun _ _ _ _ _ hl w => lv_iload hx hb zd_M_validate_65 (lv_at hl 1 rfl) w) ?_
    refine zg_1 (pc' := 68) (fun _ _ _ _ _ hl w => lv_aload_n hx hb zd_M_validate_67 rfl (lv_at hl 0 rfl) w) ?_
    obtain ⟨h_1, hf⟩ := zx_ck hf
    refine zg_get (pc' := 71) (ci := 8) hx hb htT zi_M hown hK h_1 rfl rfl 24 (by decide) (htT _ zt_829) (fun _ h9 => h9) rfl zd_M_validate_68 rfl ?_
    refine zg_2 (pc1 := 101) (pc2 := 74) (Classical.em _) (fun _ _ _ _ _ w1 w2 => lv_icmp_ge hx hb zd_M_validate_71 (by decide) w1 w2) (fun hc => ?_) (fun hc => ?_)
    · rw [if_pos hc] at hf
      refine zg_1 (pc' := 102) (fun _ _ _ _ _ hl w => lv_aload_n hx hb zd_M_validate_101 rfl (lv_at hl 0 rfl) w) ?_
      refine zg_get (pc' := 105) (ci := 8) hx hb htT zi_M hown hK h_1 rfl rfl 24 (by decide) (htT _ zt_829) (fun _ h9 => h9) rfl zd_M_validate_102 rfl ?_
      refine zg_2 (pc1 := 115) (pc2 := 108) (Classical.em _) (fun _ _ _ _ _ w1 w2 => lv_if_le hx hb zd_M_validate_105 (by decide) w1 w2) (fun hc => ?_) (fun hc => ?_)
      · rw [if_pos hc] at hf
        refine zg_1 (pc' := 116) (fun _ _ _ _ _ hl w => lv_aload_n hx hb zd_M_validate_115 rfl (lv_at hl 0 rfl) w) ?_
        refine zg_get (pc' := 119) (ci := 8) hx hb htT zi_M hown hK h_1 rfl rfl 25 (by decide) (htT _ zt_830) (fun _ h9 => h9) rfl zd_M_validate_116 rfl ?_
        refine zg_2 (pc1 := 126) (pc2 := 122) (Classical.em _).symm (fun _ _ _ _ _ w1 w2 => lv_if_ne hx hb zd_M_validate_119 (by decide) w1 w2) (fun hc => ?_) (fun hc => ?_)
        · rw [if_neg hc] at hf
          refine zg_1 (pc' := 128) (fun _ _ _ _ _ hl w => lv_bipush (v := (-10 : Int32)) hx hb zd_M_validate_126 (by decide) w) ?_
          refine zg_1 (pc' := 129) (fun _ _ _ _ _ hl w => lv_aload_n hx hb zd_M_validate_128 rfl (lv_at hl 0 rfl) w) ?_
          refine zg_get (pc' := 132) (ci := 8) hx hb htT zi_M hown hK h_1 rfl rfl 26 (by decide) (htT _ zt_831) (fun _ h9 => h9) rfl zd_M_validate_129 rfl ?_
          refine zg_1 (pc' := 133) (fun _ _ _ _ _ hl w => lv_isub hx hb zd_M_validate_132 w) ?_
          obtain ⟨rfl, rfl⟩ := zx_r2 hf
          exact hret _ _ zd_M_validate_133
        · rw [if_pos hc] at hf
          refine zg_1 (pc' := 123) (fun _ _ _ _ _ hl w => lv_iconst (v := (0 : Int32)) hx hb zd_M_validate_122 (by decide) w) ?_
          refine zg_1 (pc' := 133) (fun _ _ _ _ _ hl w => lv_goto hx hb zd_M_validate_123 (by decide) w) ?_
          obtain ⟨rfl, rfl⟩ := zx_r2 hf
          exact hret _ _ zd_M_validate_133
      · rw [if_neg hc] at hf
        refine zg_1 (pc' := 109) (fun _ _ _ _ _ hl w => lv_aload_n hx hb zd_M_validate_108 rfl (lv_at hl 0 rfl) w) ?_
        refine zg_get (pc' := 112) (ci := 8) hx hb htT zi_M hown hK h_1 rfl rfl 24 (by decide) (htT _ zt_829) (fun _ h9 => h9) rfl zd_M_validate_109 rfl ?_
        refine zg_1 (pc' := 133) (fun _ _ _ _ _ hl w => lv_goto hx hb zd_M_validate_112 (by decide) w) ?_
        obtain ⟨rfl, rfl⟩ := zx_r2 hf
        exact hret _ _ zd_M_validate_133
    · rw [if_neg hc] at hf
      refine zg_1 (pc' := 75) (fun _ _ _ _ _ hl w => lv_aload_n hx hb zd_M_validate_74 rfl (lv_at hl 0 rfl) w) ?_
      obtain ⟨a_2, h_3, hf⟩ := zx_p hf
      refine zg_get (pc' := 78) (ci := 8) hx hb htT zi_M hown hK h_1 rfl rfl 23 (by decide) (htT _ zt_828) (fun _ h9 => h9) (zx_hv h_3) zd_M_validate_75 rfl ?_
      refine zg_1 (pc' := 80) (fun _ _ _ _ _ hl w => lv_iload hx hb zd_M_validate_78 (lv_at hl 1 rfl) w) ?_
      refine zg_1 (pc' := 81) (fun _ _ _ _ _ hl w => lv_aload_n hx hb zd_M_validate_80 rfl (lv_at hl 0 rfl) w) ?_
      obtain ⟨a_4, h_5, hf⟩ := zx_p hf
      refine zg_get (pc' := 84) (ci := 8) hx hb htT zi_M hown hK h_1 rfl rfl 21 (by decide) (htT _ zt_826) (fun _ h9 => h9) (zx_hv h_5) zd_M_validate_81 rfl ?_
      refine zg_1 (pc' := 85) (fun _ _ _ _ _ hl w => lv_aload_n hx hb zd_M_validate_84 rfl (lv_at hl 0 rfl) w) ?_
      refine zg_get (pc' := 88) (ci := 8) hx hb htT zi_M hown hK h_1 rfl rfl 24 (by decide) (htT _ zt_829) (fun _ h9 => h9) rfl zd_M_validate_85 rfl ?_
      refine zg_1 (pc' := 89) (fun _ _ _ _ _ hl w => lv_iconst (v := (1 : Int32)) hx hb zd_M_validate_88 (by decide) w) ?_
      refine zg_1 (pc' := 90) (fun _ _ _ _ _ hl w => lv_isub hx hb zd_M_validate_89 w) ?_
      refine zg_1 (pc' := 92) (fun _ _ _ _ _ hl w => lv_iload hx hb zd_M_validate_90 (lv_at hl 1 rfl) w) ?_
      refine zg_1 (pc' := 93) (fun _ _ _ _ _ hl w => lv_isub hx hb zd_M_validate_92 w) ?_
      obtain ⟨h_6, hf⟩ := zx_ck hf
      refine zg_iald (pc' := 94) hx hb hK h_6 zd_M_validate_93 rfl ?_
      obtain ⟨h_8, hf⟩ := zx_ck hf
      obtain ⟨s_7, e_s_7, hf⟩ := zx_l hf
      refine zg_iast (pc' := 95) hx hb hK h_8 e_s_7 zd_M_validate_94 rfl ?_
      obtain ⟨i_9, e_i_9, hf⟩ := zx_l hf
      refine zg_s (pc' := 98) (lv' := [(6, .int i_9), (0, .ref (h0 + a0))]) (fun _ _ _ _ _ hl w => lv_iinc (k := 1) (v := i_9) hx hb zd_M_validate_95 hl rfl (by rw [e_i_9]; rfl) (by decide) rfl w) ?_
      refine zg_1 (pc' := 65) (fun _ _ _ _ _ hl w => lv_goto hx hb zd_M_validate_98 (by decide) w) ?_
      refine zg_v [1, 0] rfl ?_
      exact ih s_7 a0 i_9 hf
set_option maxHeartbeats 4000000 in
theorem zc_M_validate (l : Launch) (h0 : Nat) (D : va_G) (dA : Nat → ClassId) (tb : Nat → Nat) (n : Nat) {s0 : zh_S} {a0 : Nat} {i1 : Int32} {j2 : Int64} {i4 : Int32} {i5 : Int32} {r : Int32} {z : zh_S} (hf : zf_M_validate n s0 a0 i1 j2 i4 i5 = some (r, z)) : zc_M l zn_M_validate zs_M_validate 8 227 h0 D dA tb [.ref (h0 + a0), .int i1, .long j2, .int i4, .int i5] s0 (some (.int r)) z := by
  rw [zf_M_validate] at hf
  refine zc_of (cc := ze_M_validate) (maxL := 7) (ret := (some .int)) (lv := [(0, .ref (h0 + a0)), (1, .int i1), (2, .long j2), (4, .int i4), (5, .int i5)]) (by decide) rfl (Nat.le_of_ble_eq_true rfl) rfl ?_
  intro p e s m args below meth c X hnm
  obtain ⟨hx, hb, hml, hown, htT, hrt, hlk, x00, hIn⟩ := id X
  have hK := hIn.2.1
  have hT := hIn.2.2.1
  have hNe := hIn.2.2.2
  have hR : zg_R { frames := 8, cells := zh_N z - zh_N s0, slots := zh_M z - zh_M s0, locals := 227 } (zh_N s0) (zh_M s0) z := ⟨by show zh_N z ≤ zh_N s0 + (zh_N z - zh_N s0); omega, by show zh_M z ≤ zh_M s0 + (zh_M z - zh_M s0); omega⟩
  have hF : 8 ≤ ({ frames := 8, cells := zh_N z - zh_N s0, slots := zh_M z - zh_M s0, locals := 227 } : Room).frames ∧ 227 ≤ ({ frames := 8, cells := zh_N z - zh_N s0, slots := zh_M z - zh_M s0, locals := 227 } : Room).locals := ⟨Nat.le_refl _, Nat.le_refl _⟩
  have hret := fun (pc : Nat) (lv : List (Nat × Value)) (hd : decode ze_M_validate pc = .ok (.ireturn, 1)) => zg_iret (R := { frames := 8, cells := zh_N z - zh_N s0, slots := zh_M z - zh_M s0, locals := 227 }) (l := l) (e := e) (below := below) (c0 := zh_N s0) (s0 := zh_M s0) (z := z) (lv := lv) (v := r) X rfl hd
  refine zg_1 (pc' := 1) (fun _ _ _ _ _ hl w => lv_iload_n hx hb zd_M_validate_0 rfl (lv_at hl 1 rfl) w) ?_
  refine zg_2 (pc1 := 30) (pc2 := 4) (Classical.em _) (fun _ _ _ _ _ w1 w2 => lv_if_lt hx hb zd_M_validate_1 (by decide) w1 w2) (fun hc => ?_) (fun hc => ?_)
  · rw [if_pos hc] at hf
    refine zg_1 (pc' := 31) (fun _ _ _ _ _ hl w => lv_iconst (v := (-1 : Int32)) hx hb zd_M_validate_30 (by decide) w) ?_
    obtain ⟨rfl, rfl⟩ := zx_r2 hf
    exact hret _ _ zd_M_validate_31
  · rw [if_neg hc] at hf
    refine zg_1 (pc' := 5) (fun _ _ _ _ _ hl w => lv_iload_n hx hb zd_M_validate_4 rfl (lv_at hl 1 rfl) w) ?_
    refine zg_1 (pc' := 6) (fun _ _ _ _ _ hl w => lv_aload_n hx hb zd_M_validate_5 rfl (lv_at hl 0 rfl) w) ?_
    obtain ⟨h_1, hf⟩ := zx_ck hf
    refine zg_get (pc' := 9) (ci := 8) hx hb htT zi_M hown hK h_1 rfl rfl 15 (by decide) (htT _ zt_820) (fun _ h9 => h9) rfl zd_M_validate_6 rfl ?_
    refine zg_2 (pc1 := 30) (pc2 := 12) (Classical.em _) (fun _ _ _ _ _ w1 w2 => lv_icmp_ge hx hb zd_M_validate_9 (by decide) w1 w2) (fun hc => ?_) (fun hc => ?_)
    · rw [if_pos hc] at hf
      refine zg_1 (pc' := 31) (fun _ _ _ _ _ hl w => lv_iconst (v := (-1 : Int32)) hx hb zd_M_validate_30 (by decide) w) ?_
      obtain ⟨rfl, rfl⟩ := zx_r2 hf
      exact hret _ _ zd_M_validate_31
    · rw [if_neg hc] at hf
      refine zg_1 (pc' := 13) (fun _ _ _ _ _ hl w => lv_lload_n hx hb zd_M_validate_12 rfl (lv_at hl 2 rfl) w) ?_
      refine zg_1 (pc' := 14) (fun _ _ _ _ _ hl w => lv_lconst (v := (0 : Int64)) hx hb zd_M_validate_13 (by decide) w) ?_
      refine zg_1 (pc' := 15) (fun _ _ _ _ _ hl w => W.lcmp hx hb zd_M_validate_14 w) ?_
      refine zg_2 (pc1 := 30) (pc2 := 18) (Classical.em _) (fun _ _ _ _ _ w1 w2 => lv_if_lt hx hb zd_M_validate_15 (by decide) w1 w2) (fun hc => ?_) (fun hc => ?_)
      · rw [if_pos hc] at hf
        refine zg_1 (pc' := 31) (fun _ _ _ _ _ hl w => lv_iconst (v := (-1 : Int32)) hx hb zd_M_validate_30 (by decide) w) ?_
        obtain ⟨rfl, rfl⟩ := zx_r2 hf
        exact hret _ _ zd_M_validate_31
      · rw [if_neg hc] at hf
        refine zg_1 (pc' := 20) (fun _ _ _ _ _ hl w => lv_iload hx hb zd_M_validate_18 (lv_at hl 3 rfl) w) ?_
        refine zg_1 (pc' := 21) (fun _ _ _ _ _ hl w => lv_iconst (v := (1 : Int32)) hx hb zd_M_validate_20 (by decide) w) ?_
        refine zg_2 (pc1 := 30) (pc2 := 24) (Classical.em _) (fun _ _ _ _ _ w1 w2 => lv_icmp_lt hx hb zd_M_validate_21 (by decide) w1 w2) (fun hc => ?_) (fun hc => ?_)
        · rw [if_pos hc] at hf
          refine zg_1 (pc' := 31) (fun _ _ _ _ _ hl w => lv_iconst (v := (-1 : Int32)) hx hb zd_M_validate_30 (by decide) w) ?_
          obtain ⟨rfl, rfl⟩ := zx_r2 hf
          exact hret _ _ zd_M_validate_31
        · rw [if_neg hc] at hf
          refine zg_1 (pc' := 26) (fun _ _ _ _ _ hl w => lv_iload hx hb zd_M_validate_24 (lv_at hl 3 rfl) w) ?_
          refine zg_1 (pc' := 27) (fun _ _ _ _ _ hl w => lv_iconst (v := (5 : Int32)) hx hb zd_M_validate_26 (by decide) w) ?_
          refine zg_2 (pc1 := 32) (pc2 := 30) (Classical.em _) (fun _ _ _ _ _ w1 w2 => lv_icmp_le hx hb zd_M_validate_27 (by decide) w1 w2) (fun hc => ?_) (fun hc => ?_)
          · rw [if_pos hc] at hf
            refine zg_1 (pc' := 33) (fun _ _ _ _ _ hl w => lv_aload_n hx hb zd_M_validate_32 rfl (lv_at hl 0 rfl) w) ?_
            refine zg_1 (pc' := 34) (fun _ _ _ _ _ hl w => lv_iconst (v := (0 : Int32)) hx hb zd_M_validate_33 (by decide) w) ?_
            obtain ⟨s_2, e_s_2, hf⟩ := zx_l hf
            refine zg_putI (pc' := 37) (ci := 8) (ty := .int) hx hb htT zi_M zy_M zo_M zj_M hown hK h_1 rfl rfl 25 (by decide) (htT _ zt_830) (fun _ h9 => h9) (Or.inl rfl) (by decide +kernel) rfl rfl rfl e_s_2 zd_M_validate_34 rfl ?_
            refine zg_1 (pc' := 38) (fun _ _ _ _ _ hl w => lv_aload_n hx hb zd_M_validate_37 rfl (lv_at hl 0 rfl) w) ?_
            refine zg_1 (pc' := 39) (fun _ _ _ _ _ hl w => lv_iconst (v := (0 : Int32)) hx hb zd_M_validate_38 (by decide) w) ?_
            obtain ⟨s_3, e_s_3, hf⟩ := zx_l hf
            refine zg_putI (pc' := 42) (ci := 8) (ty := .int) hx hb htT zi_M zy_M zo_M zj_M hown hK (zx_oI e_s_2 h_1) rfl rfl 26 (by decide) (htT _ zt_831) (fun _ h9 => h9) (Or.inl rfl) (by decide +kernel) rfl rfl rfl e_s_3 zd_M_validate_39 rfl ?_
            refine zg_1 (pc' := 43) (fun _ _ _ _ _ hl w => lv_aload_n hx hb zd_M_validate_42 rfl (lv_at hl 0 rfl) w) ?_
            obtain ⟨a_4, h_5, hf⟩ := zx_p hf
            refine zg_get (pc' := 46) (ci := 8) hx hb htT zi_M hown hK (zx_oI e_s_3 (zx_oI e_s_2 h_1)) rfl rfl 21 (by decide) (htT _ zt_826) (fun _ h9 => h9) (zx_hv h_5) zd_M_validate_43 rfl ?_
            refine zg_1 (pc' := 47) (fun _ _ _ _ _ hl w => lv_iconst (v := (0 : Int32)) hx hb zd_M_validate_46 (by decide) w) ?_
            refine zg_1 (pc' := 48) (fun _ _ _ _ _ hl w => lv_iload_n hx hb zd_M_validate_47 rfl (lv_at hl 1 rfl) w) ?_
            obtain ⟨h_7, hf⟩ := zx_ck hf
            obtain ⟨s_6, e_s_6, hf⟩ := zx_l hf
            refine zg_iast (pc' := 49) hx hb hK h_7 e_s_6 zd_M_validate_48 rfl ?_
            refine zg_1 (pc' := 50) (fun _ _ _ _ _ hl w => lv_aload_n hx hb zd_M_validate_49 rfl (lv_at hl 0 rfl) w) ?_
            refine zg_1 (pc' := 51) (fun _ _ _ _ _ hl w => lv_aload_n hx hb zd_M_validate_50 rfl (lv_at hl 0 rfl) w) ?_
            refine zg_1 (pc' := 52) (fun _ _ _ _ _ hl w => lv_lload_n hx hb zd_M_validate_51 rfl (lv_at hl 2 rfl) w) ?_
            refine zg_1 (pc' := 54) (fun _ _ _ _ _ hl w => lv_iload hx hb zd_M_validate_52 (lv_at hl 3 rfl) w) ?_
            refine zg_1 (pc' := 56) (fun _ _ _ _ _ hl w => lv_iload hx hb zd_M_validate_54 (lv_at hl 4 rfl) w) ?_
            obtain ⟨h_9, hf⟩ := zx_ck hf
            obtain ⟨i_10, s_8, hq, hf⟩ := zx_b hf
            refine zg_call (pc' := 59) (y := s_8) (rv := (some (.int i_10))) (rest := [.ref (h0 + a0)]) X hR (zm_M_search hq) (fun H locs ls k j hsz hI hU hk => va_runV (As := [.long j2, .int i4, .int i5]) (rest := [.ref (h0 + a0)]) ⟨hx, hb, hml, hown, htT⟩ (zc_M_search l h0 D dA tb n hq) (cwV 3 htT (zw_gV zt_1078 zt_1080 zt_53 zt_71 zt_1081) rfl rfl rfl (by decide +kernel) ⟨Nat.le_trans (Nat.le_of_ble_eq_true rfl) hF.1, Nat.le_trans (Nat.le_of_ble_eq_true rfl) hF.2⟩) ⟨(zg_pre hU).1, zg_recv hK hI h_9 rfl, (zg_pre hU).2⟩ rfl rfl hsz rfl (lv_room (Nat.le_of_ble_eq_true rfl)) zd_M_validate_56 hk) rfl ?_
            obtain ⟨h_12, hf⟩ := zx_ck hf
            obtain ⟨s_11, e_s_11, hf⟩ := zx_l hf
            refine zg_putI (pc' := 62) (ci := 8) (ty := .int) hx hb htT zi_M zy_M zo_M zj_M hown hK h_12 rfl rfl 24 (by decide) (htT _ zt_829) (fun _ h9 => h9) (Or.inl rfl) (by decide +kernel) rfl rfl rfl e_s_11 zd_M_validate_59 rfl ?_
            refine zg_1 (pc' := 63) (fun _ _ _ _ _ hl w => lv_iconst (v := (0 : Int32)) hx hb zd_M_validate_62 (by decide) w) ?_
            refine zg_s (pc' := 65) (lv' := [(6, .int (0 : Int32)), (0, .ref (h0 + a0)), (1, .int i1), (2, .long j2), (4, .int i4), (5, .int i5)]) (fun _ _ _ _ _ hl w => lv_istore hx hb zd_M_validate_63 hl (by decide) rfl w) ?_
            refine zg_v [1, 0] rfl ?_
            exact zw_M_validate_65 X hR hF hret n n s_11 a0 (0 : Int32) hf
          · rw [if_neg hc] at hf
            refine zg_1 (pc' := 31) (fun _ _ _ _ _ hl w => lv_iconst (v := (-1 : Int32)) hx hb zd_M_validate_30 (by decide) w) ?_
            obtain ⟨rfl, rfl⟩ := zx_r2 hf
            exact hret _ _ zd_M_validate_31
set_option maxHeartbeats 4000000 in
theorem zc_RevokedList_tell (l : Launch) (h0 : Nat) (D : va_G) (dA : Nat → ClassId) (tb : Nat → Nat) (n : Nat) {s0 : zh_S} {a0 : Nat} {i1 : Int32} {r : Int64} (hf : zf_RevokedList_tell n s0 a0 i1 = some r) : zc_M l zn_RevokedList_tell zs_RevokedList_tell 0 0 h0 D dA tb [.ref (h0 + a0), .int i1] s0 (some (.long r)) s0 := by
  rw [zf_RevokedList_tell] at hf
  refine zc_of (cc := ze_RevokedList_tell) (maxL := 2) (ret := (some .long)) (lv := [(0, .ref (h0 + a0)), (1, .int i1)]) (by decide) rfl (Nat.le_of_ble_eq_true rfl) rfl ?_
  intro p e s m args below meth c X hnm
  obtain ⟨hx, hb, hml, hown, htT, hrt, hlk, x00, hIn⟩ := id X
  have hK := hIn.2.1
  have hT := hIn.2.2.1
  have hNe := hIn.2.2.2
  have hR : zg_R { frames := 0, cells := zh_N s0 - zh_N s0, slots := zh_M s0 - zh_M s0, locals := 0 } (zh_N s0) (zh_M s0) s0 := ⟨by show zh_N s0 ≤ zh_N s0 + (zh_N s0 - zh_N s0); omega, by show zh_M s0 ≤ zh_M s0 + (zh_M s0 - zh_M s0); omega⟩
  have hF : 0 ≤ ({ frames := 0, cells := zh_N s0 - zh_N s0, slots := zh_M s0 - zh_M s0, locals := 0 } : Room).frames ∧ 0 ≤ ({ frames := 0, cells := zh_N s0 - zh_N s0, slots := zh_M s0 - zh_M s0, locals := 0 } : Room).locals := ⟨Nat.le_refl _, Nat.le_refl _⟩
  have hret := fun (pc : Nat) (lv : List (Nat × Value)) (hd : decode ze_RevokedList_tell pc = .ok (.lreturn, 1)) => zg_lret (R := { frames := 0, cells := zh_N s0 - zh_N s0, slots := zh_M s0 - zh_M s0, locals := 0 }) (l := l) (e := e) (below := below) (c0 := zh_N s0) (s0 := zh_M s0) (z := s0) (lv := lv) (v := r) X hd
  refine zg_1 (pc' := 1) (fun _ _ _ _ _ hl w => lv_iload_n hx hb zd_RevokedList_tell_0 rfl (lv_at hl 1 rfl) w) ?_
  by_cases hk0 : i1 = 0
  · rw [if_pos hk0] at hf
    refine zg_1 (pc' := 40) (fun _ _ _ _ _ hl w => lv_tableIn hx hb zd_RevokedList_tell_1 (by rw [hk0]; decide) (by rw [hk0]; decide) (by rw [hk0]; rfl) (by decide) w) ?_
    refine zg_1 (pc' := 41) (fun _ _ _ _ _ hl w => lv_aload_n hx hb zd_RevokedList_tell_40 rfl (lv_at hl 0 rfl) w) ?_
    obtain ⟨h_1, hf⟩ := zx_ck hf
    refine zg_get (pc' := 44) (ci := 3) hx hb htT zi_RevokedList hown hK h_1 rfl rfl 0 (by decide) (htT _ zt_184) (fun x9 h9 => u_same (htT _ zt_185) x9 h9) rfl zd_RevokedList_tell_41 rfl ?_
    obtain rfl := zx_r1 hf
    exact hret _ _ zd_RevokedList_tell_44
  rw [if_neg hk0] at hf
  by_cases hk1 : i1 = 1
  · rw [if_pos hk1] at hf
    refine zg_1 (pc' := 45) (fun _ _ _ _ _ hl w => lv_tableIn hx hb zd_RevokedList_tell_1 (by rw [hk1]; decide) (by rw [hk1]; decide) (by rw [hk1]; rfl) (by decide) w) ?_
    refine zg_1 (pc' := 46) (fun _ _ _ _ _ hl w => lv_aload_n hx hb zd_RevokedList_tell_45 rfl (lv_at hl 0 rfl) w) ?_
    obtain ⟨h_2, hf⟩ := zx_ck hf
    refine zg_get (pc' := 49) (ci := 3) hx hb htT zi_RevokedList hown hK h_2 rfl rfl 1 (by decide) (htT _ zt_193) (fun x9 h9 => u_same (htT _ zt_194) x9 h9) rfl zd_RevokedList_tell_46 rfl ?_
    obtain rfl := zx_r1 hf
    exact hret _ _ zd_RevokedList_tell_49
  rw [if_neg hk1] at hf
  by_cases hk2 : i1 = 2
  · rw [if_pos hk2] at hf
    refine zg_1 (pc' := 50) (fun _ _ _ _ _ hl w => lv_tableIn hx hb zd_RevokedList_tell_1 (by rw [hk2]; decide) (by rw [hk2]; decide) (by rw [hk2]; rfl) (by decide) w) ?_
    refine zg_1 (pc' := 51) (fun _ _ _ _ _ hl w => lv_aload_n hx hb zd_RevokedList_tell_50 rfl (lv_at hl 0 rfl) w) ?_
    obtain ⟨h_3, hf⟩ := zx_ck hf
    refine zg_get (pc' := 54) (ci := 3) hx hb htT zi_RevokedList hown hK h_3 rfl rfl 2 (by decide) (htT _ zt_201) (fun x9 h9 => u_same (htT _ zt_202) x9 h9) rfl zd_RevokedList_tell_51 rfl ?_
    obtain rfl := zx_r1 hf
    exact hret _ _ zd_RevokedList_tell_54
  rw [if_neg hk2] at hf
  by_cases hk3 : i1 = 3
  · rw [if_pos hk3] at hf
    refine zg_1 (pc' := 55) (fun _ _ _ _ _ hl w => lv_tableIn hx hb zd_RevokedList_tell_1 (by rw [hk3]; decide) (by rw [hk3]; decide) (by rw [hk3]; rfl) (by decide) w) ?_
    refine zg_1 (pc' := 56) (fun _ _ _ _ _ hl w => lv_aload_n hx hb zd_RevokedList_tell_55 rfl (lv_at hl 0 rfl) w) ?_
    obtain ⟨h_4, hf⟩ := zx_ck hf
    refine zg_get (pc' := 59) (ci := 3) hx hb htT zi_RevokedList hown hK h_4 rfl rfl 8 (by decide) (htT _ zt_266) (fun _ h9 => h9) rfl zd_RevokedList_tell_56 rfl ?_
    refine zg_1 (pc' := 60) (fun _ _ _ _ _ hl w => lv_i2l (v := (zh_I s0 a0 8).toInt64) hx hb zd_RevokedList_tell_59 rfl w) ?_
    obtain rfl := zx_r1 hf
    exact hret _ _ zd_RevokedList_tell_60
  rw [if_neg hk3] at hf
  by_cases hk4 : i1 = 4
  · rw [if_pos hk4] at hf
    refine zg_1 (pc' := 61) (fun _ _ _ _ _ hl w => lv_tableIn hx hb zd_RevokedList_tell_1 (by rw [hk4]; decide) (by rw [hk4]; decide) (by rw [hk4]; rfl) (by decide) w) ?_
    refine zg_1 (pc' := 62) (fun _ _ _ _ _ hl w => lv_aload_n hx hb zd_RevokedList_tell_61 rfl (lv_at hl 0 rfl) w) ?_
    obtain ⟨h_5, hf⟩ := zx_ck hf
    refine zg_get (pc' := 65) (ci := 3) hx hb htT zi_RevokedList hown hK h_5 rfl rfl 3 (by decide) (htT _ zt_205) (fun x9 h9 => u_same (htT _ zt_206) x9 h9) rfl zd_RevokedList_tell_62 rfl ?_
    obtain rfl := zx_r1 hf
    exact hret _ _ zd_RevokedList_tell_65
  rw [if_neg hk4] at hf
  by_cases hk5 : i1 = 5
  · rw [if_pos hk5] at hf
    refine zg_1 (pc' := 66) (fun _ _ _ _ _ hl w => lv_tableIn hx hb zd_RevokedList_tell_1 (by rw [hk5]; decide) (by rw [hk5]; decide) (by rw [hk5]; rfl) (by decide) w) ?_
    refine zg_1 (pc' := 67) (fun _ _ _ _ _ hl w => lv_aload_n hx hb zd_RevokedList_tell_66 rfl (lv_at hl 0 rfl) w) ?_
    obtain ⟨h_6, hf⟩ := zx_ck hf
    refine zg_get (pc' := 70) (ci := 3) hx hb htT zi_RevokedList hown hK h_6 rfl rfl 4 (by decide) (htT _ zt_211) (fun x9 h9 => u_same (htT _ zt_212) x9 h9) rfl zd_RevokedList_tell_67 rfl ?_
    refine zg_1 (pc' := 71) (fun _ _ _ _ _ hl w => lv_i2l (v := (zh_I s0 a0 4).toInt64) hx hb zd_RevokedList_tell_70 rfl w) ?_
    obtain rfl := zx_r1 hf
    exact hret _ _ zd_RevokedList_tell_71
  rw [if_neg hk5] at hf
  refine zg_1 (pc' := 72) (fun _ _ _ _ _ hl w => lv_tableOut hx hb zd_RevokedList_tell_1 (zx_tab 5 (fun j hj => by rcases (show j = 0 ∨ j = 1 ∨ j = 2 ∨ j = 3 ∨ j = 4 ∨ j = 5 by omega) with rfl | rfl | rfl | rfl | rfl | rfl <;> assumption)) (by decide) w) ?_
  refine zg_1 (pc' := 75) (fun _ _ _ _ _ hl w => lv_ldc2 (v := (-1 : Int64)) hx hb hown (htT _ zt_644) zd_RevokedList_tell_72 w) ?_
  obtain rfl := zx_r1 hf
  exact hret _ _ zd_RevokedList_tell_75
set_option maxHeartbeats 4000000 in
theorem zc_V_list (l : Launch) (h0 : Nat) (D : va_G) (dA : Nat → ClassId) (tb : Nat → Nat) (n : Nat) {s0 : zh_S} {a0 : Nat} {i1 : Int32} {i2 : Int32} {r : Int64} (hf : zf_V_list n s0 a0 i1 i2 = some r) : zc_M l zn_V_list zs_V_list 1 21 h0 D dA tb [.ref (h0 + a0), .int i1, .int i2] s0 (some (.long r)) s0 := by
  rw [zf_V_list] at hf
  refine zc_of (cc := ze_V_list) (maxL := 3) (ret := (some .long)) (lv := [(0, .ref (h0 + a0)), (1, .int i1), (2, .int i2)]) (by decide) rfl (Nat.le_of_ble_eq_true rfl) rfl ?_
  intro p e s m args below meth c X hnm
  obtain ⟨hx, hb, hml, hown, htT, hrt, hlk, x00, hIn⟩ := id X
  have hK := hIn.2.1
  have hT := hIn.2.2.1
  have hNe := hIn.2.2.2
  have hR : zg_R { frames := 1, cells := zh_N s0 - zh_N s0, slots := zh_M s0 - zh_M s0, locals := 21 } (zh_N s0) (zh_M s0) s0 := ⟨by show zh_N s0 ≤ zh_N s0 + (zh_N s0 - zh_N s0); omega, by show zh_M s0 ≤ zh_M s0 + (zh_M s0 - zh_M s0); omega⟩
  have hF : 1 ≤ ({ frames := 1, cells := zh_N s0 - zh_N s0, slots := zh_M s0 - zh_M s0, locals := 21 } : Room).frames ∧ 21 ≤ ({ frames := 1, cells := zh_N s0 - zh_N s0, slots := zh_M s0 - zh_M s0, locals := 21 } : Room).locals := ⟨Nat.le_refl _, Nat.le_refl _⟩
  have hret := fun (pc : Nat) (lv : List (Nat × Value)) (hd : decode ze_V_list pc = .ok (.lreturn, 1)) => zg_lret (R := { frames := 1, cells := zh_N s0 - zh_N s0, slots := zh_M s0 - zh_M s0, locals := 21 }) (l := l) (e := e) (below := below) (c0 := zh_N s0) (s0 := zh_M s0) (z := s0) (lv := lv) (v := r) X hd
  refine zg_1 (pc' := 1) (fun _ _ _ _ _ hl w => lv_iload_n hx hb zd_V_list_0 rfl (lv_at hl 1 rfl) w) ?_
  refine zg_2 (pc1 := 31) (pc2 := 4) (Classical.em _) (fun _ _ _ _ _ w1 w2 => lv_if_lt hx hb zd_V_list_1 (by decide) w1 w2) (fun hc => ?_) (fun hc => ?_)
  · rw [if_pos hc] at hf
    refine zg_1 (pc' := 34) (fun _ _ _ _ _ hl w => lv_ldc2 (v := (-1 : Int64)) hx hb hown (htT _ zt_635) zd_V_list_31 w) ?_
    obtain rfl := zx_r1 hf
    exact hret _ _ zd_V_list_34
  · rw [if_neg hc] at hf
    refine zg_1 (pc' := 5) (fun _ _ _ _ _ hl w => lv_iload_n hx hb zd_V_list_4 rfl (lv_at hl 1 rfl) w) ?_
    refine zg_1 (pc' := 6) (fun _ _ _ _ _ hl w => lv_aload_n hx hb zd_V_list_5 rfl (lv_at hl 0 rfl) w) ?_
    obtain ⟨h_1, hf⟩ := zx_ck hf
    obtain ⟨a_2, h_3, hf⟩ := zx_p hf
    refine zg_get (pc' := 9) (ci := 7) hx hb htT zi_V hown hK h_1 rfl rfl 2 (by decide) (htT _ zt_304) (fun _ h9 => h9) (zx_hv h_3) zd_V_list_6 rfl ?_
    obtain ⟨h_4, hf⟩ := zx_ck hf
    refine zg_get (pc' := 12) (ci := 5) hx hb htT zi_Shelf hown hK h_4 rfl rfl 3 (by decide) (htT _ zt_292) (fun _ h9 => h9) rfl zd_V_list_9 rfl ?_
    refine zg_2 (pc1 := 31) (pc2 := 15) (Classical.em _) (fun _ _ _ _ _ w1 w2 => lv_icmp_ge hx hb zd_V_list_12 (by decide) w1 w2) (fun hc => ?_) (fun hc => ?_)
    · rw [if_pos hc] at hf
      refine zg_1 (pc' := 34) (fun _ _ _ _ _ hl w => lv_ldc2 (v := (-1 : Int64)) hx hb hown (htT _ zt_635) zd_V_list_31 w) ?_
      obtain rfl := zx_r1 hf
      exact hret _ _ zd_V_list_34
    · rw [if_neg hc] at hf
      refine zg_1 (pc' := 16) (fun _ _ _ _ _ hl w => lv_aload_n hx hb zd_V_list_15 rfl (lv_at hl 0 rfl) w) ?_
      obtain ⟨a_5, h_6, hf⟩ := zx_p hf
      refine zg_get (pc' := 19) (ci := 7) hx hb htT zi_V hown hK h_1 rfl rfl 2 (by decide) (htT _ zt_304) (fun _ h9 => h9) (zx_hv h_6) zd_V_list_16 rfl ?_
      obtain ⟨h_7, hf⟩ := zx_ck hf
      obtain ⟨a_8, h_9, hf⟩ := zx_p hf
      refine zg_get (pc' := 22) (ci := 5) hx hb htT zi_Shelf hown hK h_7 rfl rfl 1 (by decide) (htT _ zt_286) (fun _ h9 => h9) (zx_hv h_9) zd_V_list_19 rfl ?_
      refine zg_1 (pc' := 23) (fun _ _ _ _ _ hl w => lv_iload_n hx hb zd_V_list_22 rfl (lv_at hl 1 rfl) w) ?_
      obtain ⟨h_10, hf⟩ := zx_ck hf
      obtain ⟨a_11, h_12, hf⟩ := zx_p hf
      refine zg_aald (pc' := 24) (t := 1) (t0 := 3) hx hb hK rfl h_10 h_12 zd_V_list_23 rfl ?_
      refine zg_1 (pc' := 25) (fun _ _ _ _ _ hl w => lv_iload_n hx hb zd_V_list_24 rfl (lv_at hl 2 rfl) w) ?_
      obtain ⟨h_13, hf⟩ := zx_ck hf
      obtain ⟨j_14, hq, hf⟩ := zx_p hf
      refine zg_call (pc' := 28) (y := s0) (rv := (some (.long j_14))) (rest := []) X hR ⟨Nat.le_refl _, Nat.le_refl _⟩ (fun H locs ls k j hsz hI hU hk => va_runV (As := [.int i2]) (rest := []) ⟨hx, hb, hml, hown, htT⟩ (zc_RevokedList_tell l h0 D dA tb n hq) (cwV 1 htT (zw_gV zt_640 zt_641 zt_642 zt_70 zt_643) rfl rfl rfl (by decide +kernel) ⟨Nat.le_trans (Nat.le_of_ble_eq_true rfl) hF.1, Nat.le_trans (Nat.le_of_ble_eq_true rfl) hF.2⟩) ⟨(zg_pre hU).1, zg_recv hK hI h_13 rfl, (zg_pre hU).2⟩ rfl rfl hsz rfl (lv_room (Nat.le_of_ble_eq_true rfl)) zd_V_list_25 hk) rfl ?_
      refine zg_1 (pc' := 34) (fun _ _ _ _ _ hl w => lv_goto hx hb zd_V_list_28 (by decide) w) ?_
      obtain rfl := zx_r1 hf
      exact hret _ _ zd_V_list_34
set_option maxHeartbeats 4000000 in
theorem zc_M_list (l : Launch) (h0 : Nat) (D : va_G) (dA : Nat → ClassId) (tb : Nat → Nat) (n : Nat) {s0 : zh_S} {a0 : Nat} {i1 : Int32} {i2 : Int32} {r : Int64} (hf : zf_M_list n s0 a0 i1 i2 = some r) : zc_M l zn_M_list zs_M_list 0 0 h0 D dA tb [.ref (h0 + a0), .int i1, .int i2] s0 (some (.long r)) s0 := by
  rw [zf_M_list] at hf
  refine zc_of (cc := ze_M_list) (maxL := 3) (ret := (some .long)) (lv := [(0, .ref (h0 + a0)), (1, .int i1), (2, .int i2)]) (by decide) rfl (Nat.le_of_ble_eq_true rfl) rfl ?_
  intro p e s m args below meth c X hnm
  obtain ⟨hx, hb, hml, hown, htT, hrt, hlk, x00, hIn⟩ := id X
  have hK := hIn.2.1
  have hT := hIn.2.2.1
  have hNe := hIn.2.2.2
  have hR : zg_R { frames := 0, cells := zh_N s0 - zh_N s0, slots := zh_M s0 - zh_M s0, locals := 0 } (zh_N s0) (zh_M s0) s0 := ⟨by show zh_N s0 ≤ zh_N s0 + (zh_N s0 - zh_N s0); omega, by show zh_M s0 ≤ zh_M s0 + (zh_M s0 - zh_M s0); omega⟩
  have hF : 0 ≤ ({ frames := 0, cells := zh_N s0 - zh_N s0, slots := zh_M s0 - zh_M s0, locals := 0 } : Room).frames ∧ 0 ≤ ({ frames := 0, cells := zh_N s0 - zh_N s0, slots := zh_M s0 - zh_M s0, locals := 0 } : Room).locals := ⟨Nat.le_refl _, Nat.le_refl _⟩
  have hret := fun (pc : Nat) (lv : List (Nat × Value)) (hd : decode ze_M_list pc = .ok (.lreturn, 1)) => zg_lret (R := { frames := 0, cells := zh_N s0 - zh_N s0, slots := zh_M s0 - zh_M s0, locals := 0 }) (l := l) (e := e) (below := below) (c0 := zh_N s0) (s0 := zh_M s0) (z := s0) (lv := lv) (v := r) X hd
  refine zg_1 (pc' := 1) (fun _ _ _ _ _ hl w => lv_iload_n hx hb zd_M_list_0 rfl (lv_at hl 1 rfl) w) ?_
  refine zg_2 (pc1 := 21) (pc2 := 4) (Classical.em _) (fun _ _ _ _ _ w1 w2 => lv_if_lt hx hb zd_M_list_1 (by decide) w1 w2) (fun hc => ?_) (fun hc => ?_)
  · rw [if_pos hc] at hf
    refine zg_1 (pc' := 24) (fun _ _ _ _ _ hl w => lv_ldc2 (v := (-1 : Int64)) hx hb hown (htT _ zt_804) zd_M_list_21 w) ?_
    refine zg_1 (pc' := 38) (fun _ _ _ _ _ hl w => lv_goto hx hb zd_M_list_24 (by decide) w) ?_
    obtain rfl := zx_r1 hf
    exact hret _ _ zd_M_list_38
  · rw [if_neg hc] at hf
    refine zg_1 (pc' := 5) (fun _ _ _ _ _ hl w => lv_iload_n hx hb zd_M_list_4 rfl (lv_at hl 1 rfl) w) ?_
    refine zg_1 (pc' := 6) (fun _ _ _ _ _ hl w => lv_aload_n hx hb zd_M_list_5 rfl (lv_at hl 0 rfl) w) ?_
    obtain ⟨h_1, hf⟩ := zx_ck hf
    refine zg_get (pc' := 9) (ci := 8) hx hb htT zi_M hown hK h_1 rfl rfl 17 (by decide) (htT _ zt_822) (fun _ h9 => h9) rfl zd_M_list_6 rfl ?_
    refine zg_2 (pc1 := 21) (pc2 := 12) (Classical.em _) (fun _ _ _ _ _ w1 w2 => lv_icmp_ge hx hb zd_M_list_9 (by decide) w1 w2) (fun hc => ?_) (fun hc => ?_)
    · rw [if_pos hc] at hf
      refine zg_1 (pc' := 24) (fun _ _ _ _ _ hl w => lv_ldc2 (v := (-1 : Int64)) hx hb hown (htT _ zt_804) zd_M_list_21 w) ?_
      refine zg_1 (pc' := 38) (fun _ _ _ _ _ hl w => lv_goto hx hb zd_M_list_24 (by decide) w) ?_
      obtain rfl := zx_r1 hf
      exact hret _ _ zd_M_list_38
    · rw [if_neg hc] at hf
      refine zg_1 (pc' := 13) (fun _ _ _ _ _ hl w => lv_iload_n hx hb zd_M_list_12 rfl (lv_at hl 2 rfl) w) ?_
      refine zg_2 (pc1 := 21) (pc2 := 16) (Classical.em _) (fun _ _ _ _ _ w1 w2 => lv_if_lt hx hb zd_M_list_13 (by decide) w1 w2) (fun hc => ?_) (fun hc => ?_)
      · rw [if_pos hc] at hf
        refine zg_1 (pc' := 24) (fun _ _ _ _ _ hl w => lv_ldc2 (v := (-1 : Int64)) hx hb hown (htT _ zt_804) zd_M_list_21 w) ?_
        refine zg_1 (pc' := 38) (fun _ _ _ _ _ hl w => lv_goto hx hb zd_M_list_24 (by decide) w) ?_
        obtain rfl := zx_r1 hf
        exact hret _ _ zd_M_list_38
      · rw [if_neg hc] at hf
        refine zg_1 (pc' := 17) (fun _ _ _ _ _ hl w => lv_iload_n hx hb zd_M_list_16 rfl (lv_at hl 2 rfl) w) ?_
        refine zg_1 (pc' := 18) (fun _ _ _ _ _ hl w => lv_iconst (v := (5 : Int32)) hx hb zd_M_list_17 (by decide) w) ?_
        refine zg_2 (pc1 := 27) (pc2 := 21) (Classical.em _) (fun _ _ _ _ _ w1 w2 => lv_icmp_le hx hb zd_M_list_18 (by decide) w1 w2) (fun hc => ?_) (fun hc => ?_)
        · rw [if_pos hc] at hf
          refine zg_1 (pc' := 28) (fun _ _ _ _ _ hl w => lv_aload_n hx hb zd_M_list_27 rfl (lv_at hl 0 rfl) w) ?_
          obtain ⟨a_2, h_3, hf⟩ := zx_p hf
          refine zg_get (pc' := 31) (ci := 8) hx hb htT zi_M hown hK h_1 rfl rfl 18 (by decide) (htT _ zt_823) (fun _ h9 => h9) (zx_hv h_3) zd_M_list_28 rfl ?_
          refine zg_1 (pc' := 33) (fun _ _ _ _ _ hl w => lv_bipush (v := (6 : Int32)) hx hb zd_M_list_31 (by decide) w) ?_
          refine zg_1 (pc' := 34) (fun _ _ _ _ _ hl w => lv_iload_n hx hb zd_M_list_33 rfl (lv_at hl 1 rfl) w) ?_
          refine zg_1 (pc' := 35) (fun _ _ _ _ _ hl w => lv_imul hx hb zd_M_list_34 w) ?_
          refine zg_1 (pc' := 36) (fun _ _ _ _ _ hl w => lv_iload_n hx hb zd_M_list_35 rfl (lv_at hl 2 rfl) w) ?_
          refine zg_1 (pc' := 37) (fun _ _ _ _ _ hl w => lv_iadd hx hb zd_M_list_36 w) ?_
          obtain ⟨h_4, hf⟩ := zx_ck hf
          refine zg_lald (pc' := 38) hx hb hK h_4 zd_M_list_37 rfl ?_
          obtain rfl := zx_r1 hf
          exact hret _ _ zd_M_list_38
        · rw [if_neg hc] at hf
          refine zg_1 (pc' := 24) (fun _ _ _ _ _ hl w => lv_ldc2 (v := (-1 : Int64)) hx hb hown (htT _ zt_804) zd_M_list_21 w) ?_
          refine zg_1 (pc' := 38) (fun _ _ _ _ _ hl w => lv_goto hx hb zd_M_list_24 (by decide) w) ?_
          obtain rfl := zx_r1 hf
          exact hret _ _ zd_M_list_38
set_option maxHeartbeats 4000000 in
theorem zw_Certificate_tell_172 {p : Program} {l : Launch} {e : Env} {R : Room} {s : State} {m : MethodId} {args : Array Value} {below : List Frame} {meth : Method} {c : Code} {Q : State → Prop} {h0 : Nat} {D : va_G} {dA : Nat → ClassId} {tb : Nat → Nat} {c0 k0 : Nat} {s0 : zh_S} {r : Int64} (X : zg_X p s m args meth c ze_Certificate_tell 2 zr_Certificate (some .long) h0 D dA tb) (hR : zg_R R c0 k0 s0) (hF : 0 ≤ R.frames ∧ 0 ≤ R.locals) (hret : ∀ (pc : Nat) (lv : List (Nat × Value)), decode ze_Certificate_tell pc = .ok (.lreturn, 1) → zg_G p l e R s m args below meth c Q h0 D dA 2 c0 k0 s0 s0 pc lv [.long r]) (n : Nat) : ∀ (a0 : Nat) (it0 : Int32) (it1 : Int32), zb_Certificate_tell_172 n s0 a0 it0 it1 = some r → zg_G p l e R s m args below meth c Q h0 D dA 2 c0 k0 s0 s0 172 [(0, .ref (h0 + a0))] [.int it1, .int it0] := by
  obtain ⟨hx, hb, hml, hown, htT, hrt, hlk, x00, hIn⟩ := id X
  have hK := hIn.2.1
  have hT := hIn.2.2.1
  have hNe := hIn.2.2.2
  intro a0 it0 it1 hf
  rw [zb_Certificate_tell_172] at hf
  refine zg_1 (pc' := 173) (fun _ _ _ _ _ hl w => lv_iadd hx hb zd_Certificate_tell_172 w) ?_
  refine zg_1 (pc' := 174) (fun _ _ _ _ _ hl w => lv_aload_n hx hb zd_Certificate_tell_173 rfl (lv_at hl 0 rfl) w) ?_
  obtain ⟨h_1, hf⟩ := zx_ck hf
  refine zg_get (pc' := 177) (ci := 0) hx hb htT zi_Certificate hown hK h_1 rfl rfl 16 (by decide) (htT _ zt_172) (fun _ h9 => h9) rfl zd_Certificate_tell_174 rfl ?_
  refine zg_2 (pc1 := 184) (pc2 := 180) (Classical.em _) (fun _ _ _ _ _ w1 w2 => lv_if_eq hx hb zd_Certificate_tell_177 (by decide) w1 w2) (fun hc => ?_) (fun hc => ?_)
  · rw [if_pos hc] at hf
    refine zg_1 (pc' := 185) (fun _ _ _ _ _ hl w => lv_iconst (v := (0 : Int32)) hx hb zd_Certificate_tell_184 (by decide) w) ?_
    refine zg_1 (pc' := 186) (fun _ _ _ _ _ hl w => lv_iadd hx hb zd_Certificate_tell_185 w) ?_
    refine zg_1 (pc' := 187) (fun _ _ _ _ _ hl w => lv_i2l (v := ((it0 + it1) + (0 : Int32)).toInt64) hx hb zd_Certificate_tell_186 rfl w) ?_
    obtain rfl := zx_r1 hf
    exact hret _ _ zd_Certificate_tell_187
  · rw [if_neg hc] at hf
    refine zg_1 (pc' := 181) (fun _ _ _ _ _ hl w => lv_iconst (v := (4 : Int32)) hx hb zd_Certificate_tell_180 (by decide) w) ?_
    refine zg_1 (pc' := 185) (fun _ _ _ _ _ hl w => lv_goto hx hb zd_Certificate_tell_181 (by decide) w) ?_
    refine zg_1 (pc' := 186) (fun _ _ _ _ _ hl w => lv_iadd hx hb zd_Certificate_tell_185 w) ?_
    refine zg_1 (pc' := 187) (fun _ _ _ _ _ hl w => lv_i2l (v := ((it0 + it1) + (4 : Int32)).toInt64) hx hb zd_Certificate_tell_186 rfl w) ?_
    obtain rfl := zx_r1 hf
    exact hret _ _ zd_Certificate_tell_187
set_option maxHeartbeats 4000000 in
theorem zw_Certificate_tell_160 {p : Program} {l : Launch} {e : Env} {R : Room} {s : State} {m : MethodId} {args : Array Value} {below : List Frame} {meth : Method} {c : Code} {Q : State → Prop} {h0 : Nat} {D : va_G} {dA : Nat → ClassId} {tb : Nat → Nat} {c0 k0 : Nat} {s0 : zh_S} {r : Int64} (X : zg_X p s m args meth c ze_Certificate_tell 2 zr_Certificate (some .long) h0 D dA tb) (hR : zg_R R c0 k0 s0) (hF : 0 ≤ R.frames ∧ 0 ≤ R.locals) (hret : ∀ (pc : Nat) (lv : List (Nat × Value)), decode ze_Certificate_tell pc = .ok (.lreturn, 1) → zg_G p l e R s m args below meth c Q h0 D dA 2 c0 k0 s0 s0 pc lv [.long r]) (n : Nat) : ∀ (a0 : Nat) (it0 : Int32), zb_Certificate_tell_160 n s0 a0 it0 = some r → zg_G p l e R s m args below meth c Q h0 D dA 2 c0 k0 s0 s0 160 [(0, .ref (h0 + a0))] [.int it0] := by
  obtain ⟨hx, hb, hml, hown, htT, hrt, hlk, x00, hIn⟩ := id X
  have hK := hIn.2.1
  have hT := hIn.2.2.1
  have hNe := hIn.2.2.2
  intro a0 it0 hf
  rw [zb_Certificate_tell_160] at hf
  refine zg_1 (pc' := 161) (fun _ _ _ _ _ hl w => lv_aload_n hx hb zd_Certificate_tell_160 rfl (lv_at hl 0 rfl) w) ?_
  obtain ⟨h_1, hf⟩ := zx_ck hf
  refine zg_get (pc' := 164) (ci := 0) hx hb htT zi_Certificate hown hK h_1 rfl rfl 15 (by decide) (htT _ zt_170) (fun _ h9 => h9) rfl zd_Certificate_tell_161 rfl ?_
  refine zg_2 (pc1 := 171) (pc2 := 167) (Classical.em _) (fun _ _ _ _ _ w1 w2 => lv_if_eq hx hb zd_Certificate_tell_164 (by decide) w1 w2) (fun hc => ?_) (fun hc => ?_)
  · rw [if_pos hc] at hf
    refine zg_1 (pc' := 172) (fun _ _ _ _ _ hl w => lv_iconst (v := (0 : Int32)) hx hb zd_Certificate_tell_171 (by decide) w) ?_
    exact zw_Certificate_tell_172 X hR hF hret n a0 it0 (0 : Int32) hf
  · rw [if_neg hc] at hf
    refine zg_1 (pc' := 168) (fun _ _ _ _ _ hl w => lv_iconst (v := (2 : Int32)) hx hb zd_Certificate_tell_167 (by decide) w) ?_
    refine zg_1 (pc' := 172) (fun _ _ _ _ _ hl w => lv_goto hx hb zd_Certificate_tell_168 (by decide) w) ?_
    exact zw_Certificate_tell_172 X hR hF hret n a0 it0 (2 : Int32) hf
set_option maxHeartbeats 4000000 in
theorem zc_Certificate_tell (l : Launch) (h0 : Nat) (D : va_G) (dA : Nat → ClassId) (tb : Nat → Nat) (n : Nat) {s0 : zh_S} {a0 : Nat} {i1 : Int32} {r : Int64} (hf : zf_Certificate_tell n s0 a0 i1 = some r) : zc_M l zn_Certificate_tell zs_Certificate_tell 0 0 h0 D dA tb [.ref (h0 + a0), .int i1] s0 (some (.long r)) s0 := by
  rw [zf_Certificate_tell] at hf
  refine zc_of (cc := ze_Certificate_tell) (maxL := 2) (ret := (some .long)) (lv := [(0, .ref (h0 + a0)), (1, .int i1)]) (by decide) rfl (Nat.le_of_ble_eq_true rfl) rfl ?_
  intro p e s m args below meth c X hnm
  obtain ⟨hx, hb, hml, hown, htT, hrt, hlk, x00, hIn⟩ := id X
  have hK := hIn.2.1
  have hT := hIn.2.2.1
  have hNe := hIn.2.2.2
  have hR : zg_R { frames := 0, cells := zh_N s0 - zh_N s0, slots := zh_M s0 - zh_M s0, locals := 0 } (zh_N s0) (zh_M s0) s0 := ⟨by show zh_N s0 ≤ zh_N s0 + (zh_N s0 - zh_N s0); omega, by show zh_M s0 ≤ zh_M s0 + (zh_M s0 - zh_M s0); omega⟩
  have hF : 0 ≤ ({ frames := 0, cells := zh_N s0 - zh_N s0, slots := zh_M s0 - zh_M s0, locals := 0 } : Room).frames ∧ 0 ≤ ({ frames := 0, cells := zh_N s0 - zh_N s0, slots := zh_M s0 - zh_M s0, locals := 0 } : Room).locals := ⟨Nat.le_refl _, Nat.le_refl _⟩
  have hret := fun (pc : Nat) (lv : List (Nat × Value)) (hd : decode ze_Certificate_tell pc = .ok (.lreturn, 1)) => zg_lret (R := { frames := 0, cells := zh_N s0 - zh_N s0, slots := zh_M s0 - zh_M s0, locals := 0 }) (l := l) (e := e) (below := below) (c0 := zh_N s0) (s0 := zh_M s0) (z := s0) (lv := lv) (v := r) X hd
  refine zg_1 (pc' := 1) (fun _ _ _ _ _ hl w => lv_iload_n hx hb zd_Certificate_tell_0 rfl (lv_at hl 1 rfl) w) ?_
  by_cases hk0 : i1 = 0
  · rw [if_pos hk0] at hf
    refine zg_1 (pc' := 76) (fun _ _ _ _ _ hl w => lv_tableIn hx hb zd_Certificate_tell_1 (by rw [hk0]; decide) (by rw [hk0]; decide) (by rw [hk0]; rfl) (by decide) w) ?_
    refine zg_1 (pc' := 77) (fun _ _ _ _ _ hl w => lv_aload_n hx hb zd_Certificate_tell_76 rfl (lv_at hl 0 rfl) w) ?_
    obtain ⟨h_1, hf⟩ := zx_ck hf
    refine zg_get (pc' := 80) (ci := 0) hx hb htT zi_Certificate hown hK h_1 rfl rfl 6 (by decide) (htT _ zt_145) (fun _ h9 => h9) rfl zd_Certificate_tell_77 rfl ?_
    obtain rfl := zx_r1 hf
    exact hret _ _ zd_Certificate_tell_80
  rw [if_neg hk0] at hf
  by_cases hk1 : i1 = 1
  · rw [if_pos hk1] at hf
    refine zg_1 (pc' := 81) (fun _ _ _ _ _ hl w => lv_tableIn hx hb zd_Certificate_tell_1 (by rw [hk1]; decide) (by rw [hk1]; decide) (by rw [hk1]; rfl) (by decide) w) ?_
    refine zg_1 (pc' := 82) (fun _ _ _ _ _ hl w => lv_aload_n hx hb zd_Certificate_tell_81 rfl (lv_at hl 0 rfl) w) ?_
    obtain ⟨h_2, hf⟩ := zx_ck hf
    refine zg_get (pc' := 85) (ci := 0) hx hb htT zi_Certificate hown hK h_2 rfl rfl 0 (by decide) (htT _ zt_183) (fun x9 h9 => u_same (htT _ zt_182) x9 h9) rfl zd_Certificate_tell_82 rfl ?_
    obtain rfl := zx_r1 hf
    exact hret _ _ zd_Certificate_tell_85
  rw [if_neg hk1] at hf
  by_cases hk2 : i1 = 2
  · rw [if_pos hk2] at hf
    refine zg_1 (pc' := 86) (fun _ _ _ _ _ hl w => lv_tableIn hx hb zd_Certificate_tell_1 (by rw [hk2]; decide) (by rw [hk2]; decide) (by rw [hk2]; rfl) (by decide) w) ?_
    refine zg_1 (pc' := 87) (fun _ _ _ _ _ hl w => lv_aload_n hx hb zd_Certificate_tell_86 rfl (lv_at hl 0 rfl) w) ?_
    obtain ⟨h_3, hf⟩ := zx_ck hf
    refine zg_get (pc' := 90) (ci := 0) hx hb htT zi_Certificate hown hK h_3 rfl rfl 1 (by decide) (htT _ zt_196) (fun x9 h9 => u_same (htT _ zt_192) x9 h9) rfl zd_Certificate_tell_87 rfl ?_
    obtain rfl := zx_r1 hf
    exact hret _ _ zd_Certificate_tell_90
  rw [if_neg hk2] at hf
  by_cases hk3 : i1 = 3
  · rw [if_pos hk3] at hf
    refine zg_1 (pc' := 91) (fun _ _ _ _ _ hl w => lv_tableIn hx hb zd_Certificate_tell_1 (by rw [hk3]; decide) (by rw [hk3]; decide) (by rw [hk3]; rfl) (by decide) w) ?_
    refine zg_1 (pc' := 92) (fun _ _ _ _ _ hl w => lv_aload_n hx hb zd_Certificate_tell_91 rfl (lv_at hl 0 rfl) w) ?_
    obtain ⟨h_4, hf⟩ := zx_ck hf
    refine zg_get (pc' := 95) (ci := 0) hx hb htT zi_Certificate hown hK h_4 rfl rfl 2 (by decide) (htT _ zt_204) (fun x9 h9 => u_same (htT _ zt_200) x9 h9) rfl zd_Certificate_tell_92 rfl ?_
    obtain rfl := zx_r1 hf
    exact hret _ _ zd_Certificate_tell_95
  rw [if_neg hk3] at hf
  by_cases hk4 : i1 = 4
  · rw [if_pos hk4] at hf
    refine zg_1 (pc' := 96) (fun _ _ _ _ _ hl w => lv_tableIn hx hb zd_Certificate_tell_1 (by rw [hk4]; decide) (by rw [hk4]; decide) (by rw [hk4]; rfl) (by decide) w) ?_
    refine zg_1 (pc' := 97) (fun _ _ _ _ _ hl w => lv_aload_n hx hb zd_Certificate_tell_96 rfl (lv_at hl 0 rfl) w) ?_
    obtain ⟨h_5, hf⟩ := zx_ck hf
    refine zg_get (pc' := 100) (ci := 0) hx hb htT zi_Certificate hown hK h_5 rfl rfl 7 (by decide) (htT _ zt_148) (fun _ h9 => h9) rfl zd_Certificate_tell_97 rfl ?_
    obtain rfl := zx_r1 hf
    exact hret _ _ zd_Certificate_tell_100
  rw [if_neg hk4] at hf
  by_cases hk5 : i1 = 5
  · rw [if_pos hk5] at hf
    refine zg_1 (pc' := 101) (fun _ _ _ _ _ hl w => lv_tableIn hx hb zd_Certificate_tell_1 (by rw [hk5]; decide) (by rw [hk5]; decide) (by rw [hk5]; rfl) (by decide) w) ?_
    refine zg_1 (pc' := 102) (fun _ _ _ _ _ hl w => lv_aload_n hx hb zd_Certificate_tell_101 rfl (lv_at hl 0 rfl) w) ?_
    obtain ⟨h_6, hf⟩ := zx_ck hf
    refine zg_get (pc' := 105) (ci := 0) hx hb htT zi_Certificate hown hK h_6 rfl rfl 8 (by decide) (htT _ zt_153) (fun _ h9 => h9) rfl zd_Certificate_tell_102 rfl ?_
    obtain rfl := zx_r1 hf
    exact hret _ _ zd_Certificate_tell_105
  rw [if_neg hk5] at hf
  by_cases hk6 : i1 = 6
  · rw [if_pos hk6] at hf
    refine zg_1 (pc' := 106) (fun _ _ _ _ _ hl w => lv_tableIn hx hb zd_Certificate_tell_1 (by rw [hk6]; decide) (by rw [hk6]; decide) (by rw [hk6]; rfl) (by decide) w) ?_
    refine zg_1 (pc' := 107) (fun _ _ _ _ _ hl w => lv_aload_n hx hb zd_Certificate_tell_106 rfl (lv_at hl 0 rfl) w) ?_
    obtain ⟨h_7, hf⟩ := zx_ck hf
    refine zg_get (pc' := 110) (ci := 0) hx hb htT zi_Certificate hown hK h_7 rfl rfl 9 (by decide) (htT _ zt_156) (fun _ h9 => h9) rfl zd_Certificate_tell_107 rfl ?_
    obtain rfl := zx_r1 hf
    exact hret _ _ zd_Certificate_tell_110
  rw [if_neg hk6] at hf
  by_cases hk7 : i1 = 7
  · rw [if_pos hk7] at hf
    refine zg_1 (pc' := 111) (fun _ _ _ _ _ hl w => lv_tableIn hx hb zd_Certificate_tell_1 (by rw [hk7]; decide) (by rw [hk7]; decide) (by rw [hk7]; rfl) (by decide) w) ?_
    refine zg_1 (pc' := 112) (fun _ _ _ _ _ hl w => lv_aload_n hx hb zd_Certificate_tell_111 rfl (lv_at hl 0 rfl) w) ?_
    obtain ⟨h_8, hf⟩ := zx_ck hf
    refine zg_get (pc' := 115) (ci := 0) hx hb htT zi_Certificate hown hK h_8 rfl rfl 3 (by decide) (htT _ zt_209) (fun x9 h9 => u_same (htT _ zt_210) x9 h9) rfl zd_Certificate_tell_112 rfl ?_
    obtain rfl := zx_r1 hf
    exact hret _ _ zd_Certificate_tell_115
  rw [if_neg hk7] at hf
  by_cases hk8 : i1 = 8
  · rw [if_pos hk8] at hf
    refine zg_1 (pc' := 116) (fun _ _ _ _ _ hl w => lv_tableIn hx hb zd_Certificate_tell_1 (by rw [hk8]; decide) (by rw [hk8]; decide) (by rw [hk8]; rfl) (by decide) w) ?_
    refine zg_1 (pc' := 117) (fun _ _ _ _ _ hl w => lv_aload_n hx hb zd_Certificate_tell_116 rfl (lv_at hl 0 rfl) w) ?_
    obtain ⟨h_9, hf⟩ := zx_ck hf
    refine zg_get (pc' := 120) (ci := 0) hx hb htT zi_Certificate hown hK h_9 rfl rfl 4 (by decide) (htT _ zt_215) (fun x9 h9 => u_same (htT _ zt_216) x9 h9) rfl zd_Certificate_tell_117 rfl ?_
    refine zg_1 (pc' := 121) (fun _ _ _ _ _ hl w => lv_i2l (v := (zh_I s0 a0 4).toInt64) hx hb zd_Certificate_tell_120 rfl w) ?_
    obtain rfl := zx_r1 hf
    exact hret _ _ zd_Certificate_tell_121
  rw [if_neg hk8] at hf
  by_cases hk9 : i1 = 9
  · rw [if_pos hk9] at hf
    refine zg_1 (pc' := 122) (fun _ _ _ _ _ hl w => lv_tableIn hx hb zd_Certificate_tell_1 (by rw [hk9]; decide) (by rw [hk9]; decide) (by rw [hk9]; rfl) (by decide) w) ?_
    refine zg_1 (pc' := 123) (fun _ _ _ _ _ hl w => lv_aload_n hx hb zd_Certificate_tell_122 rfl (lv_at hl 0 rfl) w) ?_
    obtain ⟨h_10, hf⟩ := zx_ck hf
    refine zg_get (pc' := 126) (ci := 0) hx hb htT zi_Certificate hown hK h_10 rfl rfl 10 (by decide) (htT _ zt_157) (fun _ h9 => h9) rfl zd_Certificate_tell_123 rfl ?_
    obtain rfl := zx_r1 hf
    exact hret _ _ zd_Certificate_tell_126
  rw [if_neg hk9] at hf
  by_cases hk10 : i1 = 10
  · rw [if_pos hk10] at hf
    refine zg_1 (pc' := 127) (fun _ _ _ _ _ hl w => lv_tableIn hx hb zd_Certificate_tell_1 (by rw [hk10]; decide) (by rw [hk10]; decide) (by rw [hk10]; rfl) (by decide) w) ?_
    refine zg_1 (pc' := 128) (fun _ _ _ _ _ hl w => lv_aload_n hx hb zd_Certificate_tell_127 rfl (lv_at hl 0 rfl) w) ?_
    obtain ⟨h_11, hf⟩ := zx_ck hf
    refine zg_get (pc' := 131) (ci := 0) hx hb htT zi_Certificate hown hK h_11 rfl rfl 11 (by decide) (htT _ zt_160) (fun _ h9 => h9) rfl zd_Certificate_tell_128 rfl ?_
    obtain rfl := zx_r1 hf
    exact hret _ _ zd_Certificate_tell_131
  rw [if_neg hk10] at hf
  by_cases hk11 : i1 = 11
  · rw [if_pos hk11] at hf
    refine zg_1 (pc' := 132) (fun _ _ _ _ _ hl w => lv_tableIn hx hb zd_Certificate_tell_1 (by rw [hk11]; decide) (by rw [hk11]; decide) (by rw [hk11]; rfl) (by decide) w) ?_
    refine zg_1 (pc' := 133) (fun _ _ _ _ _ hl w => lv_aload_n hx hb zd_Certificate_tell_132 rfl (lv_at hl 0 rfl) w) ?_
    obtain ⟨h_12, hf⟩ := zx_ck hf
    refine zg_get (pc' := 136) (ci := 0) hx hb htT zi_Certificate hown hK h_12 rfl rfl 12 (by decide) (htT _ zt_162) (fun _ h9 => h9) rfl zd_Certificate_tell_133 rfl ?_
    obtain rfl := zx_r1 hf
    exact hret _ _ zd_Certificate_tell_136
  rw [if_neg hk11] at hf
  by_cases hk12 : i1 = 12
  · rw [if_pos hk12] at hf
    refine zg_1 (pc' := 137) (fun _ _ _ _ _ hl w => lv_tableIn hx hb zd_Certificate_tell_1 (by rw [hk12]; decide) (by rw [hk12]; decide) (by rw [hk12]; rfl) (by decide) w) ?_
    refine zg_1 (pc' := 138) (fun _ _ _ _ _ hl w => lv_aload_n hx hb zd_Certificate_tell_137 rfl (lv_at hl 0 rfl) w) ?_
    obtain ⟨h_13, hf⟩ := zx_ck hf
    refine zg_get (pc' := 141) (ci := 0) hx hb htT zi_Certificate hown hK h_13 rfl rfl 13 (by decide) (htT _ zt_165) (fun _ h9 => h9) rfl zd_Certificate_tell_138 rfl ?_
    obtain rfl := zx_r1 hf
    exact hret _ _ zd_Certificate_tell_141
  rw [if_neg hk12] at hf
  by_cases hk13 : i1 = 13
  · rw [if_pos hk13] at hf
    refine zg_1 (pc' := 142) (fun _ _ _ _ _ hl w => lv_tableIn hx hb zd_Certificate_tell_1 (by rw [hk13]; decide) (by rw [hk13]; decide) (by rw [hk13]; rfl) (by decide) w) ?_
    refine zg_1 (pc' := 143) (fun _ _ _ _ _ hl w => lv_aload_n hx hb zd_Certificate_tell_142 rfl (lv_at hl 0 rfl) w) ?_
    obtain ⟨h_14, hf⟩ := zx_ck hf
    refine zg_get (pc' := 146) (ci := 0) hx hb htT zi_Certificate hown hK h_14 rfl rfl 14 (by decide) (htT _ zt_168) (fun _ h9 => h9) rfl zd_Certificate_tell_143 rfl ?_
    refine zg_1 (pc' := 147) (fun _ _ _ _ _ hl w => lv_i2l (v := (zh_I s0 a0 14).toInt64) hx hb zd_Certificate_tell_146 rfl w) ?_
    obtain rfl := zx_r1 hf
    exact hret _ _ zd_Certificate_tell_147
  rw [if_neg hk13] at hf
  by_cases hk14 : i1 = 14
  · rw [if_pos hk14] at hf
    refine zg_1 (pc' := 148) (fun _ _ _ _ _ hl w => lv_tableIn hx hb zd_Certificate_tell_1 (by rw [hk14]; decide) (by rw [hk14]; decide) (by rw [hk14]; rfl) (by decide) w) ?_
    refine zg_1 (pc' := 149) (fun _ _ _ _ _ hl w => lv_aload_n hx hb zd_Certificate_tell_148 rfl (lv_at hl 0 rfl) w) ?_
    obtain ⟨h_15, hf⟩ := zx_ck hf
    refine zg_get (pc' := 152) (ci := 0) hx hb htT zi_Certificate hown hK h_15 rfl rfl 18 (by decide) (htT _ zt_180) (fun _ h9 => h9) rfl zd_Certificate_tell_149 rfl ?_
    refine zg_2 (pc1 := 159) (pc2 := 155) (Classical.em _) (fun _ _ _ _ _ w1 w2 => lv_if_eq hx hb zd_Certificate_tell_152 (by decide) w1 w2) (fun hc => ?_) (fun hc => ?_)
    · rw [if_pos hc] at hf
      refine zg_1 (pc' := 160) (fun _ _ _ _ _ hl w => lv_iconst (v := (0 : Int32)) hx hb zd_Certificate_tell_159 (by decide) w) ?_
      refine zg_v [0] rfl ?_
      exact zw_Certificate_tell_160 X hR hF hret n a0 (0 : Int32) hf
    · rw [if_neg hc] at hf
      refine zg_1 (pc' := 156) (fun _ _ _ _ _ hl w => lv_iconst (v := (1 : Int32)) hx hb zd_Certificate_tell_155 (by decide) w) ?_
      refine zg_1 (pc' := 160) (fun _ _ _ _ _ hl w => lv_goto hx hb zd_Certificate_tell_156 (by decide) w) ?_
      refine zg_v [0] rfl ?_
      exact zw_Certificate_tell_160 X hR hF hret n a0 (1 : Int32) hf
  rw [if_neg hk14] at hf
  refine zg_1 (pc' := 188) (fun _ _ _ _ _ hl w => lv_tableOut hx hb zd_Certificate_tell_1 (zx_tab 14 (fun j hj => by rcases (show j = 0 ∨ j = 1 ∨ j = 2 ∨ j = 3 ∨ j = 4 ∨ j = 5 ∨ j = 6 ∨ j = 7 ∨ j = 8 ∨ j = 9 ∨ j = 10 ∨ j = 11 ∨ j = 12 ∨ j = 13 ∨ j = 14 by omega) with rfl | rfl | rfl | rfl | rfl | rfl | rfl | rfl | rfl | rfl | rfl | rfl | rfl | rfl | rfl <;> assumption)) (by decide) w) ?_
  refine zg_1 (pc' := 191) (fun _ _ _ _ _ hl w => lv_ldc2 (v := (-1 : Int64)) hx hb hown (htT _ zt_518) zd_Certificate_tell_188 w) ?_
  obtain rfl := zx_r1 hf
  exact hret _ _ zd_Certificate_tell_191
set_option maxHeartbeats 4000000 in
theorem zc_V_certificate (l : Launch) (h0 : Nat) (D : va_G) (dA : Nat → ClassId) (tb : Nat → Nat) (n : Nat) {s0 : zh_S} {a0 : Nat} {i1 : Int32} {i2 : Int32} {r : Int64} (hf : zf_V_certificate n s0 a0 i1 i2 = some r) : zc_M l zn_V_certificate zs_V_certificate 1 21 h0 D dA tb [.ref (h0 + a0), .int i1, .int i2] s0 (some (.long r)) s0 := by
  rw [zf_V_certificate] at hf
  refine zc_of (cc := ze_V_certificate) (maxL := 3) (ret := (some .long)) (lv := [(0, .ref (h0 + a0)), (1, .int i1), (2, .int i2)]) (by decide) rfl (Nat.le_of_ble_eq_true rfl) rfl ?_
  intro p e s m args below meth c X hnm
  obtain ⟨hx, hb, hml, hown, htT, hrt, hlk, x00, hIn⟩ := id X
  have hK := hIn.2.1
  have hT := hIn.2.2.1
  have hNe := hIn.2.2.2
  have hR : zg_R { frames := 1, cells := zh_N s0 - zh_N s0, slots := zh_M s0 - zh_M s0, locals := 21 } (zh_N s0) (zh_M s0) s0 := ⟨by show zh_N s0 ≤ zh_N s0 + (zh_N s0 - zh_N s0); omega, by show zh_M s0 ≤ zh_M s0 + (zh_M s0 - zh_M s0); omega⟩
  have hF : 1 ≤ ({ frames := 1, cells := zh_N s0 - zh_N s0, slots := zh_M s0 - zh_M s0, locals := 21 } : Room).frames ∧ 21 ≤ ({ frames := 1, cells := zh_N s0 - zh_N s0, slots := zh_M s0 - zh_M s0, locals := 21 } : Room).locals := ⟨Nat.le_refl _, Nat.le_refl _⟩
  have hret := fun (pc : Nat) (lv : List (Nat × Value)) (hd : decode ze_V_certificate pc = .ok (.lreturn, 1)) => zg_lret (R := { frames := 1, cells := zh_N s0 - zh_N s0, slots := zh_M s0 - zh_M s0, locals := 21 }) (l := l) (e := e) (below := below) (c0 := zh_N s0) (s0 := zh_M s0) (z := s0) (lv := lv) (v := r) X hd
  refine zg_1 (pc' := 1) (fun _ _ _ _ _ hl w => lv_aload_n hx hb zd_V_certificate_0 rfl (lv_at hl 0 rfl) w) ?_
  obtain ⟨h_1, hf⟩ := zx_ck hf
  obtain ⟨a_2, h_3, hf⟩ := zx_p hf
  refine zg_get (pc' := 4) (ci := 7) hx hb htT zi_V hown hK h_1 rfl rfl 2 (by decide) (htT _ zt_304) (fun _ h9 => h9) (zx_hv h_3) zd_V_certificate_1 rfl ?_
  refine zg_1 (pc' := 5) (fun _ _ _ _ _ hl w => lv_iload_n hx hb zd_V_certificate_4 rfl (lv_at hl 1 rfl) w) ?_
  obtain ⟨h_4, hf⟩ := zx_ck hf
  obtain ⟨i_5, hq, hf⟩ := zx_p hf
  refine zg_call (pc' := 8) (y := s0) (rv := (some (.int i_5))) (rest := []) X hR ⟨Nat.le_refl _, Nat.le_refl _⟩ (fun H locs ls k j hsz hI hU hk => va_runV (As := [.int i1]) (rest := []) ⟨hx, hb, hml, hown, htT⟩ (zc_Shelf_hasCertificate l h0 D dA tb n hq) (cwV 1 htT (zw_gV zt_627 zt_628 zt_629 zt_67 zt_630) rfl rfl rfl (by decide +kernel) ⟨Nat.le_trans (Nat.le_of_ble_eq_true rfl) hF.1, Nat.le_trans (Nat.le_of_ble_eq_true rfl) hF.2⟩) ⟨(zg_pre hU).1, zg_recv hK hI h_4 rfl, (zg_pre hU).2⟩ rfl rfl hsz rfl (lv_room (Nat.le_of_ble_eq_true rfl)) zd_V_certificate_5 hk) rfl ?_
  refine zg_2 (pc1 := 27) (pc2 := 11) (Classical.em _) (fun _ _ _ _ _ w1 w2 => lv_if_eq hx hb zd_V_certificate_8 (by decide) w1 w2) (fun hc => ?_) (fun hc => ?_)
  · rw [if_pos hc] at hf
    refine zg_1 (pc' := 30) (fun _ _ _ _ _ hl w => lv_ldc2 (v := (-1 : Int64)) hx hb hown (htT _ zt_635) zd_V_certificate_27 w) ?_
    obtain rfl := zx_r1 hf
    exact hret _ _ zd_V_certificate_30
  · rw [if_neg hc] at hf
    refine zg_1 (pc' := 12) (fun _ _ _ _ _ hl w => lv_aload_n hx hb zd_V_certificate_11 rfl (lv_at hl 0 rfl) w) ?_
    obtain ⟨a_6, h_7, hf⟩ := zx_p hf
    refine zg_get (pc' := 15) (ci := 7) hx hb htT zi_V hown hK h_1 rfl rfl 2 (by decide) (htT _ zt_304) (fun _ h9 => h9) (zx_hv h_7) zd_V_certificate_12 rfl ?_
    obtain ⟨h_8, hf⟩ := zx_ck hf
    obtain ⟨a_9, h_10, hf⟩ := zx_p hf
    refine zg_get (pc' := 18) (ci := 5) hx hb htT zi_Shelf hown hK h_8 rfl rfl 0 (by decide) (htT _ zt_283) (fun _ h9 => h9) (zx_hv h_10) zd_V_certificate_15 rfl ?_
    refine zg_1 (pc' := 19) (fun _ _ _ _ _ hl w => lv_iload_n hx hb zd_V_certificate_18 rfl (lv_at hl 1 rfl) w) ?_
    obtain ⟨h_11, hf⟩ := zx_ck hf
    obtain ⟨a_12, h_13, hf⟩ := zx_p hf
    refine zg_aald (pc' := 20) (t := 0) (t0 := 2) hx hb hK rfl h_11 h_13 zd_V_certificate_19 rfl ?_
    refine zg_1 (pc' := 21) (fun _ _ _ _ _ hl w => lv_iload_n hx hb zd_V_certificate_20 rfl (lv_at hl 2 rfl) w) ?_
    obtain ⟨h_14, hf⟩ := zx_ck hf
    obtain ⟨j_15, hq, hf⟩ := zx_p hf
    refine zg_call (pc' := 24) (y := s0) (rv := (some (.long j_15))) (rest := []) X hR ⟨Nat.le_refl _, Nat.le_refl _⟩ (fun H locs ls k j hsz hI hU hk => va_runV (As := [.int i2]) (rest := []) ⟨hx, hb, hml, hown, htT⟩ (zc_Certificate_tell l h0 D dA tb n hq) (cwV 1 htT (zw_gV zt_631 zt_632 zt_633 zt_69 zt_634) rfl rfl rfl (by decide +kernel) ⟨Nat.le_trans (Nat.le_of_ble_eq_true rfl) hF.1, Nat.le_trans (Nat.le_of_ble_eq_true rfl) hF.2⟩) ⟨(zg_pre hU).1, zg_recv hK hI h_14 rfl, (zg_pre hU).2⟩ rfl rfl hsz rfl (lv_room (Nat.le_of_ble_eq_true rfl)) zd_V_certificate_21 hk) rfl ?_
    refine zg_1 (pc' := 30) (fun _ _ _ _ _ hl w => lv_goto hx hb zd_V_certificate_24 (by decide) w) ?_
    obtain rfl := zx_r1 hf
    exact hret _ _ zd_V_certificate_30
set_option maxHeartbeats 4000000 in
theorem zc_M_certificate (l : Launch) (h0 : Nat) (D : va_G) (dA : Nat → ClassId) (tb : Nat → Nat) (n : Nat) {s0 : zh_S} {a0 : Nat} {i1 : Int32} {i2 : Int32} {r : Int64} (hf : zf_M_certificate n s0 a0 i1 i2 = some r) : zc_M l zn_M_certificate zs_M_certificate 1 22 h0 D dA tb [.ref (h0 + a0), .int i1, .int i2] s0 (some (.long r)) s0 := by
  rw [zf_M_certificate] at hf
  refine zc_of (cc := ze_M_certificate) (maxL := 5) (ret := (some .long)) (lv := [(0, .ref (h0 + a0)), (1, .int i1), (2, .int i2)]) (by decide) rfl (Nat.le_of_ble_eq_true rfl) rfl ?_
  intro p e s m args below meth c X hnm
  obtain ⟨hx, hb, hml, hown, htT, hrt, hlk, x00, hIn⟩ := id X
  have hK := hIn.2.1
  have hT := hIn.2.2.1
  have hNe := hIn.2.2.2
  have hR : zg_R { frames := 1, cells := zh_N s0 - zh_N s0, slots := zh_M s0 - zh_M s0, locals := 22 } (zh_N s0) (zh_M s0) s0 := ⟨by show zh_N s0 ≤ zh_N s0 + (zh_N s0 - zh_N s0); omega, by show zh_M s0 ≤ zh_M s0 + (zh_M s0 - zh_M s0); omega⟩
  have hF : 1 ≤ ({ frames := 1, cells := zh_N s0 - zh_N s0, slots := zh_M s0 - zh_M s0, locals := 22 } : Room).frames ∧ 22 ≤ ({ frames := 1, cells := zh_N s0 - zh_N s0, slots := zh_M s0 - zh_M s0, locals := 22 } : Room).locals := ⟨Nat.le_refl _, Nat.le_refl _⟩
  have hret := fun (pc : Nat) (lv : List (Nat × Value)) (hd : decode ze_M_certificate pc = .ok (.lreturn, 1)) => zg_lret (R := { frames := 1, cells := zh_N s0 - zh_N s0, slots := zh_M s0 - zh_M s0, locals := 22 }) (l := l) (e := e) (below := below) (c0 := zh_N s0) (s0 := zh_M s0) (z := s0) (lv := lv) (v := r) X hd
  refine zg_1 (pc' := 1) (fun _ _ _ _ _ hl w => lv_iload_n hx hb zd_M_certificate_0 rfl (lv_at hl 1 rfl) w) ?_
  refine zg_2 (pc1 := 22) (pc2 := 4) (Classical.em _) (fun _ _ _ _ _ w1 w2 => lv_if_lt hx hb zd_M_certificate_1 (by decide) w1 w2) (fun hc => ?_) (fun hc => ?_)
  · rw [if_pos hc] at hf
    refine zg_1 (pc' := 25) (fun _ _ _ _ _ hl w => lv_ldc2 (v := (-1 : Int64)) hx hb hown (htT _ zt_804) zd_M_certificate_22 w) ?_
    obtain rfl := zx_r1 hf
    exact hret _ _ zd_M_certificate_25
  · rw [if_neg hc] at hf
    refine zg_1 (pc' := 5) (fun _ _ _ _ _ hl w => lv_iload_n hx hb zd_M_certificate_4 rfl (lv_at hl 1 rfl) w) ?_
    refine zg_1 (pc' := 6) (fun _ _ _ _ _ hl w => lv_aload_n hx hb zd_M_certificate_5 rfl (lv_at hl 0 rfl) w) ?_
    obtain ⟨h_1, hf⟩ := zx_ck hf
    refine zg_get (pc' := 9) (ci := 8) hx hb htT zi_M hown hK h_1 rfl rfl 15 (by decide) (htT _ zt_820) (fun _ h9 => h9) rfl zd_M_certificate_6 rfl ?_
    refine zg_2 (pc1 := 22) (pc2 := 12) (Classical.em _) (fun _ _ _ _ _ w1 w2 => lv_icmp_ge hx hb zd_M_certificate_9 (by decide) w1 w2) (fun hc => ?_) (fun hc => ?_)
    · rw [if_pos hc] at hf
      refine zg_1 (pc' := 25) (fun _ _ _ _ _ hl w => lv_ldc2 (v := (-1 : Int64)) hx hb hown (htT _ zt_804) zd_M_certificate_22 w) ?_
      obtain rfl := zx_r1 hf
      exact hret _ _ zd_M_certificate_25
    · rw [if_neg hc] at hf
      refine zg_1 (pc' := 13) (fun _ _ _ _ _ hl w => lv_iload_n hx hb zd_M_certificate_12 rfl (lv_at hl 2 rfl) w) ?_
      refine zg_2 (pc1 := 22) (pc2 := 16) (Classical.em _) (fun _ _ _ _ _ w1 w2 => lv_if_lt hx hb zd_M_certificate_13 (by decide) w1 w2) (fun hc => ?_) (fun hc => ?_)
      · rw [if_pos hc] at hf
        refine zg_1 (pc' := 25) (fun _ _ _ _ _ hl w => lv_ldc2 (v := (-1 : Int64)) hx hb hown (htT _ zt_804) zd_M_certificate_22 w) ?_
        obtain rfl := zx_r1 hf
        exact hret _ _ zd_M_certificate_25
      · rw [if_neg hc] at hf
        refine zg_1 (pc' := 17) (fun _ _ _ _ _ hl w => lv_iload_n hx hb zd_M_certificate_16 rfl (lv_at hl 2 rfl) w) ?_
        refine zg_1 (pc' := 19) (fun _ _ _ _ _ hl w => lv_bipush (v := (14 : Int32)) hx hb zd_M_certificate_17 (by decide) w) ?_
        refine zg_2 (pc1 := 26) (pc2 := 22) (Classical.em _) (fun _ _ _ _ _ w1 w2 => lv_icmp_le hx hb zd_M_certificate_19 (by decide) w1 w2) (fun hc => ?_) (fun hc => ?_)
        · rw [if_pos hc] at hf
          refine zg_1 (pc' := 27) (fun _ _ _ _ _ hl w => lv_aload_n hx hb zd_M_certificate_26 rfl (lv_at hl 0 rfl) w) ?_
          refine zg_1 (pc' := 28) (fun _ _ _ _ _ hl w => lv_iload_n hx hb zd_M_certificate_27 rfl (lv_at hl 1 rfl) w) ?_
          refine zg_1 (pc' := 29) (fun _ _ _ _ _ hl w => lv_iload_n hx hb zd_M_certificate_28 rfl (lv_at hl 2 rfl) w) ?_
          obtain ⟨j_2, hq, hf⟩ := zx_p hf
          refine zg_call (pc' := 32) (y := s0) (rv := (some (.long j_2))) (rest := []) X hR ⟨Nat.le_refl _, Nat.le_refl _⟩ (fun H locs ls k j hsz hI hU hk => va_runV (As := [.int i1, .int i2]) (rest := []) ⟨hx, hb, hml, hown, htT⟩ (zc_M_of l h0 D dA tb n hq) (cwV 2 htT (zw_gV zt_1066 zt_1068 zt_52 zt_71 zt_1069) rfl rfl rfl (by decide +kernel) ⟨Nat.le_trans (Nat.le_of_ble_eq_true rfl) hF.1, Nat.le_trans (Nat.le_of_ble_eq_true rfl) hF.2⟩) ⟨(zg_pre hU).1, zg_recv hK hI h_1 rfl, (zg_pre hU).2⟩ rfl rfl hsz rfl (lv_room (Nat.le_of_ble_eq_true rfl)) zd_M_certificate_29 hk) rfl ?_
          refine zg_s (pc' := 33) (lv' := [(3, .long j_2), (0, .ref (h0 + a0)), (1, .int i1), (2, .int i2)]) (fun _ _ _ _ _ hl w => lv_lstore_n hx hb zd_M_certificate_32 rfl hl (by decide) rfl w) ?_
          refine zg_1 (pc' := 34) (fun _ _ _ _ _ hl w => lv_iload_n hx hb zd_M_certificate_33 rfl (lv_at hl 3 rfl) w) ?_
          refine zg_1 (pc' := 36) (fun _ _ _ _ _ hl w => lv_bipush (v := (14 : Int32)) hx hb zd_M_certificate_34 (by decide) w) ?_
          refine zg_2 (pc1 := 47) (pc2 := 39) (Classical.em _).symm (fun _ _ _ _ _ w1 w2 => lv_icmp_ne hx hb zd_M_certificate_36 (by decide) w1 w2) (fun hc => ?_) (fun hc => ?_)
          · rw [if_neg hc] at hf
            refine zg_1 (pc' := 48) (fun _ _ _ _ _ hl w => lv_lload_n hx hb zd_M_certificate_47 rfl (lv_at hl 0 rfl) w) ?_
            obtain rfl := zx_r1 hf
            exact hret _ _ zd_M_certificate_48
          · rw [if_pos hc] at hf
            refine zg_1 (pc' := 40) (fun _ _ _ _ _ hl w => lv_lload_n hx hb zd_M_certificate_39 rfl (lv_at hl 0 rfl) w) ?_
            refine zg_1 (pc' := 43) (fun _ _ _ _ _ hl w => lv_ldc2 (v := (7 : Int64)) hx hb hown (htT _ zt_943) zd_M_certificate_40 w) ?_
            refine zg_1 (pc' := 44) (fun _ _ _ _ _ hl w => lv_land hx hb zd_M_certificate_43 w) ?_
            refine zg_1 (pc' := 48) (fun _ _ _ _ _ hl w => lv_goto hx hb zd_M_certificate_44 (by decide) w) ?_
            obtain rfl := zx_r1 hf
            exact hret _ _ zd_M_certificate_48
        · rw [if_neg hc] at hf
          refine zg_1 (pc' := 25) (fun _ _ _ _ _ hl w => lv_ldc2 (v := (-1 : Int64)) hx hb hown (htT _ zt_804) zd_M_certificate_22 w) ?_
          obtain rfl := zx_r1 hf
          exact hret _ _ zd_M_certificate_25
set_option maxHeartbeats 4000000 in
theorem zc_Reader_init (l : Launch) (h0 : Nat) (D : va_G) (dA : Nat → ClassId) (tb : Nat → Nat) (n : Nat) {s0 : zh_S} {a0 : Nat} {a1 : Nat} {z : zh_S} (hf : zf_Reader_init n s0 a0 a1 = some z) : zc_M l zn_Reader_init zs_Reader_init 1 16 h0 D dA tb [.ref (h0 + a0), .ref (h0 + a1)] s0 none z := by
  rw [zf_Reader_init] at hf
  refine zc_of (cc := ze_Reader_init) (maxL := 2) (ret := none) (lv := [(0, .ref (h0 + a0)), (1, .ref (h0 + a1))]) (by decide) rfl (Nat.le_of_ble_eq_true rfl) rfl ?_
  intro p e s m args below meth c X hnm
  obtain ⟨hx, hb, hml, hown, htT, hrt, hlk, x00, hIn⟩ := id X
  have hK := hIn.2.1
  have hT := hIn.2.2.1
  have hNe := hIn.2.2.2
  have hR : zg_R { frames := 1, cells := zh_N z - zh_N s0, slots := zh_M z - zh_M s0, locals := 16 } (zh_N s0) (zh_M s0) z := ⟨by show zh_N z ≤ zh_N s0 + (zh_N z - zh_N s0); omega, by show zh_M z ≤ zh_M s0 + (zh_M z - zh_M s0); omega⟩
  have hF : 1 ≤ ({ frames := 1, cells := zh_N z - zh_N s0, slots := zh_M z - zh_M s0, locals := 16 } : Room).frames ∧ 16 ≤ ({ frames := 1, cells := zh_N z - zh_N s0, slots := zh_M z - zh_M s0, locals := 16 } : Room).locals := ⟨Nat.le_refl _, Nat.le_refl _⟩
  have hret := fun (pc : Nat) (lv : List (Nat × Value)) (hd : decode ze_Reader_init pc = .ok (.return_, 1)) => zg_vret (R := { frames := 1, cells := zh_N z - zh_N s0, slots := zh_M z - zh_M s0, locals := 16 }) (l := l) (e := e) (below := below) (c0 := zh_N s0) (s0 := zh_M s0) (z := z) (lv := lv) X hd
  refine zg_1 (pc' := 1) (fun _ _ _ _ _ hl w => lv_aload_n hx hb zd_Reader_init_0 rfl (lv_at hl 0 rfl) w) ?_
  refine zg_1 (pc' := 4) (fun _ _ _ _ _ hl w => W.objInit hx hb hown (htT _ zt_495) (htT _ zt_83) (htT _ zt_84) rfl (by rw [hml]; exact hl.1) rfl zd_Reader_init_1 (Nat.le_trans (Nat.le_of_ble_eq_true rfl) hF.1) (Nat.le_trans (Nat.le_of_ble_eq_true rfl) hF.2) w) ?_
  refine zg_1 (pc' := 5) (fun _ _ _ _ _ hl w => lv_aload_n hx hb zd_Reader_init_4 rfl (lv_at hl 0 rfl) w) ?_
  refine zg_1 (pc' := 6) (fun _ _ _ _ _ hl w => lv_iconst (v := (0 : Int32)) hx hb zd_Reader_init_5 (by decide) w) ?_
  obtain ⟨h_2, hf⟩ := zx_ck hf
  obtain ⟨s_1, e_s_1, hf⟩ := zx_l hf
  refine zg_putI (pc' := 9) (ci := 2) (ty := .int) hx hb htT zi_Reader zy_Reader zo_Reader zj_Reader hown hK h_2 rfl rfl 1 (by decide) (htT _ zt_497) (fun _ h9 => h9) (Or.inl rfl) (by decide +kernel) rfl rfl rfl e_s_1 zd_Reader_init_6 rfl ?_
  refine zg_1 (pc' := 10) (fun _ _ _ _ _ hl w => lv_aload_n hx hb zd_Reader_init_9 rfl (lv_at hl 0 rfl) w) ?_
  refine zg_1 (pc' := 11) (fun _ _ _ _ _ hl w => lv_iconst (v := (0 : Int32)) hx hb zd_Reader_init_10 (by decide) w) ?_
  obtain ⟨s_3, e_s_3, hf⟩ := zx_l hf
  refine zg_putI (pc' := 14) (ci := 2) (ty := .int) hx hb htT zi_Reader zy_Reader zo_Reader zj_Reader hown hK (zx_oI e_s_1 h_2) rfl rfl 2 (by decide) (htT _ zt_498) (fun _ h9 => h9) (Or.inl rfl) (by decide +kernel) rfl rfl rfl e_s_3 zd_Reader_init_11 rfl ?_
  refine zg_1 (pc' := 15) (fun _ _ _ _ _ hl w => lv_aload_n hx hb zd_Reader_init_14 rfl (lv_at hl 0 rfl) w) ?_
  refine zg_1 (pc' := 16) (fun _ _ _ _ _ hl w => lv_aload_n hx hb zd_Reader_init_15 rfl (lv_at hl 1 rfl) w) ?_
  obtain ⟨s_4, e_s_4, hf⟩ := zx_l hf
  refine zg_putR (pc' := 19) (ci := 2) (ty := (.object zr_Draft)) hx hb htT zi_Reader zy_Reader zo_Reader zj_Reader hown hK (zx_oI e_s_3 (zx_oI e_s_1 h_2)) rfl rfl 0 (by decide) (htT _ zt_496) (fun _ h9 => h9) (Or.inr ⟨rfl, hnm, rfl⟩) (by decide +kernel) rfl rfl rfl e_s_4 zd_Reader_init_16 rfl ?_
  obtain rfl := zx_r1 hf
  exact hret _ _ zd_Reader_init_19
set_option maxHeartbeats 4000000 in
theorem zc_Shelf_nextCertificate (l : Launch) (h0 : Nat) (D : va_G) (dA : Nat → ClassId) (tb : Nat → Nat) (n : Nat) {s0 : zh_S} {a0 : Nat} {r : Nat} (hf : zf_Shelf_nextCertificate n s0 a0 = some r) : zc_M l zn_Shelf_nextCertificate zs_Shelf_nextCertificate 0 0 h0 D dA tb [.ref (h0 + a0)] s0 (some (.ref (h0 + r))) s0 := by
  rw [zf_Shelf_nextCertificate] at hf
  refine zc_of (cc := ze_Shelf_nextCertificate) (maxL := 1) (ret := (some (.object zr_Certificate))) (lv := [(0, .ref (h0 + a0))]) (by decide) rfl (Nat.le_of_ble_eq_true rfl) rfl ?_
  intro p e s m args below meth c X hnm
  obtain ⟨hx, hb, hml, hown, htT, hrt, hlk, x00, hIn⟩ := id X
  have hK := hIn.2.1
  have hT := hIn.2.2.1
  have hNe := hIn.2.2.2
  have hR : zg_R { frames := 0, cells := zh_N s0 - zh_N s0, slots := zh_M s0 - zh_M s0, locals := 0 } (zh_N s0) (zh_M s0) s0 := ⟨by show zh_N s0 ≤ zh_N s0 + (zh_N s0 - zh_N s0); omega, by show zh_M s0 ≤ zh_M s0 + (zh_M s0 - zh_M s0); omega⟩
  have hF : 0 ≤ ({ frames := 0, cells := zh_N s0 - zh_N s0, slots := zh_M s0 - zh_M s0, locals := 0 } : Room).frames ∧ 0 ≤ ({ frames := 0, cells := zh_N s0 - zh_N s0, slots := zh_M s0 - zh_M s0, locals := 0 } : Room).locals := ⟨Nat.le_refl _, Nat.le_refl _⟩
  have hret := fun (pc : Nat) (lv : List (Nat × Value)) (hd : decode ze_Shelf_nextCertificate pc = .ok (.areturn, 1)) => zg_aret (R := { frames := 0, cells := zh_N s0 - zh_N s0, slots := zh_M s0 - zh_M s0, locals := 0 }) (l := l) (e := e) (below := below) (c0 := zh_N s0) (s0 := zh_M s0) (z := s0) (lv := lv) (v := .ref (h0 + r)) X (Or.inr ⟨_, rfl⟩) hd
  refine zg_1 (pc' := 1) (fun _ _ _ _ _ hl w => lv_aload_n hx hb zd_Shelf_nextCertificate_0 rfl (lv_at hl 0 rfl) w) ?_
  obtain ⟨h_1, hf⟩ := zx_ck hf
  obtain ⟨a_2, h_3, hf⟩ := zx_p hf
  refine zg_get (pc' := 4) (ci := 5) hx hb htT zi_Shelf hown hK h_1 rfl rfl 0 (by decide) (htT _ zt_281) (fun _ h9 => h9) (zx_hv h_3) zd_Shelf_nextCertificate_1 rfl ?_
  refine zg_1 (pc' := 5) (fun _ _ _ _ _ hl w => lv_aload_n hx hb zd_Shelf_nextCertificate_4 rfl (lv_at hl 0 rfl) w) ?_
  refine zg_get (pc' := 8) (ci := 5) hx hb htT zi_Shelf hown hK h_1 rfl rfl 2 (by decide) (htT _ zt_287) (fun _ h9 => h9) rfl zd_Shelf_nextCertificate_5 rfl ?_
  obtain ⟨h_4, hf⟩ := zx_ck hf
  obtain ⟨a_5, h_6, hf⟩ := zx_p hf
  refine zg_aald (pc' := 9) (t := 0) (t0 := 2) hx hb hK rfl h_4 h_6 zd_Shelf_nextCertificate_8 rfl ?_
  obtain rfl := zx_r1 hf
  exact hret _ _ zd_Shelf_nextCertificate_9
set_option maxHeartbeats 4000000 in
theorem zc_Certificate_forget (l : Launch) (h0 : Nat) (D : va_G) (dA : Nat → ClassId) (tb : Nat → Nat) (n : Nat) {s0 : zh_S} {a0 : Nat} {z : zh_S} (hf : zf_Certificate_forget n s0 a0 = some z) : zc_M l zn_Certificate_forget zs_Certificate_forget 0 0 h0 D dA tb [.ref (h0 + a0)] s0 none z := by
  rw [zf_Certificate_forget] at hf
  refine zc_of (cc := ze_Certificate_forget) (maxL := 1) (ret := none) (lv := [(0, .ref (h0 + a0))]) (by decide) rfl (Nat.le_of_ble_eq_true rfl) rfl ?_
  intro p e s m args below meth c X hnm
  obtain ⟨hx, hb, hml, hown, htT, hrt, hlk, x00, hIn⟩ := id X
  have hK := hIn.2.1
  have hT := hIn.2.2.1
  have hNe := hIn.2.2.2
  have hR : zg_R { frames := 0, cells := zh_N z - zh_N s0, slots := zh_M z - zh_M s0, locals := 0 } (zh_N s0) (zh_M s0) z := ⟨by show zh_N z ≤ zh_N s0 + (zh_N z - zh_N s0); omega, by show zh_M z ≤ zh_M s0 + (zh_M z - zh_M s0); omega⟩
  have hF : 0 ≤ ({ frames := 0, cells := zh_N z - zh_N s0, slots := zh_M z - zh_M s0, locals := 0 } : Room).frames ∧ 0 ≤ ({ frames := 0, cells := zh_N z - zh_N s0, slots := zh_M z - zh_M s0, locals := 0 } : Room).locals := ⟨Nat.le_refl _, Nat.le_refl _⟩
  have hret := fun (pc : Nat) (lv : List (Nat × Value)) (hd : decode ze_Certificate_forget pc = .ok (.return_, 1)) => zg_vret (R := { frames := 0, cells := zh_N z - zh_N s0, slots := zh_M z - zh_M s0, locals := 0 }) (l := l) (e := e) (below := below) (c0 := zh_N s0) (s0 := zh_M s0) (z := z) (lv := lv) X hd
  refine zg_1 (pc' := 1) (fun _ _ _ _ _ hl w => lv_aload_n hx hb zd_Certificate_forget_0 rfl (lv_at hl 0 rfl) w) ?_
  refine zg_1 (pc' := 4) (fun _ _ _ _ _ hl w => lv_ldc2 (v := (-1 : Int64)) hx hb hown (htT _ zt_518) zd_Certificate_forget_1 w) ?_
  obtain ⟨h_2, hf⟩ := zx_ck hf
  obtain ⟨s_1, e_s_1, hf⟩ := zx_l hf
  refine zg_putJ (pc' := 7) (ci := 0) (ty := .long) hx hb htT zi_Certificate zy_Certificate zo_Certificate zj_Certificate hown hK h_2 rfl rfl 10 (by decide) (htT _ zt_157) (fun _ h9 => h9) (Or.inl rfl) (by decide +kernel) rfl rfl rfl e_s_1 zd_Certificate_forget_4 rfl ?_
  refine zg_1 (pc' := 8) (fun _ _ _ _ _ hl w => lv_aload_n hx hb zd_Certificate_forget_7 rfl (lv_at hl 0 rfl) w) ?_
  refine zg_1 (pc' := 9) (fun _ _ _ _ _ hl w => lv_lconst (v := (0 : Int64)) hx hb zd_Certificate_forget_8 (by decide) w) ?_
  obtain ⟨s_3, e_s_3, hf⟩ := zx_l hf
  refine zg_putJ (pc' := 12) (ci := 0) (ty := .long) hx hb htT zi_Certificate zy_Certificate zo_Certificate zj_Certificate hown hK (zx_oJ e_s_1 h_2) rfl rfl 11 (by decide) (htT _ zt_160) (fun _ h9 => h9) (Or.inl rfl) (by decide +kernel) rfl rfl rfl e_s_3 zd_Certificate_forget_9 rfl ?_
  refine zg_1 (pc' := 13) (fun _ _ _ _ _ hl w => lv_aload_n hx hb zd_Certificate_forget_12 rfl (lv_at hl 0 rfl) w) ?_
  refine zg_1 (pc' := 14) (fun _ _ _ _ _ hl w => lv_lconst (v := (0 : Int64)) hx hb zd_Certificate_forget_13 (by decide) w) ?_
  obtain ⟨s_4, e_s_4, hf⟩ := zx_l hf
  refine zg_putJ (pc' := 17) (ci := 0) (ty := .long) hx hb htT zi_Certificate zy_Certificate zo_Certificate zj_Certificate hown hK (zx_oJ e_s_3 (zx_oJ e_s_1 h_2)) rfl rfl 12 (by decide) (htT _ zt_162) (fun _ h9 => h9) (Or.inl rfl) (by decide +kernel) rfl rfl rfl e_s_4 zd_Certificate_forget_14 rfl ?_
  refine zg_1 (pc' := 18) (fun _ _ _ _ _ hl w => lv_aload_n hx hb zd_Certificate_forget_17 rfl (lv_at hl 0 rfl) w) ?_
  refine zg_1 (pc' := 19) (fun _ _ _ _ _ hl w => lv_lconst (v := (0 : Int64)) hx hb zd_Certificate_forget_18 (by decide) w) ?_
  obtain ⟨s_5, e_s_5, hf⟩ := zx_l hf
  refine zg_putJ (pc' := 22) (ci := 0) (ty := .long) hx hb htT zi_Certificate zy_Certificate zo_Certificate zj_Certificate hown hK (zx_oJ e_s_4 (zx_oJ e_s_3 (zx_oJ e_s_1 h_2))) rfl rfl 13 (by decide) (htT _ zt_165) (fun _ h9 => h9) (Or.inl rfl) (by decide +kernel) rfl rfl rfl e_s_5 zd_Certificate_forget_19 rfl ?_
  refine zg_1 (pc' := 23) (fun _ _ _ _ _ hl w => lv_aload_n hx hb zd_Certificate_forget_22 rfl (lv_at hl 0 rfl) w) ?_
  refine zg_1 (pc' := 24) (fun _ _ _ _ _ hl w => lv_iconst (v := (0 : Int32)) hx hb zd_Certificate_forget_23 (by decide) w) ?_
  obtain ⟨s_6, e_s_6, hf⟩ := zx_l hf
  refine zg_putI (pc' := 27) (ci := 0) (ty := .int) hx hb htT zi_Certificate zy_Certificate zo_Certificate zj_Certificate hown hK (zx_oJ e_s_5 (zx_oJ e_s_4 (zx_oJ e_s_3 (zx_oJ e_s_1 h_2)))) rfl rfl 14 (by decide) (htT _ zt_168) (fun _ h9 => h9) (Or.inl rfl) (by decide +kernel) rfl rfl rfl e_s_6 zd_Certificate_forget_24 rfl ?_
  refine zg_1 (pc' := 28) (fun _ _ _ _ _ hl w => lv_aload_n hx hb zd_Certificate_forget_27 rfl (lv_at hl 0 rfl) w) ?_
  refine zg_1 (pc' := 29) (fun _ _ _ _ _ hl w => lv_iconst (v := (0 : Int32)) hx hb zd_Certificate_forget_28 (by decide) w) ?_
  obtain ⟨s_7, e_s_7, hf⟩ := zx_l hf
  refine zg_putI (pc' := 32) (ci := 0) (ty := .boolean) hx hb htT zi_Certificate zy_Certificate zo_Certificate zj_Certificate hown hK (zx_oI e_s_6 (zx_oJ e_s_5 (zx_oJ e_s_4 (zx_oJ e_s_3 (zx_oJ e_s_1 h_2))))) rfl rfl 15 (by decide) (htT _ zt_170) (fun _ h9 => h9) (Or.inl rfl) (by decide +kernel) rfl rfl rfl e_s_7 zd_Certificate_forget_29 rfl ?_
  refine zg_1 (pc' := 33) (fun _ _ _ _ _ hl w => lv_aload_n hx hb zd_Certificate_forget_32 rfl (lv_at hl 0 rfl) w) ?_
  refine zg_1 (pc' := 34) (fun _ _ _ _ _ hl w => lv_iconst (v := (0 : Int32)) hx hb zd_Certificate_forget_33 (by decide) w) ?_
  obtain ⟨s_8, e_s_8, hf⟩ := zx_l hf
  refine zg_putI (pc' := 37) (ci := 0) (ty := .boolean) hx hb htT zi_Certificate zy_Certificate zo_Certificate zj_Certificate hown hK (zx_oI e_s_7 (zx_oI e_s_6 (zx_oJ e_s_5 (zx_oJ e_s_4 (zx_oJ e_s_3 (zx_oJ e_s_1 h_2)))))) rfl rfl 16 (by decide) (htT _ zt_172) (fun _ h9 => h9) (Or.inl rfl) (by decide +kernel) rfl rfl rfl e_s_8 zd_Certificate_forget_34 rfl ?_
  refine zg_1 (pc' := 38) (fun _ _ _ _ _ hl w => lv_aload_n hx hb zd_Certificate_forget_37 rfl (lv_at hl 0 rfl) w) ?_
  refine zg_1 (pc' := 39) (fun _ _ _ _ _ hl w => lv_iconst (v := (0 : Int32)) hx hb zd_Certificate_forget_38 (by decide) w) ?_
  obtain ⟨s_9, e_s_9, hf⟩ := zx_l hf
  refine zg_putI (pc' := 42) (ci := 0) (ty := .boolean) hx hb htT zi_Certificate zy_Certificate zo_Certificate zj_Certificate hown hK (zx_oI e_s_8 (zx_oI e_s_7 (zx_oI e_s_6 (zx_oJ e_s_5 (zx_oJ e_s_4 (zx_oJ e_s_3 (zx_oJ e_s_1 h_2))))))) rfl rfl 17 (by decide) (htT _ zt_175) (fun _ h9 => h9) (Or.inl rfl) (by decide +kernel) rfl rfl rfl e_s_9 zd_Certificate_forget_39 rfl ?_
  obtain rfl := zx_r1 hf
  exact hret _ _ zd_Certificate_forget_42
