set_option maxHeartbeats 4000000 in
theorem zw_L_law_849 {p : Program} {l : Launch} {e : Env} {R : Room} {s : State} {m : MethodId} {args : Array Value} {below : List Frame} {meth : Method} {c : Code} {Q : State → Prop} {h0 : Nat} {D : va_G} {dA : Nat → ClassId} {tb : Nat → Nat} {c0 k0 : Nat} {z : zh_S} {r : Int32} (X : zg_X p s m args meth c ze_L_law 4 zr_L (some .boolean) h0 D dA tb) (hR : zg_R R c0 k0 z) (hF : 21 ≤ R.frames ∧ 495 ≤ R.locals) (hret : (r = 0 ∨ r = 1) → ∀ (pc : Nat) (lv : List (Nat × Value)), decode ze_L_law pc = .ok (.ireturn, 1) → zg_G p l e R s m args below meth c Q h0 D dA 4 c0 k0 z z pc lv [.int r]) (n : Nat) {b : Nat} (xs : Nat → Int32) (L : Nat) (hXs : va_X b L xs s s.heap) (hbl : b < s.heap.size) (hbA : ¬ h0 ≤ b) (r18 : zh_S → Nat → Nat → Int32 → Option (Int32 × zh_S)) (hr18 : ∀ (s0 : zh_S) (a1 : Nat) (a2 : Nat) (i3 : Int32), r18 s0 a1 a2 i3 = some (r, z) → zg_G p l e R s m args below meth c Q h0 D dA 4 c0 k0 z s0 18 [(0, .ref b), (1, .ref (h0 + a1)), (2, .ref (h0 + a2)), (3, .int i3)] []) : ∀ (s0 : zh_S) (a1 : Nat) (a2 : Nat) (i3 : Int32), zb_L_law_849 n xs L r18 s0 a1 a2 i3 = some (r, z) → zg_G p l e R s m args below meth c Q h0 D dA 4 c0 k0 z s0 849 [(0, .ref b), (1, .ref (h0 + a1)), (2, .ref (h0 + a2)), (3, .int i3)] [] := by
  obtain ⟨hx, hb, hml, hown, htT, hrt, hlk, x00, hIn⟩ := id X
  have hK := hIn.2.1
  have hT := hIn.2.2.1
  have hNe := hIn.2.2.2
  intro s0 a1 a2 i3 hf
  rw [zb_L_law_849] at hf
  obtain ⟨i_1, e_i_1, hf⟩ := zx_l hf
  refine zg_s (pc' := 852) (lv' := [(3, .int i_1), (0, .ref b), (1, .ref (h0 + a1)), (2, .ref (h0 + a2))]) (fun _ _ _ _ _ hl w => lv_iinc (k := 3) (v := i_1) hx hb zd_L_law_849 hl rfl (by rw [e_i_1]; rfl) (by decide) rfl w) ?_
  refine zg_1 (pc' := 18) (fun _ _ _ _ _ hl w => lv_goto hx hb zd_L_law_852 (by decide) w) ?_
  refine zg_v [1, 2, 3, 0] rfl ?_
  exact hr18 s0 a1 a2 i_1 hf
set_option maxHeartbeats 4000000 in
theorem zw_L_law_434 {p : Program} {l : Launch} {e : Env} {R : Room} {s : State} {m : MethodId} {args : Array Value} {below : List Frame} {meth : Method} {c : Code} {Q : State → Prop} {h0 : Nat} {D : va_G} {dA : Nat → ClassId} {tb : Nat → Nat} {c0 k0 : Nat} {z : zh_S} {r : Int32} (X : zg_X p s m args meth c ze_L_law 4 zr_L (some .boolean) h0 D dA tb) (hR : zg_R R c0 k0 z) (hF : 21 ≤ R.frames ∧ 495 ≤ R.locals) (hret : (r = 0 ∨ r = 1) → ∀ (pc : Nat) (lv : List (Nat × Value)), decode ze_L_law pc = .ok (.ireturn, 1) → zg_G p l e R s m args below meth c Q h0 D dA 4 c0 k0 z z pc lv [.int r]) (n : Nat) {b : Nat} (xs : Nat → Int32) (L : Nat) (hXs : va_X b L xs s s.heap) (hbl : b < s.heap.size) (hbA : ¬ h0 ≤ b) (r18 : zh_S → Nat → Nat → Int32 → Option (Int32 × zh_S)) (hr18 : ∀ (s0 : zh_S) (a1 : Nat) (a2 : Nat) (i3 : Int32), r18 s0 a1 a2 i3 = some (r, z) → zg_G p l e R s m args below meth c Q h0 D dA 4 c0 k0 z s0 18 [(0, .ref b), (1, .ref (h0 + a1)), (2, .ref (h0 + a2)), (3, .int i3)] []) : ∀ (s0 : zh_S) (a1 : Nat) (a2 : Nat) (i3 : Int32) (it0 : Int32) (at1 : Nat) (it2 : Int32), zb_L_law_434 n xs L r18 s0 a1 a2 i3 it0 at1 it2 = some (r, z) → zg_G p l e R s m args below meth c Q h0 D dA 4 c0 k0 z s0 434 [(0, .ref b), (1, .ref (h0 + a1)), (2, .ref (h0 + a2)), (3, .int i3)] [.int it2, .ref (h0 + at1), .int it0] := by
  obtain ⟨hx, hb, hml, hown, htT, hrt, hlk, x00, hIn⟩ := id X
  have hK := hIn.2.1
  have hT := hIn.2.2.1
  have hNe := hIn.2.2.2
  intro s0 a1 a2 i3 it0 at1 it2 hf
  rw [zb_L_law_434] at hf
  obtain ⟨h_2, hf⟩ := zx_ck hf
  obtain ⟨i_3, s_1, hq, hf⟩ := zx_b hf
  refine zg_call (pc' := 437) (y := s_1) (rv := (some (.int i_3))) (rest := [.int it0]) X hR (zm_M_check hq) (fun H locs ls k j hsz hI hU hk => va_runV (As := [.int it2]) (rest := [.int it0]) ⟨hx, hb, hml, hown, htT⟩ (zc_M_check l h0 D dA tb n hq) (cwV 1 htT (zw_gV zt_999 zt_1000 zt_1001 zt_71 zt_1002) rfl rfl rfl (by decide +kernel) ⟨Nat.le_trans (Nat.le_of_ble_eq_true rfl) hF.1, Nat.le_trans (Nat.le_of_ble_eq_true rfl) hF.2⟩) ⟨(zg_pre hU).1, zg_recv hK hI h_2 rfl, (zg_pre hU).2⟩ rfl rfl hsz rfl (lv_room (Nat.le_of_ble_eq_true rfl)) zd_L_law_434 hk) rfl ?_
  refine zg_2 (pc1 := 849) (pc2 := 440) (Classical.em _) (fun _ _ _ _ _ w1 w2 => lv_icmp_eq hx hb zd_L_law_437 (by decide) w1 w2) (fun hc => ?_) (fun hc => ?_)
  · rw [if_pos hc] at hf
    exact zw_L_law_849 X hR hF hret n xs L hXs hbl hbA _ hr18 s_1 a1 a2 i3 hf
  · rw [if_neg hc] at hf
    refine zg_1 (pc' := 441) (fun _ _ _ _ _ hl w => lv_iconst (v := (0 : Int32)) hx hb zd_L_law_440 (by decide) w) ?_
    obtain ⟨rfl, rfl⟩ := zx_r2 hf
    exact hret (Or.inl rfl) _ _ zd_L_law_441
set_option maxHeartbeats 4000000 in
theorem zw_L_law_417 {p : Program} {l : Launch} {e : Env} {R : Room} {s : State} {m : MethodId} {args : Array Value} {below : List Frame} {meth : Method} {c : Code} {Q : State → Prop} {h0 : Nat} {D : va_G} {dA : Nat → ClassId} {tb : Nat → Nat} {c0 k0 : Nat} {z : zh_S} {r : Int32} (X : zg_X p s m args meth c ze_L_law 4 zr_L (some .boolean) h0 D dA tb) (hR : zg_R R c0 k0 z) (hF : 21 ≤ R.frames ∧ 495 ≤ R.locals) (hret : (r = 0 ∨ r = 1) → ∀ (pc : Nat) (lv : List (Nat × Value)), decode ze_L_law pc = .ok (.ireturn, 1) → zg_G p l e R s m args below meth c Q h0 D dA 4 c0 k0 z z pc lv [.int r]) (n : Nat) {b : Nat} (xs : Nat → Int32) (L : Nat) (hXs : va_X b L xs s s.heap) (hbl : b < s.heap.size) (hbA : ¬ h0 ≤ b) (r18 : zh_S → Nat → Nat → Int32 → Option (Int32 × zh_S)) (hr18 : ∀ (s0 : zh_S) (a1 : Nat) (a2 : Nat) (i3 : Int32), r18 s0 a1 a2 i3 = some (r, z) → zg_G p l e R s m args below meth c Q h0 D dA 4 c0 k0 z s0 18 [(0, .ref b), (1, .ref (h0 + a1)), (2, .ref (h0 + a2)), (3, .int i3)] []) : ∀ (s0 : zh_S) (a1 : Nat) (a2 : Nat) (i3 : Int32) (at0 : Nat) (it1 : Int32), zb_L_law_417 n xs L r18 s0 a1 a2 i3 at0 it1 = some (r, z) → zg_G p l e R s m args below meth c Q h0 D dA 4 c0 k0 z s0 417 [(0, .ref b), (1, .ref (h0 + a1)), (2, .ref (h0 + a2)), (3, .int i3)] [.int it1, .ref (h0 + at0)] := by
  obtain ⟨hx, hb, hml, hown, htT, hrt, hlk, x00, hIn⟩ := id X
  have hK := hIn.2.1
  have hT := hIn.2.2.1
  have hNe := hIn.2.2.2
  intro s0 a1 a2 i3 at0 it1 hf
  rw [zb_L_law_417] at hf
  obtain ⟨h_2, hf⟩ := zx_ck hf
  obtain ⟨i_3, s_1, hq, hf⟩ := zx_b hf
  refine zg_call (pc' := 420) (y := s_1) (rv := (some (.int i_3))) (rest := []) X hR (zm_V_check hq) (fun H locs ls k j hsz hI hU hk => va_runV (As := [.int it1]) (rest := []) ⟨hx, hb, hml, hown, htT⟩ (zc_V_check l h0 D dA tb n hq) (cwV 1 htT (zw_gV zt_486 zt_487 zt_488 zt_64 zt_489) rfl rfl rfl (by decide +kernel) ⟨Nat.le_trans (Nat.le_of_ble_eq_true rfl) hF.1, Nat.le_trans (Nat.le_of_ble_eq_true rfl) hF.2⟩) ⟨(zg_pre hU).1, zg_recv hK hI h_2 rfl, (zg_pre hU).2⟩ rfl rfl hsz rfl (lv_room (Nat.le_of_ble_eq_true rfl)) zd_L_law_417 hk) rfl ?_
  refine zg_1 (pc' := 421) (fun _ _ _ _ _ hl w => lv_aload_n hx hb zd_L_law_420 rfl (lv_at hl 2 rfl) w) ?_
  refine zg_1 (pc' := 422) (fun _ _ _ _ _ hl w => lv_aload_n hx hb zd_L_law_421 rfl (lv_at hl 0 rfl) w) ?_
  refine zg_1 (pc' := 423) (fun _ _ _ _ _ hl w => lv_iload_n hx hb zd_L_law_422 rfl (lv_at hl 3 rfl) w) ?_
  refine zg_1 (pc' := 424) (fun _ _ _ _ _ hl w => lv_iconst (v := (1 : Int32)) hx hb zd_L_law_423 (by decide) w) ?_
  refine zg_1 (pc' := 425) (fun _ _ _ _ _ hl w => lv_iadd hx hb zd_L_law_424 w) ?_
  obtain ⟨h_4, hf⟩ := zx_ck hf
  refine zg_3 (pc' := 426) (fun _ _ _ _ _ hS hl w => va_sld hx hb hXs hbl hbA hS (zh_in h_4.1 h_4.2) zd_L_law_425 w) ?_
  refine zg_2 (pc1 := 433) (pc2 := 429) (Classical.em _) (fun _ _ _ _ _ w1 w2 => lv_if_eq hx hb zd_L_law_426 (by decide) w1 w2) (fun hc => ?_) (fun hc => ?_)
  · rw [if_pos hc] at hf
    refine zg_1 (pc' := 434) (fun _ _ _ _ _ hl w => lv_iconst (v := (0 : Int32)) hx hb zd_L_law_433 (by decide) w) ?_
    exact zw_L_law_434 X hR hF hret n xs L hXs hbl hbA _ hr18 s_1 a1 a2 i3 i_3 a2 (0 : Int32) hf
  · rw [if_neg hc] at hf
    refine zg_1 (pc' := 430) (fun _ _ _ _ _ hl w => lv_iconst (v := (1 : Int32)) hx hb zd_L_law_429 (by decide) w) ?_
    refine zg_1 (pc' := 434) (fun _ _ _ _ _ hl w => lv_goto hx hb zd_L_law_430 (by decide) w) ?_
    exact zw_L_law_434 X hR hF hret n xs L hXs hbl hbA _ hr18 s_1 a1 a2 i3 i_3 a2 (1 : Int32) hf
set_option maxHeartbeats 4000000 in
theorem zw_L_law_624 {p : Program} {l : Launch} {e : Env} {R : Room} {s : State} {m : MethodId} {args : Array Value} {below : List Frame} {meth : Method} {c : Code} {Q : State → Prop} {h0 : Nat} {D : va_G} {dA : Nat → ClassId} {tb : Nat → Nat} {c0 k0 : Nat} {z : zh_S} {r : Int32} (X : zg_X p s m args meth c ze_L_law 4 zr_L (some .boolean) h0 D dA tb) (hR : zg_R R c0 k0 z) (hF : 21 ≤ R.frames ∧ 495 ≤ R.locals) (hret : (r = 0 ∨ r = 1) → ∀ (pc : Nat) (lv : List (Nat × Value)), decode ze_L_law pc = .ok (.ireturn, 1) → zg_G p l e R s m args below meth c Q h0 D dA 4 c0 k0 z z pc lv [.int r]) (n : Nat) {b : Nat} (xs : Nat → Int32) (L : Nat) (hXs : va_X b L xs s s.heap) (hbl : b < s.heap.size) (hbA : ¬ h0 ≤ b) (r18 : zh_S → Nat → Nat → Int32 → Option (Int32 × zh_S)) (hr18 : ∀ (s0 : zh_S) (a1 : Nat) (a2 : Nat) (i3 : Int32), r18 s0 a1 a2 i3 = some (r, z) → zg_G p l e R s m args below meth c Q h0 D dA 4 c0 k0 z s0 18 [(0, .ref b), (1, .ref (h0 + a1)), (2, .ref (h0 + a2)), (3, .int i3)] []) : ∀ (s0 : zh_S) (a1 : Nat) (a2 : Nat) (i3 : Int32) (it0 : Int32) (at1 : Nat) (it2 : Int32) (jt3 : Int64) (it4 : Int32) (it5 : Int32), zb_L_law_624 n xs L r18 s0 a1 a2 i3 it0 at1 it2 jt3 it4 it5 = some (r, z) → zg_G p l e R s m args below meth c Q h0 D dA 4 c0 k0 z s0 624 [(0, .ref b), (1, .ref (h0 + a1)), (2, .ref (h0 + a2)), (3, .int i3)] [.int it5, .int it4, .long jt3, .int it2, .ref (h0 + at1), .int it0] := by
  obtain ⟨hx, hb, hml, hown, htT, hrt, hlk, x00, hIn⟩ := id X
  have hK := hIn.2.1
  have hT := hIn.2.2.1
  have hNe := hIn.2.2.2
  intro s0 a1 a2 i3 it0 at1 it2 jt3 it4 it5 hf
  rw [zb_L_law_624] at hf
  obtain ⟨h_2, hf⟩ := zx_ck hf
  obtain ⟨i_3, s_1, hq, hf⟩ := zx_b hf
  refine zg_call (pc' := 627) (y := s_1) (rv := (some (.int i_3))) (rest := [.int it0]) X hR (zm_M_validate hq) (fun H locs ls k j hsz hI hU hk => va_runV (As := [.int it2, .long jt3, .int it4, .int it5]) (rest := [.int it0]) ⟨hx, hb, hml, hown, htT⟩ (zc_M_validate l h0 D dA tb n hq) (cwV 4 htT (zw_gV zt_1074 zt_1075 zt_1076 zt_71 zt_1077) rfl rfl rfl (by decide +kernel) ⟨Nat.le_trans (Nat.le_of_ble_eq_true rfl) hF.1, Nat.le_trans (Nat.le_of_ble_eq_true rfl) hF.2⟩) ⟨(zg_pre hU).1, zg_recv hK hI h_2 rfl, (zg_pre hU).2⟩ rfl rfl hsz rfl (lv_room (Nat.le_of_ble_eq_true rfl)) zd_L_law_624 hk) rfl ?_
  refine zg_2 (pc1 := 849) (pc2 := 630) (Classical.em _) (fun _ _ _ _ _ w1 w2 => lv_icmp_eq hx hb zd_L_law_627 (by decide) w1 w2) (fun hc => ?_) (fun hc => ?_)
  · rw [if_pos hc] at hf
    exact zw_L_law_849 X hR hF hret n xs L hXs hbl hbA _ hr18 s_1 a1 a2 i3 hf
  · rw [if_neg hc] at hf
    refine zg_1 (pc' := 631) (fun _ _ _ _ _ hl w => lv_iconst (v := (0 : Int32)) hx hb zd_L_law_630 (by decide) w) ?_
    obtain ⟨rfl, rfl⟩ := zx_r2 hf
    exact hret (Or.inl rfl) _ _ zd_L_law_631
set_option maxHeartbeats 4000000 in
theorem zw_L_law_577 {p : Program} {l : Launch} {e : Env} {R : Room} {s : State} {m : MethodId} {args : Array Value} {below : List Frame} {meth : Method} {c : Code} {Q : State → Prop} {h0 : Nat} {D : va_G} {dA : Nat → ClassId} {tb : Nat → Nat} {c0 k0 : Nat} {z : zh_S} {r : Int32} (X : zg_X p s m args meth c ze_L_law 4 zr_L (some .boolean) h0 D dA tb) (hR : zg_R R c0 k0 z) (hF : 21 ≤ R.frames ∧ 495 ≤ R.locals) (hret : (r = 0 ∨ r = 1) → ∀ (pc : Nat) (lv : List (Nat × Value)), decode ze_L_law pc = .ok (.ireturn, 1) → zg_G p l e R s m args below meth c Q h0 D dA 4 c0 k0 z z pc lv [.int r]) (n : Nat) {b : Nat} (xs : Nat → Int32) (L : Nat) (hXs : va_X b L xs s s.heap) (hbl : b < s.heap.size) (hbA : ¬ h0 ≤ b) (r18 : zh_S → Nat → Nat → Int32 → Option (Int32 × zh_S)) (hr18 : ∀ (s0 : zh_S) (a1 : Nat) (a2 : Nat) (i3 : Int32), r18 s0 a1 a2 i3 = some (r, z) → zg_G p l e R s m args below meth c Q h0 D dA 4 c0 k0 z s0 18 [(0, .ref b), (1, .ref (h0 + a1)), (2, .ref (h0 + a2)), (3, .int i3)] []) : ∀ (s0 : zh_S) (a1 : Nat) (a2 : Nat) (i3 : Int32) (at0 : Nat) (it1 : Int32) (jt2 : Int64) (it3 : Int32) (it4 : Int32), zb_L_law_577 n xs L r18 s0 a1 a2 i3 at0 it1 jt2 it3 it4 = some (r, z) → zg_G p l e R s m args below meth c Q h0 D dA 4 c0 k0 z s0 577 [(0, .ref b), (1, .ref (h0 + a1)), (2, .ref (h0 + a2)), (3, .int i3)] [.int it4, .int it3, .long jt2, .int it1, .ref (h0 + at0)] := by
  obtain ⟨hx, hb, hml, hown, htT, hrt, hlk, x00, hIn⟩ := id X
  have hK := hIn.2.1
  have hT := hIn.2.2.1
  have hNe := hIn.2.2.2
  intro s0 a1 a2 i3 at0 it1 jt2 it3 it4 hf
  rw [zb_L_law_577] at hf
  obtain ⟨h_2, hf⟩ := zx_ck hf
  obtain ⟨i_3, s_1, hq, hf⟩ := zx_b hf
  refine zg_call (pc' := 580) (y := s_1) (rv := (some (.int i_3))) (rest := []) X hR (zm_V_validate hq) (fun H locs ls k j hsz hI hU hk => va_runV (As := [.int it1, .long jt2, .int it3, .int it4]) (rest := []) ⟨hx, hb, hml, hown, htT⟩ (zc_V_validate l h0 D dA tb n hq) (cwV 4 htT (zw_gV zt_645 zt_646 zt_647 zt_64 zt_648) rfl rfl rfl (by decide +kernel) ⟨Nat.le_trans (Nat.le_of_ble_eq_true rfl) hF.1, Nat.le_trans (Nat.le_of_ble_eq_true rfl) hF.2⟩) ⟨(zg_pre hU).1, zg_recv hK hI h_2 rfl, (zg_pre hU).2⟩ rfl rfl hsz rfl (lv_room (Nat.le_of_ble_eq_true rfl)) zd_L_law_577 hk) rfl ?_
  refine zg_1 (pc' := 581) (fun _ _ _ _ _ hl w => lv_aload_n hx hb zd_L_law_580 rfl (lv_at hl 2 rfl) w) ?_
  refine zg_1 (pc' := 582) (fun _ _ _ _ _ hl w => lv_aload_n hx hb zd_L_law_581 rfl (lv_at hl 0 rfl) w) ?_
  refine zg_1 (pc' := 583) (fun _ _ _ _ _ hl w => lv_iload_n hx hb zd_L_law_582 rfl (lv_at hl 3 rfl) w) ?_
  refine zg_1 (pc' := 584) (fun _ _ _ _ _ hl w => lv_iconst (v := (1 : Int32)) hx hb zd_L_law_583 (by decide) w) ?_
  refine zg_1 (pc' := 585) (fun _ _ _ _ _ hl w => lv_iadd hx hb zd_L_law_584 w) ?_
  obtain ⟨h_4, hf⟩ := zx_ck hf
  refine zg_3 (pc' := 586) (fun _ _ _ _ _ hS hl w => va_sld hx hb hXs hbl hbA hS (zh_in h_4.1 h_4.2) zd_L_law_585 w) ?_
  refine zg_1 (pc' := 587) (fun _ _ _ _ _ hl w => lv_aload_n hx hb zd_L_law_586 rfl (lv_at hl 0 rfl) w) ?_
  refine zg_1 (pc' := 588) (fun _ _ _ _ _ hl w => lv_iload_n hx hb zd_L_law_587 rfl (lv_at hl 3 rfl) w) ?_
  refine zg_1 (pc' := 589) (fun _ _ _ _ _ hl w => lv_iconst (v := (2 : Int32)) hx hb zd_L_law_588 (by decide) w) ?_
  refine zg_1 (pc' := 590) (fun _ _ _ _ _ hl w => lv_iadd hx hb zd_L_law_589 w) ?_
  obtain ⟨h_5, hf⟩ := zx_ck hf
  refine zg_3 (pc' := 591) (fun _ _ _ _ _ hS hl w => va_sld hx hb hXs hbl hbA hS (zh_in h_5.1 h_5.2) zd_L_law_590 w) ?_
  refine zg_1 (pc' := 592) (fun _ _ _ _ _ hl w => lv_i2l (v := (xs (i3 + (2 : Int32)).toNatClampNeg).toInt64) hx hb zd_L_law_591 rfl w) ?_
  refine zg_1 (pc' := 594) (fun _ _ _ _ _ hl w => lv_bipush (v := (32 : Int32)) hx hb zd_L_law_592 (by decide) w) ?_
  refine zg_1 (pc' := 595) (fun _ _ _ _ _ hl w => lv_lshl (v := ((xs (i3 + (2 : Int32)).toNatClampNeg).toInt64 <<< ((32 : Int32).toInt64 &&& 63))) hx hb zd_L_law_594 rfl w) ?_
  refine zg_1 (pc' := 596) (fun _ _ _ _ _ hl w => lv_aload_n hx hb zd_L_law_595 rfl (lv_at hl 0 rfl) w) ?_
  refine zg_1 (pc' := 597) (fun _ _ _ _ _ hl w => lv_iload_n hx hb zd_L_law_596 rfl (lv_at hl 3 rfl) w) ?_
  refine zg_1 (pc' := 598) (fun _ _ _ _ _ hl w => lv_iconst (v := (3 : Int32)) hx hb zd_L_law_597 (by decide) w) ?_
  refine zg_1 (pc' := 599) (fun _ _ _ _ _ hl w => lv_iadd hx hb zd_L_law_598 w) ?_
  obtain ⟨h_6, hf⟩ := zx_ck hf
  refine zg_3 (pc' := 600) (fun _ _ _ _ _ hS hl w => va_sld hx hb hXs hbl hbA hS (zh_in h_6.1 h_6.2) zd_L_law_599 w) ?_
  refine zg_1 (pc' := 601) (fun _ _ _ _ _ hl w => lv_i2l (v := (xs (i3 + (3 : Int32)).toNatClampNeg).toInt64) hx hb zd_L_law_600 rfl w) ?_
  refine zg_1 (pc' := 604) (fun _ _ _ _ _ hl w => lv_ldc2 (v := (4294967295 : Int64)) hx hb hown (htT _ zt_1130) zd_L_law_601 w) ?_
  refine zg_1 (pc' := 605) (fun _ _ _ _ _ hl w => lv_land hx hb zd_L_law_604 w) ?_
  refine zg_1 (pc' := 606) (fun _ _ _ _ _ hl w => lv_lor hx hb zd_L_law_605 w) ?_
  refine zg_1 (pc' := 607) (fun _ _ _ _ _ hl w => lv_aload_n hx hb zd_L_law_606 rfl (lv_at hl 0 rfl) w) ?_
  refine zg_1 (pc' := 608) (fun _ _ _ _ _ hl w => lv_iload_n hx hb zd_L_law_607 rfl (lv_at hl 3 rfl) w) ?_
  refine zg_1 (pc' := 609) (fun _ _ _ _ _ hl w => lv_iconst (v := (4 : Int32)) hx hb zd_L_law_608 (by decide) w) ?_
  refine zg_1 (pc' := 610) (fun _ _ _ _ _ hl w => lv_iadd hx hb zd_L_law_609 w) ?_
  obtain ⟨h_7, hf⟩ := zx_ck hf
  refine zg_3 (pc' := 611) (fun _ _ _ _ _ hS hl w => va_sld hx hb hXs hbl hbA hS (zh_in h_7.1 h_7.2) zd_L_law_610 w) ?_
  refine zg_1 (pc' := 612) (fun _ _ _ _ _ hl w => lv_aload_n hx hb zd_L_law_611 rfl (lv_at hl 0 rfl) w) ?_
  refine zg_1 (pc' := 613) (fun _ _ _ _ _ hl w => lv_iload_n hx hb zd_L_law_612 rfl (lv_at hl 3 rfl) w) ?_
  refine zg_1 (pc' := 614) (fun _ _ _ _ _ hl w => lv_iconst (v := (5 : Int32)) hx hb zd_L_law_613 (by decide) w) ?_
  refine zg_1 (pc' := 615) (fun _ _ _ _ _ hl w => lv_iadd hx hb zd_L_law_614 w) ?_
  obtain ⟨h_8, hf⟩ := zx_ck hf
  refine zg_3 (pc' := 616) (fun _ _ _ _ _ hS hl w => va_sld hx hb hXs hbl hbA hS (zh_in h_8.1 h_8.2) zd_L_law_615 w) ?_
  refine zg_2 (pc1 := 623) (pc2 := 619) (Classical.em _) (fun _ _ _ _ _ w1 w2 => lv_if_eq hx hb zd_L_law_616 (by decide) w1 w2) (fun hc => ?_) (fun hc => ?_)
  · rw [if_pos hc] at hf
    refine zg_1 (pc' := 624) (fun _ _ _ _ _ hl w => lv_iconst (v := (0 : Int32)) hx hb zd_L_law_623 (by decide) w) ?_
    exact zw_L_law_624 X hR hF hret n xs L hXs hbl hbA _ hr18 s_1 a1 a2 i3 i_3 a2 (xs (i3 + (1 : Int32)).toNatClampNeg) (((xs (i3 + (2 : Int32)).toNatClampNeg).toInt64 <<< ((32 : Int32).toInt64 &&& 63)) ||| ((xs (i3 + (3 : Int32)).toNatClampNeg).toInt64 &&& (4294967295 : Int64))) (xs (i3 + (4 : Int32)).toNatClampNeg) (0 : Int32) hf
  · rw [if_neg hc] at hf
    refine zg_1 (pc' := 620) (fun _ _ _ _ _ hl w => lv_iconst (v := (1 : Int32)) hx hb zd_L_law_619 (by decide) w) ?_
    refine zg_1 (pc' := 624) (fun _ _ _ _ _ hl w => lv_goto hx hb zd_L_law_620 (by decide) w) ?_
    exact zw_L_law_624 X hR hF hret n xs L hXs hbl hbA _ hr18 s_1 a1 a2 i3 i_3 a2 (xs (i3 + (1 : Int32)).toNatClampNeg) (((xs (i3 + (2 : Int32)).toNatClampNeg).toInt64 <<< ((32 : Int32).toInt64 &&& 63)) ||| ((xs (i3 + (3 : Int32)).toNatClampNeg).toInt64 &&& (4294967295 : Int64))) (xs (i3 + (4 : Int32)).toNatClampNeg) (1 : Int32) hf
set_option maxHeartbeats 4000000 in
theorem zw_L_law_18 {p : Program} {l : Launch} {e : Env} {R : Room} {s : State} {m : MethodId} {args : Array Value} {below : List Frame} {meth : Method} {c : Code} {Q : State → Prop} {h0 : Nat} {D : va_G} {dA : Nat → ClassId} {tb : Nat → Nat} {c0 k0 : Nat} {z : zh_S} {r : Int32} (X : zg_X p s m args meth c ze_L_law 4 zr_L (some .boolean) h0 D dA tb) (hR : zg_R R c0 k0 z) (hF : 21 ≤ R.frames ∧ 495 ≤ R.locals) (hret : (r = 0 ∨ r = 1) → ∀ (pc : Nat) (lv : List (Nat × Value)), decode ze_L_law pc = .ok (.ireturn, 1) → zg_G p l e R s m args below meth c Q h0 D dA 4 c0 k0 z z pc lv [.int r]) (n : Nat) {b : Nat} (xs : Nat → Int32) (L : Nat) (hXs : va_X b L xs s s.heap) (hbl : b < s.heap.size) (hbA : ¬ h0 ≤ b) (k : Nat) : ∀ (s0 : zh_S) (a1 : Nat) (a2 : Nat) (i3 : Int32), zl_L_law_18 n xs L k s0 a1 a2 i3 = some (r, z) → zg_G p l e R s m args below meth c Q h0 D dA 4 c0 k0 z s0 18 [(0, .ref b), (1, .ref (h0 + a1)), (2, .ref (h0 + a2)), (3, .int i3)] [] := by
  obtain ⟨hx, hb, hml, hown, htT, hrt, hlk, x00, hIn⟩ := id X
  have hK := hIn.2.1
  have hT := hIn.2.2.1
  have hNe := hIn.2.2.2
  induction k with
  | zero => intro s0 a1 a2 i3 hf; cases hf
  | succ k ih =>
    intro s0 a1 a2 i3 hf
    rw [zl_L_law_18] at hf
    refine zg_1 (pc' := 19) (fun _ _ _ _ _ hl w => lv_iload_n hx hb zd_L_law_18 rfl (lv_at hl 3 rfl) w) ?_
    refine zg_1 (pc' := 20) (fun _ _ _ _ _ hl w => lv_aload_n hx hb zd_L_law_19 rfl (lv_at hl 0 rfl) w) ?_
    refine zg_3 (pc' := 21) (fun _ _ _ _ _ hS hl w => va_slen hx hb hXs hbl hbA hS zd_L_law_20 w) ?_
    refine zg_1 (pc' := 23) (fun _ _ _ _ _ hl w => lv_bipush (v := (8 : Int32)) hx hb zd_L_law_21 (by decide) w) ?_
    refine zg_1 (pc' := 24) (fun _ _ _ _ _ hl w => lv_isub hx hb zd_L_law_23 w) ?_
    refine zg_2 (pc1 := 855) (pc2 := 27) (Classical.em _) (fun _ _ _ _ _ w1 w2 => lv_icmp_gt hx hb zd_L_law_24 (by decide) w1 w2) (fun hc => ?_) (fun hc => ?_)
    · rw [if_pos hc] at hf
      refine zg_1 (pc' := 856) (fun _ _ _ _ _ hl w => lv_iconst (v := (1 : Int32)) hx hb zd_L_law_855 (by decide) w) ?_
      obtain ⟨rfl, rfl⟩ := zx_r2 hf
      exact hret (Or.inr rfl) _ _ zd_L_law_856
    · rw [if_neg hc] at hf
      refine zg_1 (pc' := 28) (fun _ _ _ _ _ hl w => lv_aload_n hx hb zd_L_law_27 rfl (lv_at hl 0 rfl) w) ?_
      refine zg_1 (pc' := 29) (fun _ _ _ _ _ hl w => lv_iload_n hx hb zd_L_law_28 rfl (lv_at hl 3 rfl) w) ?_
      obtain ⟨h_1, hf⟩ := zx_ck hf
      refine zg_3 (pc' := 30) (fun _ _ _ _ _ hS hl w => va_sld hx hb hXs hbl hbA hS (zh_in h_1.1 h_1.2) zd_L_law_29 w) ?_
      refine zg_1 (pc' := 32) (fun _ _ _ _ _ hl w => lv_bipush (v := (31 : Int32)) hx hb zd_L_law_30 (by decide) w) ?_
      refine zg_1 (pc' := 33) (fun _ _ _ _ _ hl w => lv_iand hx hb zd_L_law_32 w) ?_
      by_cases hk0 : ((xs i3.toNatClampNeg) &&& (31 : Int32)) = 0
      · rw [if_pos hk0] at hf
        refine zg_1 (pc' := 120) (fun _ _ _ _ _ hl w => lv_tableIn hx hb zd_L_law_33 (by rw [hk0]; decide) (by rw [hk0]; decide) (by rw [hk0]; rfl) (by decide) w) ?_
        refine zg_1 (pc' := 121) (fun _ _ _ _ _ hl w => lv_aload_n hx hb zd_L_law_120 rfl (lv_at hl 1 rfl) w) ?_
        refine zg_1 (pc' := 122) (fun _ _ _ _ _ hl w => lv_aload_n hx hb zd_L_law_121 rfl (lv_at hl 0 rfl) w) ?_
        refine zg_1 (pc' := 123) (fun _ _ _ _ _ hl w => lv_iload_n hx hb zd_L_law_122 rfl (lv_at hl 3 rfl) w) ?_
        refine zg_1 (pc' := 124) (fun _ _ _ _ _ hl w => lv_iconst (v := (1 : Int32)) hx hb zd_L_law_123 (by decide) w) ?_
        refine zg_1 (pc' := 125) (fun _ _ _ _ _ hl w => lv_iadd hx hb zd_L_law_124 w) ?_
        obtain ⟨h_2, hf⟩ := zx_ck hf
        refine zg_3 (pc' := 126) (fun _ _ _ _ _ hS hl w => va_sld hx hb hXs hbl hbA hS (zh_in h_2.1 h_2.2) zd_L_law_125 w) ?_
        obtain ⟨h_4, hf⟩ := zx_ck hf
        obtain ⟨i_5, s_3, hq, hf⟩ := zx_b hf
        refine zg_call (pc' := 129) (y := s_3) (rv := (some (.int i_5))) (rest := []) X hR (zm_V_put hq) (fun H locs ls k j hsz hI hU hk => va_runV (As := [.int (xs (i3 + (1 : Int32)).toNatClampNeg)]) (rest := []) ⟨hx, hb, hml, hown, htT⟩ (zc_V_put l h0 D dA tb n hq) (cwV 1 htT (zw_gV zt_315 zt_316 zt_317 zt_64 zt_318) rfl rfl rfl (by decide +kernel) ⟨Nat.le_trans (Nat.le_of_ble_eq_true rfl) hF.1, Nat.le_trans (Nat.le_of_ble_eq_true rfl) hF.2⟩) ⟨(zg_pre hU).1, zg_recv hK hI h_4 rfl, (zg_pre hU).2⟩ rfl rfl hsz rfl (lv_room (Nat.le_of_ble_eq_true rfl)) zd_L_law_126 hk) rfl ?_
        refine zg_1 (pc' := 130) (fun _ _ _ _ _ hl w => lv_aload_n hx hb zd_L_law_129 rfl (lv_at hl 2 rfl) w) ?_
        refine zg_1 (pc' := 131) (fun _ _ _ _ _ hl w => lv_aload_n hx hb zd_L_law_130 rfl (lv_at hl 0 rfl) w) ?_
        refine zg_1 (pc' := 132) (fun _ _ _ _ _ hl w => lv_iload_n hx hb zd_L_law_131 rfl (lv_at hl 3 rfl) w) ?_
        refine zg_1 (pc' := 133) (fun _ _ _ _ _ hl w => lv_iconst (v := (1 : Int32)) hx hb zd_L_law_132 (by decide) w) ?_
        refine zg_1 (pc' := 134) (fun _ _ _ _ _ hl w => lv_iadd hx hb zd_L_law_133 w) ?_
        obtain ⟨h_6, hf⟩ := zx_ck hf
        refine zg_3 (pc' := 135) (fun _ _ _ _ _ hS hl w => va_sld hx hb hXs hbl hbA hS (zh_in h_6.1 h_6.2) zd_L_law_134 w) ?_
        obtain ⟨h_8, hf⟩ := zx_ck hf
        obtain ⟨i_9, s_7, hq, hf⟩ := zx_b hf
        refine zg_call (pc' := 138) (y := s_7) (rv := (some (.int i_9))) (rest := [.int i_5]) X hR (zm_M_put hq) (fun H locs ls k j hsz hI hU hk => va_runV (As := [.int (xs (i3 + (1 : Int32)).toNatClampNeg)]) (rest := [.int i_5]) ⟨hx, hb, hml, hown, htT⟩ (zc_M_put l h0 D dA tb n hq) (cwV 1 htT (zw_gV zt_913 zt_914 zt_915 zt_71 zt_916) rfl rfl rfl (by decide +kernel) ⟨Nat.le_trans (Nat.le_of_ble_eq_true rfl) hF.1, Nat.le_trans (Nat.le_of_ble_eq_true rfl) hF.2⟩) ⟨(zg_pre hU).1, zg_recv hK hI h_8 rfl, (zg_pre hU).2⟩ rfl rfl hsz rfl (lv_room (Nat.le_of_ble_eq_true rfl)) zd_L_law_135 hk) rfl ?_
        refine zg_2 (pc1 := 849) (pc2 := 141) (Classical.em _) (fun _ _ _ _ _ w1 w2 => lv_icmp_eq hx hb zd_L_law_138 (by decide) w1 w2) (fun hc => ?_) (fun hc => ?_)
        · rw [if_pos hc] at hf
          exact zw_L_law_849 X hR hF hret n xs L hXs hbl hbA _ ih s_7 a1 a2 i3 hf
        · rw [if_neg hc] at hf
          refine zg_1 (pc' := 142) (fun _ _ _ _ _ hl w => lv_iconst (v := (0 : Int32)) hx hb zd_L_law_141 (by decide) w) ?_
          obtain ⟨rfl, rfl⟩ := zx_r2 hf
          exact hret (Or.inl rfl) _ _ zd_L_law_142
      rw [if_neg hk0] at hf
      by_cases hk1 : ((xs i3.toNatClampNeg) &&& (31 : Int32)) = 1
      · rw [if_pos hk1] at hf
        refine zg_1 (pc' := 143) (fun _ _ _ _ _ hl w => lv_tableIn hx hb zd_L_law_33 (by rw [hk1]; decide) (by rw [hk1]; decide) (by rw [hk1]; rfl) (by decide) w) ?_
        refine zg_1 (pc' := 144) (fun _ _ _ _ _ hl w => lv_aload_n hx hb zd_L_law_143 rfl (lv_at hl 1 rfl) w) ?_
        refine zg_1 (pc' := 145) (fun _ _ _ _ _ hl w => lv_aload_n hx hb zd_L_law_144 rfl (lv_at hl 0 rfl) w) ?_
        refine zg_1 (pc' := 146) (fun _ _ _ _ _ hl w => lv_iload_n hx hb zd_L_law_145 rfl (lv_at hl 3 rfl) w) ?_
        refine zg_1 (pc' := 147) (fun _ _ _ _ _ hl w => lv_iconst (v := (1 : Int32)) hx hb zd_L_law_146 (by decide) w) ?_
        refine zg_1 (pc' := 148) (fun _ _ _ _ _ hl w => lv_iadd hx hb zd_L_law_147 w) ?_
        obtain ⟨h_10, hf⟩ := zx_ck hf
        refine zg_3 (pc' := 149) (fun _ _ _ _ _ hS hl w => va_sld hx hb hXs hbl hbA hS (zh_in h_10.1 h_10.2) zd_L_law_148 w) ?_
        refine zg_1 (pc' := 150) (fun _ _ _ _ _ hl w => lv_aload_n hx hb zd_L_law_149 rfl (lv_at hl 0 rfl) w) ?_
        refine zg_1 (pc' := 151) (fun _ _ _ _ _ hl w => lv_iload_n hx hb zd_L_law_150 rfl (lv_at hl 3 rfl) w) ?_
        refine zg_1 (pc' := 152) (fun _ _ _ _ _ hl w => lv_iconst (v := (2 : Int32)) hx hb zd_L_law_151 (by decide) w) ?_
        refine zg_1 (pc' := 153) (fun _ _ _ _ _ hl w => lv_iadd hx hb zd_L_law_152 w) ?_
        obtain ⟨h_11, hf⟩ := zx_ck hf
        refine zg_3 (pc' := 154) (fun _ _ _ _ _ hS hl w => va_sld hx hb hXs hbl hbA hS (zh_in h_11.1 h_11.2) zd_L_law_153 w) ?_
        obtain ⟨h_13, hf⟩ := zx_ck hf
        obtain ⟨i_14, s_12, hq, hf⟩ := zx_b hf
        refine zg_call (pc' := 157) (y := s_12) (rv := (some (.int i_14))) (rest := []) X hR (zm_V_poke hq) (fun H locs ls k j hsz hI hU hk => va_runV (As := [.int (xs (i3 + (1 : Int32)).toNatClampNeg), .int (xs (i3 + (2 : Int32)).toNatClampNeg)]) (rest := []) ⟨hx, hb, hml, hown, htT⟩ (zc_V_poke l h0 D dA tb n hq) (cwV 2 htT (zw_gV zt_326 zt_327 zt_328 zt_64 zt_329) rfl rfl rfl (by decide +kernel) ⟨Nat.le_trans (Nat.le_of_ble_eq_true rfl) hF.1, Nat.le_trans (Nat.le_of_ble_eq_true rfl) hF.2⟩) ⟨(zg_pre hU).1, zg_recv hK hI h_13 rfl, (zg_pre hU).2⟩ rfl rfl hsz rfl (lv_room (Nat.le_of_ble_eq_true rfl)) zd_L_law_154 hk) rfl ?_
        refine zg_1 (pc' := 158) (fun _ _ _ _ _ hl w => lv_aload_n hx hb zd_L_law_157 rfl (lv_at hl 2 rfl) w) ?_
        refine zg_1 (pc' := 159) (fun _ _ _ _ _ hl w => lv_aload_n hx hb zd_L_law_158 rfl (lv_at hl 0 rfl) w) ?_
        refine zg_1 (pc' := 160) (fun _ _ _ _ _ hl w => lv_iload_n hx hb zd_L_law_159 rfl (lv_at hl 3 rfl) w) ?_
        refine zg_1 (pc' := 161) (fun _ _ _ _ _ hl w => lv_iconst (v := (1 : Int32)) hx hb zd_L_law_160 (by decide) w) ?_
        refine zg_1 (pc' := 162) (fun _ _ _ _ _ hl w => lv_iadd hx hb zd_L_law_161 w) ?_
        obtain ⟨h_15, hf⟩ := zx_ck hf
        refine zg_3 (pc' := 163) (fun _ _ _ _ _ hS hl w => va_sld hx hb hXs hbl hbA hS (zh_in h_15.1 h_15.2) zd_L_law_162 w) ?_
        refine zg_1 (pc' := 164) (fun _ _ _ _ _ hl w => lv_aload_n hx hb zd_L_law_163 rfl (lv_at hl 0 rfl) w) ?_
        refine zg_1 (pc' := 165) (fun _ _ _ _ _ hl w => lv_iload_n hx hb zd_L_law_164 rfl (lv_at hl 3 rfl) w) ?_
        refine zg_1 (pc' := 166) (fun _ _ _ _ _ hl w => lv_iconst (v := (2 : Int32)) hx hb zd_L_law_165 (by decide) w) ?_
        refine zg_1 (pc' := 167) (fun _ _ _ _ _ hl w => lv_iadd hx hb zd_L_law_166 w) ?_
        obtain ⟨h_16, hf⟩ := zx_ck hf
        refine zg_3 (pc' := 168) (fun _ _ _ _ _ hS hl w => va_sld hx hb hXs hbl hbA hS (zh_in h_16.1 h_16.2) zd_L_law_167 w) ?_
        obtain ⟨h_18, hf⟩ := zx_ck hf
        obtain ⟨i_19, s_17, hq, hf⟩ := zx_b hf
        refine zg_call (pc' := 171) (y := s_17) (rv := (some (.int i_19))) (rest := [.int i_14]) X hR (zm_M_poke hq) (fun H locs ls k j hsz hI hU hk => va_runV (As := [.int (xs (i3 + (1 : Int32)).toNatClampNeg), .int (xs (i3 + (2 : Int32)).toNatClampNeg)]) (rest := [.int i_14]) ⟨hx, hb, hml, hown, htT⟩ (zc_M_poke l h0 D dA tb n hq) (cwV 2 htT (zw_gV zt_918 zt_919 zt_920 zt_71 zt_921) rfl rfl rfl (by decide +kernel) ⟨Nat.le_trans (Nat.le_of_ble_eq_true rfl) hF.1, Nat.le_trans (Nat.le_of_ble_eq_true rfl) hF.2⟩) ⟨(zg_pre hU).1, zg_recv hK hI h_18 rfl, (zg_pre hU).2⟩ rfl rfl hsz rfl (lv_room (Nat.le_of_ble_eq_true rfl)) zd_L_law_168 hk) rfl ?_
        refine zg_2 (pc1 := 849) (pc2 := 174) (Classical.em _) (fun _ _ _ _ _ w1 w2 => lv_icmp_eq hx hb zd_L_law_171 (by decide) w1 w2) (fun hc => ?_) (fun hc => ?_)
        · rw [if_pos hc] at hf
          exact zw_L_law_849 X hR hF hret n xs L hXs hbl hbA _ ih s_17 a1 a2 i3 hf
        · rw [if_neg hc] at hf
          refine zg_1 (pc' := 175) (fun _ _ _ _ _ hl w => lv_iconst (v := (0 : Int32)) hx hb zd_L_law_174 (by decide) w) ?_
          obtain ⟨rfl, rfl⟩ := zx_r2 hf
          exact hret (Or.inl rfl) _ _ zd_L_law_175
      rw [if_neg hk1] at hf
      by_cases hk2 : ((xs i3.toNatClampNeg) &&& (31 : Int32)) = 2
      · rw [if_pos hk2] at hf
        refine zg_1 (pc' := 176) (fun _ _ _ _ _ hl w => lv_tableIn hx hb zd_L_law_33 (by rw [hk2]; decide) (by rw [hk2]; decide) (by rw [hk2]; rfl) (by decide) w) ?_
        refine zg_1 (pc' := 177) (fun _ _ _ _ _ hl w => lv_aload_n hx hb zd_L_law_176 rfl (lv_at hl 1 rfl) w) ?_
        obtain ⟨h_21, hf⟩ := zx_ck hf
        obtain ⟨s_20, hq, hf⟩ := zx_p hf
        refine zg_call (pc' := 180) (y := s_20) (rv := none) (rest := []) X hR (zm_V_clear hq) (fun H locs ls k j hsz hI hU hk => va_runV (As := []) (rest := []) ⟨hx, hb, hml, hown, htT⟩ (zc_V_clear l h0 D dA tb n hq) (cwV 0 htT (zw_gV zt_338 zt_339 zt_340 zt_64 zt_341) rfl rfl rfl (by decide +kernel) ⟨Nat.le_trans (Nat.le_of_ble_eq_true rfl) hF.1, Nat.le_trans (Nat.le_of_ble_eq_true rfl) hF.2⟩) ⟨(zg_pre hU).1, zg_recv hK hI h_21 rfl, (zg_pre hU).2⟩ rfl rfl hsz rfl (lv_room (Nat.le_of_ble_eq_true rfl)) zd_L_law_177 hk) rfl ?_
        refine zg_1 (pc' := 181) (fun _ _ _ _ _ hl w => lv_aload_n hx hb zd_L_law_180 rfl (lv_at hl 2 rfl) w) ?_
        obtain ⟨h_23, hf⟩ := zx_ck hf
        obtain ⟨s_22, hq, hf⟩ := zx_p hf
        refine zg_call (pc' := 184) (y := s_22) (rv := none) (rest := []) X hR (zm_M_clear hq) (fun H locs ls k j hsz hI hU hk => va_runV (As := []) (rest := []) ⟨hx, hb, hml, hown, htT⟩ (zc_M_clear l h0 D dA tb n hq) (cwV 0 htT (zw_gV zt_922 zt_923 zt_924 zt_71 zt_925) rfl rfl rfl (by decide +kernel) ⟨Nat.le_trans (Nat.le_of_ble_eq_true rfl) hF.1, Nat.le_trans (Nat.le_of_ble_eq_true rfl) hF.2⟩) ⟨(zg_pre hU).1, zg_recv hK hI h_23 rfl, (zg_pre hU).2⟩ rfl rfl hsz rfl (lv_room (Nat.le_of_ble_eq_true rfl)) zd_L_law_181 hk) rfl ?_
        refine zg_1 (pc' := 849) (fun _ _ _ _ _ hl w => lv_goto hx hb zd_L_law_184 (by decide) w) ?_
        exact zw_L_law_849 X hR hF hret n xs L hXs hbl hbA _ ih s_22 a1 a2 i3 hf
      rw [if_neg hk2] at hf
      by_cases hk3 : ((xs i3.toNatClampNeg) &&& (31 : Int32)) = 3
      · rw [if_pos hk3] at hf
        refine zg_1 (pc' := 187) (fun _ _ _ _ _ hl w => lv_tableIn hx hb zd_L_law_33 (by rw [hk3]; decide) (by rw [hk3]; decide) (by rw [hk3]; rfl) (by decide) w) ?_
        refine zg_1 (pc' := 188) (fun _ _ _ _ _ hl w => lv_aload_n hx hb zd_L_law_187 rfl (lv_at hl 1 rfl) w) ?_
        refine zg_1 (pc' := 189) (fun _ _ _ _ _ hl w => lv_aload_n hx hb zd_L_law_188 rfl (lv_at hl 0 rfl) w) ?_
        refine zg_1 (pc' := 190) (fun _ _ _ _ _ hl w => lv_iload_n hx hb zd_L_law_189 rfl (lv_at hl 3 rfl) w) ?_
        refine zg_1 (pc' := 191) (fun _ _ _ _ _ hl w => lv_iconst (v := (1 : Int32)) hx hb zd_L_law_190 (by decide) w) ?_
        refine zg_1 (pc' := 192) (fun _ _ _ _ _ hl w => lv_iadd hx hb zd_L_law_191 w) ?_
        obtain ⟨h_24, hf⟩ := zx_ck hf
        refine zg_3 (pc' := 193) (fun _ _ _ _ _ hS hl w => va_sld hx hb hXs hbl hbA hS (zh_in h_24.1 h_24.2) zd_L_law_192 w) ?_
        obtain ⟨h_25, hf⟩ := zx_ck hf
        obtain ⟨i_26, hq, hf⟩ := zx_p hf
        refine zg_call (pc' := 196) (y := s0) (rv := (some (.int i_26))) (rest := []) X hR ⟨Nat.le_refl _, Nat.le_refl _⟩ (fun H locs ls k j hsz hI hU hk => va_runV (As := [.int (xs (i3 + (1 : Int32)).toNatClampNeg)]) (rest := []) ⟨hx, hb, hml, hown, htT⟩ (zc_V_at l h0 D dA tb n hq) (cwV 1 htT (zw_gV zt_346 zt_347 zt_348 zt_64 zt_349) rfl rfl rfl (by decide +kernel) ⟨Nat.le_trans (Nat.le_of_ble_eq_true rfl) hF.1, Nat.le_trans (Nat.le_of_ble_eq_true rfl) hF.2⟩) ⟨(zg_pre hU).1, zg_recv hK hI h_25 rfl, (zg_pre hU).2⟩ rfl rfl hsz rfl (lv_room (Nat.le_of_ble_eq_true rfl)) zd_L_law_193 hk) rfl ?_
        refine zg_1 (pc' := 197) (fun _ _ _ _ _ hl w => lv_aload_n hx hb zd_L_law_196 rfl (lv_at hl 2 rfl) w) ?_
        refine zg_1 (pc' := 198) (fun _ _ _ _ _ hl w => lv_aload_n hx hb zd_L_law_197 rfl (lv_at hl 0 rfl) w) ?_
        refine zg_1 (pc' := 199) (fun _ _ _ _ _ hl w => lv_iload_n hx hb zd_L_law_198 rfl (lv_at hl 3 rfl) w) ?_
        refine zg_1 (pc' := 200) (fun _ _ _ _ _ hl w => lv_iconst (v := (1 : Int32)) hx hb zd_L_law_199 (by decide) w) ?_
        refine zg_1 (pc' := 201) (fun _ _ _ _ _ hl w => lv_iadd hx hb zd_L_law_200 w) ?_
        obtain ⟨h_27, hf⟩ := zx_ck hf
        refine zg_3 (pc' := 202) (fun _ _ _ _ _ hS hl w => va_sld hx hb hXs hbl hbA hS (zh_in h_27.1 h_27.2) zd_L_law_201 w) ?_
        obtain ⟨h_28, hf⟩ := zx_ck hf
        obtain ⟨i_29, hq, hf⟩ := zx_p hf
        refine zg_call (pc' := 205) (y := s0) (rv := (some (.int i_29))) (rest := [.int i_26]) X hR ⟨Nat.le_refl _, Nat.le_refl _⟩ (fun H locs ls k j hsz hI hU hk => va_runV (As := [.int (xs (i3 + (1 : Int32)).toNatClampNeg)]) (rest := [.int i_26]) ⟨hx, hb, hml, hown, htT⟩ (zc_M_at l h0 D dA tb n hq) (cwV 1 htT (zw_gV zt_926 zt_927 zt_928 zt_71 zt_929) rfl rfl rfl (by decide +kernel) ⟨Nat.le_trans (Nat.le_of_ble_eq_true rfl) hF.1, Nat.le_trans (Nat.le_of_ble_eq_true rfl) hF.2⟩) ⟨(zg_pre hU).1, zg_recv hK hI h_28 rfl, (zg_pre hU).2⟩ rfl rfl hsz rfl (lv_room (Nat.le_of_ble_eq_true rfl)) zd_L_law_202 hk) rfl ?_
        refine zg_2 (pc1 := 849) (pc2 := 208) (Classical.em _) (fun _ _ _ _ _ w1 w2 => lv_icmp_eq hx hb zd_L_law_205 (by decide) w1 w2) (fun hc => ?_) (fun hc => ?_)
        · rw [if_pos hc] at hf
          exact zw_L_law_849 X hR hF hret n xs L hXs hbl hbA _ ih s0 a1 a2 i3 hf
        · rw [if_neg hc] at hf
          refine zg_1 (pc' := 209) (fun _ _ _ _ _ hl w => lv_iconst (v := (0 : Int32)) hx hb zd_L_law_208 (by decide) w) ?_
          obtain ⟨rfl, rfl⟩ := zx_r2 hf
          exact hret (Or.inl rfl) _ _ zd_L_law_209
      rw [if_neg hk3] at hf
      by_cases hk4 : ((xs i3.toNatClampNeg) &&& (31 : Int32)) = 4
      · rw [if_pos hk4] at hf
        refine zg_1 (pc' := 210) (fun _ _ _ _ _ hl w => lv_tableIn hx hb zd_L_law_33 (by rw [hk4]; decide) (by rw [hk4]; decide) (by rw [hk4]; rfl) (by decide) w) ?_
        refine zg_1 (pc' := 211) (fun _ _ _ _ _ hl w => lv_aload_n hx hb zd_L_law_210 rfl (lv_at hl 1 rfl) w) ?_
        refine zg_1 (pc' := 212) (fun _ _ _ _ _ hl w => lv_aload_n hx hb zd_L_law_211 rfl (lv_at hl 0 rfl) w) ?_
        refine zg_1 (pc' := 213) (fun _ _ _ _ _ hl w => lv_iload_n hx hb zd_L_law_212 rfl (lv_at hl 3 rfl) w) ?_
        refine zg_1 (pc' := 214) (fun _ _ _ _ _ hl w => lv_iconst (v := (1 : Int32)) hx hb zd_L_law_213 (by decide) w) ?_
        refine zg_1 (pc' := 215) (fun _ _ _ _ _ hl w => lv_iadd hx hb zd_L_law_214 w) ?_
        obtain ⟨h_30, hf⟩ := zx_ck hf
        refine zg_3 (pc' := 216) (fun _ _ _ _ _ hS hl w => va_sld hx hb hXs hbl hbA hS (zh_in h_30.1 h_30.2) zd_L_law_215 w) ?_
        refine zg_1 (pc' := 217) (fun _ _ _ _ _ hl w => lv_aload_n hx hb zd_L_law_216 rfl (lv_at hl 0 rfl) w) ?_
        refine zg_1 (pc' := 218) (fun _ _ _ _ _ hl w => lv_iload_n hx hb zd_L_law_217 rfl (lv_at hl 3 rfl) w) ?_
        refine zg_1 (pc' := 219) (fun _ _ _ _ _ hl w => lv_iconst (v := (2 : Int32)) hx hb zd_L_law_218 (by decide) w) ?_
        refine zg_1 (pc' := 220) (fun _ _ _ _ _ hl w => lv_iadd hx hb zd_L_law_219 w) ?_
        obtain ⟨h_31, hf⟩ := zx_ck hf
        refine zg_3 (pc' := 221) (fun _ _ _ _ _ hS hl w => va_sld hx hb hXs hbl hbA hS (zh_in h_31.1 h_31.2) zd_L_law_220 w) ?_
        refine zg_1 (pc' := 222) (fun _ _ _ _ _ hl w => lv_i2l (v := (xs (i3 + (2 : Int32)).toNatClampNeg).toInt64) hx hb zd_L_law_221 rfl w) ?_
        refine zg_1 (pc' := 224) (fun _ _ _ _ _ hl w => lv_bipush (v := (32 : Int32)) hx hb zd_L_law_222 (by decide) w) ?_
        refine zg_1 (pc' := 225) (fun _ _ _ _ _ hl w => lv_lshl (v := ((xs (i3 + (2 : Int32)).toNatClampNeg).toInt64 <<< ((32 : Int32).toInt64 &&& 63))) hx hb zd_L_law_224 rfl w) ?_
        refine zg_1 (pc' := 226) (fun _ _ _ _ _ hl w => lv_aload_n hx hb zd_L_law_225 rfl (lv_at hl 0 rfl) w) ?_
        refine zg_1 (pc' := 227) (fun _ _ _ _ _ hl w => lv_iload_n hx hb zd_L_law_226 rfl (lv_at hl 3 rfl) w) ?_
        refine zg_1 (pc' := 228) (fun _ _ _ _ _ hl w => lv_iconst (v := (3 : Int32)) hx hb zd_L_law_227 (by decide) w) ?_
        refine zg_1 (pc' := 229) (fun _ _ _ _ _ hl w => lv_iadd hx hb zd_L_law_228 w) ?_
        obtain ⟨h_32, hf⟩ := zx_ck hf
        refine zg_3 (pc' := 230) (fun _ _ _ _ _ hS hl w => va_sld hx hb hXs hbl hbA hS (zh_in h_32.1 h_32.2) zd_L_law_229 w) ?_
        refine zg_1 (pc' := 231) (fun _ _ _ _ _ hl w => lv_i2l (v := (xs (i3 + (3 : Int32)).toNatClampNeg).toInt64) hx hb zd_L_law_230 rfl w) ?_
        refine zg_1 (pc' := 234) (fun _ _ _ _ _ hl w => lv_ldc2 (v := (4294967295 : Int64)) hx hb hown (htT _ zt_1130) zd_L_law_231 w) ?_
        refine zg_1 (pc' := 235) (fun _ _ _ _ _ hl w => lv_land hx hb zd_L_law_234 w) ?_
        refine zg_1 (pc' := 236) (fun _ _ _ _ _ hl w => lv_lor hx hb zd_L_law_235 w) ?_
        obtain ⟨h_34, hf⟩ := zx_ck hf
        obtain ⟨i_35, s_33, hq, hf⟩ := zx_b hf
        refine zg_call (pc' := 239) (y := s_33) (rv := (some (.int i_35))) (rest := []) X hR (zm_V_set hq) (fun H locs ls k j hsz hI hU hk => va_runV (As := [.int (xs (i3 + (1 : Int32)).toNatClampNeg), .long (((xs (i3 + (2 : Int32)).toNatClampNeg).toInt64 <<< ((32 : Int32).toInt64 &&& 63)) ||| ((xs (i3 + (3 : Int32)).toNatClampNeg).toInt64 &&& (4294967295 : Int64)))]) (rest := []) ⟨hx, hb, hml, hown, htT⟩ (zc_V_set l h0 D dA tb n hq) (cwV 2 htT (zw_gV zt_351 zt_352 zt_353 zt_64 zt_354) rfl rfl rfl (by decide +kernel) ⟨Nat.le_trans (Nat.le_of_ble_eq_true rfl) hF.1, Nat.le_trans (Nat.le_of_ble_eq_true rfl) hF.2⟩) ⟨(zg_pre hU).1, zg_recv hK hI h_34 rfl, (zg_pre hU).2⟩ rfl rfl hsz rfl (lv_room (Nat.le_of_ble_eq_true rfl)) zd_L_law_236 hk) rfl ?_
        refine zg_1 (pc' := 240) (fun _ _ _ _ _ hl w => lv_aload_n hx hb zd_L_law_239 rfl (lv_at hl 2 rfl) w) ?_
        refine zg_1 (pc' := 241) (fun _ _ _ _ _ hl w => lv_aload_n hx hb zd_L_law_240 rfl (lv_at hl 0 rfl) w) ?_
        refine zg_1 (pc' := 242) (fun _ _ _ _ _ hl w => lv_iload_n hx hb zd_L_law_241 rfl (lv_at hl 3 rfl) w) ?_
        refine zg_1 (pc' := 243) (fun _ _ _ _ _ hl w => lv_iconst (v := (1 : Int32)) hx hb zd_L_law_242 (by decide) w) ?_
        refine zg_1 (pc' := 244) (fun _ _ _ _ _ hl w => lv_iadd hx hb zd_L_law_243 w) ?_
        obtain ⟨h_36, hf⟩ := zx_ck hf
        refine zg_3 (pc' := 245) (fun _ _ _ _ _ hS hl w => va_sld hx hb hXs hbl hbA hS (zh_in h_36.1 h_36.2) zd_L_law_244 w) ?_
        refine zg_1 (pc' := 246) (fun _ _ _ _ _ hl w => lv_aload_n hx hb zd_L_law_245 rfl (lv_at hl 0 rfl) w) ?_
        refine zg_1 (pc' := 247) (fun _ _ _ _ _ hl w => lv_iload_n hx hb zd_L_law_246 rfl (lv_at hl 3 rfl) w) ?_
        refine zg_1 (pc' := 248) (fun _ _ _ _ _ hl w => lv_iconst (v := (2 : Int32)) hx hb zd_L_law_247 (by decide) w) ?_
        refine zg_1 (pc' := 249) (fun _ _ _ _ _ hl w => lv_iadd hx hb zd_L_law_248 w) ?_
        obtain ⟨h_37, hf⟩ := zx_ck hf
        refine zg_3 (pc' := 250) (fun _ _ _ _ _ hS hl w => va_sld hx hb hXs hbl hbA hS (zh_in h_37.1 h_37.2) zd_L_law_249 w) ?_
        refine zg_1 (pc' := 251) (fun _ _ _ _ _ hl w => lv_i2l (v := (xs (i3 + (2 : Int32)).toNatClampNeg).toInt64) hx hb zd_L_law_250 rfl w) ?_
        refine zg_1 (pc' := 253) (fun _ _ _ _ _ hl w => lv_bipush (v := (32 : Int32)) hx hb zd_L_law_251 (by decide) w) ?_
        refine zg_1 (pc' := 254) (fun _ _ _ _ _ hl w => lv_lshl (v := ((xs (i3 + (2 : Int32)).toNatClampNeg).toInt64 <<< ((32 : Int32).toInt64 &&& 63))) hx hb zd_L_law_253 rfl w) ?_
        refine zg_1 (pc' := 255) (fun _ _ _ _ _ hl w => lv_aload_n hx hb zd_L_law_254 rfl (lv_at hl 0 rfl) w) ?_
        refine zg_1 (pc' := 256) (fun _ _ _ _ _ hl w => lv_iload_n hx hb zd_L_law_255 rfl (lv_at hl 3 rfl) w) ?_
        refine zg_1 (pc' := 257) (fun _ _ _ _ _ hl w => lv_iconst (v := (3 : Int32)) hx hb zd_L_law_256 (by decide) w) ?_
        refine zg_1 (pc' := 258) (fun _ _ _ _ _ hl w => lv_iadd hx hb zd_L_law_257 w) ?_
        obtain ⟨h_38, hf⟩ := zx_ck hf
        refine zg_3 (pc' := 259) (fun _ _ _ _ _ hS hl w => va_sld hx hb hXs hbl hbA hS (zh_in h_38.1 h_38.2) zd_L_law_258 w) ?_
        refine zg_1 (pc' := 260) (fun _ _ _ _ _ hl w => lv_i2l (v := (xs (i3 + (3 : Int32)).toNatClampNeg).toInt64) hx hb zd_L_law_259 rfl w) ?_
        refine zg_1 (pc' := 263) (fun _ _ _ _ _ hl w => lv_ldc2 (v := (4294967295 : Int64)) hx hb hown (htT _ zt_1130) zd_L_law_260 w) ?_
        refine zg_1 (pc' := 264) (fun _ _ _ _ _ hl w => lv_land hx hb zd_L_law_263 w) ?_
        refine zg_1 (pc' := 265) (fun _ _ _ _ _ hl w => lv_lor hx hb zd_L_law_264 w) ?_
        obtain ⟨h_40, hf⟩ := zx_ck hf
        obtain ⟨i_41, s_39, hq, hf⟩ := zx_b hf
        refine zg_call (pc' := 268) (y := s_39) (rv := (some (.int i_41))) (rest := [.int i_35]) X hR (zm_M_set hq) (fun H locs ls k j hsz hI hU hk => va_runV (As := [.int (xs (i3 + (1 : Int32)).toNatClampNeg), .long (((xs (i3 + (2 : Int32)).toNatClampNeg).toInt64 <<< ((32 : Int32).toInt64 &&& 63)) ||| ((xs (i3 + (3 : Int32)).toNatClampNeg).toInt64 &&& (4294967295 : Int64)))]) (rest := [.int i_35]) ⟨hx, hb, hml, hown, htT⟩ (zc_M_set l h0 D dA tb n hq) (cwV 2 htT (zw_gV zt_930 zt_931 zt_932 zt_71 zt_933) rfl rfl rfl (by decide +kernel) ⟨Nat.le_trans (Nat.le_of_ble_eq_true rfl) hF.1, Nat.le_trans (Nat.le_of_ble_eq_true rfl) hF.2⟩) ⟨(zg_pre hU).1, zg_recv hK hI h_40 rfl, (zg_pre hU).2⟩ rfl rfl hsz rfl (lv_room (Nat.le_of_ble_eq_true rfl)) zd_L_law_265 hk) rfl ?_
        refine zg_2 (pc1 := 849) (pc2 := 271) (Classical.em _) (fun _ _ _ _ _ w1 w2 => lv_icmp_eq hx hb zd_L_law_268 (by decide) w1 w2) (fun hc => ?_) (fun hc => ?_)
        · rw [if_pos hc] at hf
          exact zw_L_law_849 X hR hF hret n xs L hXs hbl hbA _ ih s_39 a1 a2 i3 hf
        · rw [if_neg hc] at hf
          refine zg_1 (pc' := 272) (fun _ _ _ _ _ hl w => lv_iconst (v := (0 : Int32)) hx hb zd_L_law_271 (by decide) w) ?_
          obtain ⟨rfl, rfl⟩ := zx_r2 hf
          exact hret (Or.inl rfl) _ _ zd_L_law_272
      rw [if_neg hk4] at hf
      by_cases hk5 : ((xs i3.toNatClampNeg) &&& (31 : Int32)) = 5
      · rw [if_pos hk5] at hf
        refine zg_1 (pc' := 273) (fun _ _ _ _ _ hl w => lv_tableIn hx hb zd_L_law_33 (by rw [hk5]; decide) (by rw [hk5]; decide) (by rw [hk5]; rfl) (by decide) w) ?_
        refine zg_1 (pc' := 274) (fun _ _ _ _ _ hl w => lv_aload_n hx hb zd_L_law_273 rfl (lv_at hl 1 rfl) w) ?_
        refine zg_1 (pc' := 275) (fun _ _ _ _ _ hl w => lv_aload_n hx hb zd_L_law_274 rfl (lv_at hl 0 rfl) w) ?_
        refine zg_1 (pc' := 276) (fun _ _ _ _ _ hl w => lv_iload_n hx hb zd_L_law_275 rfl (lv_at hl 3 rfl) w) ?_
        refine zg_1 (pc' := 277) (fun _ _ _ _ _ hl w => lv_iconst (v := (1 : Int32)) hx hb zd_L_law_276 (by decide) w) ?_
        refine zg_1 (pc' := 278) (fun _ _ _ _ _ hl w => lv_iadd hx hb zd_L_law_277 w) ?_
        obtain ⟨h_42, hf⟩ := zx_ck hf
        refine zg_3 (pc' := 279) (fun _ _ _ _ _ hS hl w => va_sld hx hb hXs hbl hbA hS (zh_in h_42.1 h_42.2) zd_L_law_278 w) ?_
        refine zg_1 (pc' := 280) (fun _ _ _ _ _ hl w => lv_i2l (v := (xs (i3 + (1 : Int32)).toNatClampNeg).toInt64) hx hb zd_L_law_279 rfl w) ?_
        refine zg_1 (pc' := 282) (fun _ _ _ _ _ hl w => lv_bipush (v := (32 : Int32)) hx hb zd_L_law_280 (by decide) w) ?_
        refine zg_1 (pc' := 283) (fun _ _ _ _ _ hl w => lv_lshl (v := ((xs (i3 + (1 : Int32)).toNatClampNeg).toInt64 <<< ((32 : Int32).toInt64 &&& 63))) hx hb zd_L_law_282 rfl w) ?_
        refine zg_1 (pc' := 284) (fun _ _ _ _ _ hl w => lv_aload_n hx hb zd_L_law_283 rfl (lv_at hl 0 rfl) w) ?_
        refine zg_1 (pc' := 285) (fun _ _ _ _ _ hl w => lv_iload_n hx hb zd_L_law_284 rfl (lv_at hl 3 rfl) w) ?_
        refine zg_1 (pc' := 286) (fun _ _ _ _ _ hl w => lv_iconst (v := (2 : Int32)) hx hb zd_L_law_285 (by decide) w) ?_
        refine zg_1 (pc' := 287) (fun _ _ _ _ _ hl w => lv_iadd hx hb zd_L_law_286 w) ?_
        obtain ⟨h_43, hf⟩ := zx_ck hf
        refine zg_3 (pc' := 288) (fun _ _ _ _ _ hS hl w => va_sld hx hb hXs hbl hbA hS (zh_in h_43.1 h_43.2) zd_L_law_287 w) ?_
        refine zg_1 (pc' := 289) (fun _ _ _ _ _ hl w => lv_i2l (v := (xs (i3 + (2 : Int32)).toNatClampNeg).toInt64) hx hb zd_L_law_288 rfl w) ?_
        refine zg_1 (pc' := 292) (fun _ _ _ _ _ hl w => lv_ldc2 (v := (4294967295 : Int64)) hx hb hown (htT _ zt_1130) zd_L_law_289 w) ?_
        refine zg_1 (pc' := 293) (fun _ _ _ _ _ hl w => lv_land hx hb zd_L_law_292 w) ?_
        refine zg_1 (pc' := 294) (fun _ _ _ _ _ hl w => lv_lor hx hb zd_L_law_293 w) ?_
        refine zg_1 (pc' := 295) (fun _ _ _ _ _ hl w => lv_aload_n hx hb zd_L_law_294 rfl (lv_at hl 0 rfl) w) ?_
        refine zg_1 (pc' := 296) (fun _ _ _ _ _ hl w => lv_iload_n hx hb zd_L_law_295 rfl (lv_at hl 3 rfl) w) ?_
        refine zg_1 (pc' := 297) (fun _ _ _ _ _ hl w => lv_iconst (v := (3 : Int32)) hx hb zd_L_law_296 (by decide) w) ?_
        refine zg_1 (pc' := 298) (fun _ _ _ _ _ hl w => lv_iadd hx hb zd_L_law_297 w) ?_
        obtain ⟨h_44, hf⟩ := zx_ck hf
        refine zg_3 (pc' := 299) (fun _ _ _ _ _ hS hl w => va_sld hx hb hXs hbl hbA hS (zh_in h_44.1 h_44.2) zd_L_law_298 w) ?_
        refine zg_1 (pc' := 300) (fun _ _ _ _ _ hl w => lv_i2l (v := (xs (i3 + (3 : Int32)).toNatClampNeg).toInt64) hx hb zd_L_law_299 rfl w) ?_
        refine zg_1 (pc' := 302) (fun _ _ _ _ _ hl w => lv_bipush (v := (32 : Int32)) hx hb zd_L_law_300 (by decide) w) ?_
        refine zg_1 (pc' := 303) (fun _ _ _ _ _ hl w => lv_lshl (v := ((xs (i3 + (3 : Int32)).toNatClampNeg).toInt64 <<< ((32 : Int32).toInt64 &&& 63))) hx hb zd_L_law_302 rfl w) ?_
        refine zg_1 (pc' := 304) (fun _ _ _ _ _ hl w => lv_aload_n hx hb zd_L_law_303 rfl (lv_at hl 0 rfl) w) ?_
        refine zg_1 (pc' := 305) (fun _ _ _ _ _ hl w => lv_iload_n hx hb zd_L_law_304 rfl (lv_at hl 3 rfl) w) ?_
        refine zg_1 (pc' := 306) (fun _ _ _ _ _ hl w => lv_iconst (v := (4 : Int32)) hx hb zd_L_law_305 (by decide) w) ?_
        refine zg_1 (pc' := 307) (fun _ _ _ _ _ hl w => lv_iadd hx hb zd_L_law_306 w) ?_
        obtain ⟨h_45, hf⟩ := zx_ck hf
        refine zg_3 (pc' := 308) (fun _ _ _ _ _ hS hl w => va_sld hx hb hXs hbl hbA hS (zh_in h_45.1 h_45.2) zd_L_law_307 w) ?_
        refine zg_1 (pc' := 309) (fun _ _ _ _ _ hl w => lv_i2l (v := (xs (i3 + (4 : Int32)).toNatClampNeg).toInt64) hx hb zd_L_law_308 rfl w) ?_
        refine zg_1 (pc' := 312) (fun _ _ _ _ _ hl w => lv_ldc2 (v := (4294967295 : Int64)) hx hb hown (htT _ zt_1130) zd_L_law_309 w) ?_
        refine zg_1 (pc' := 313) (fun _ _ _ _ _ hl w => lv_land hx hb zd_L_law_312 w) ?_
        refine zg_1 (pc' := 314) (fun _ _ _ _ _ hl w => lv_lor hx hb zd_L_law_313 w) ?_
        obtain ⟨h_47, hf⟩ := zx_ck hf
        obtain ⟨i_48, s_46, hq, hf⟩ := zx_b hf
        refine zg_call (pc' := 317) (y := s_46) (rv := (some (.int i_48))) (rest := []) X hR (zm_V_revoke hq) (fun H locs ls k j hsz hI hU hk => va_runV (As := [.long (((xs (i3 + (1 : Int32)).toNatClampNeg).toInt64 <<< ((32 : Int32).toInt64 &&& 63)) ||| ((xs (i3 + (2 : Int32)).toNatClampNeg).toInt64 &&& (4294967295 : Int64))), .long (((xs (i3 + (3 : Int32)).toNatClampNeg).toInt64 <<< ((32 : Int32).toInt64 &&& 63)) ||| ((xs (i3 + (4 : Int32)).toNatClampNeg).toInt64 &&& (4294967295 : Int64)))]) (rest := []) ⟨hx, hb, hml, hown, htT⟩ (zc_V_revoke l h0 D dA tb n hq) (cwV 2 htT (zw_gV zt_373 zt_374 zt_375 zt_64 zt_376) rfl rfl rfl (by decide +kernel) ⟨Nat.le_trans (Nat.le_of_ble_eq_true rfl) hF.1, Nat.le_trans (Nat.le_of_ble_eq_true rfl) hF.2⟩) ⟨(zg_pre hU).1, zg_recv hK hI h_47 rfl, (zg_pre hU).2⟩ rfl rfl hsz rfl (lv_room (Nat.le_of_ble_eq_true rfl)) zd_L_law_314 hk) rfl ?_
        refine zg_1 (pc' := 318) (fun _ _ _ _ _ hl w => lv_aload_n hx hb zd_L_law_317 rfl (lv_at hl 2 rfl) w) ?_
        refine zg_1 (pc' := 319) (fun _ _ _ _ _ hl w => lv_aload_n hx hb zd_L_law_318 rfl (lv_at hl 0 rfl) w) ?_
        refine zg_1 (pc' := 320) (fun _ _ _ _ _ hl w => lv_iload_n hx hb zd_L_law_319 rfl (lv_at hl 3 rfl) w) ?_
        refine zg_1 (pc' := 321) (fun _ _ _ _ _ hl w => lv_iconst (v := (1 : Int32)) hx hb zd_L_law_320 (by decide) w) ?_
        refine zg_1 (pc' := 322) (fun _ _ _ _ _ hl w => lv_iadd hx hb zd_L_law_321 w) ?_
        obtain ⟨h_49, hf⟩ := zx_ck hf
        refine zg_3 (pc' := 323) (fun _ _ _ _ _ hS hl w => va_sld hx hb hXs hbl hbA hS (zh_in h_49.1 h_49.2) zd_L_law_322 w) ?_
        refine zg_1 (pc' := 324) (fun _ _ _ _ _ hl w => lv_i2l (v := (xs (i3 + (1 : Int32)).toNatClampNeg).toInt64) hx hb zd_L_law_323 rfl w) ?_
        refine zg_1 (pc' := 326) (fun _ _ _ _ _ hl w => lv_bipush (v := (32 : Int32)) hx hb zd_L_law_324 (by decide) w) ?_
        refine zg_1 (pc' := 327) (fun _ _ _ _ _ hl w => lv_lshl (v := ((xs (i3 + (1 : Int32)).toNatClampNeg).toInt64 <<< ((32 : Int32).toInt64 &&& 63))) hx hb zd_L_law_326 rfl w) ?_
        refine zg_1 (pc' := 328) (fun _ _ _ _ _ hl w => lv_aload_n hx hb zd_L_law_327 rfl (lv_at hl 0 rfl) w) ?_
        refine zg_1 (pc' := 329) (fun _ _ _ _ _ hl w => lv_iload_n hx hb zd_L_law_328 rfl (lv_at hl 3 rfl) w) ?_
        refine zg_1 (pc' := 330) (fun _ _ _ _ _ hl w => lv_iconst (v := (2 : Int32)) hx hb zd_L_law_329 (by decide) w) ?_
        refine zg_1 (pc' := 331) (fun _ _ _ _ _ hl w => lv_iadd hx hb zd_L_law_330 w) ?_
        obtain ⟨h_50, hf⟩ := zx_ck hf
        refine zg_3 (pc' := 332) (fun _ _ _ _ _ hS hl w => va_sld hx hb hXs hbl hbA hS (zh_in h_50.1 h_50.2) zd_L_law_331 w) ?_
        refine zg_1 (pc' := 333) (fun _ _ _ _ _ hl w => lv_i2l (v := (xs (i3 + (2 : Int32)).toNatClampNeg).toInt64) hx hb zd_L_law_332 rfl w) ?_
        refine zg_1 (pc' := 336) (fun _ _ _ _ _ hl w => lv_ldc2 (v := (4294967295 : Int64)) hx hb hown (htT _ zt_1130) zd_L_law_333 w) ?_
        refine zg_1 (pc' := 337) (fun _ _ _ _ _ hl w => lv_land hx hb zd_L_law_336 w) ?_
        refine zg_1 (pc' := 338) (fun _ _ _ _ _ hl w => lv_lor hx hb zd_L_law_337 w) ?_
        refine zg_1 (pc' := 339) (fun _ _ _ _ _ hl w => lv_aload_n hx hb zd_L_law_338 rfl (lv_at hl 0 rfl) w) ?_
        refine zg_1 (pc' := 340) (fun _ _ _ _ _ hl w => lv_iload_n hx hb zd_L_law_339 rfl (lv_at hl 3 rfl) w) ?_
        refine zg_1 (pc' := 341) (fun _ _ _ _ _ hl w => lv_iconst (v := (3 : Int32)) hx hb zd_L_law_340 (by decide) w) ?_
        refine zg_1 (pc' := 342) (fun _ _ _ _ _ hl w => lv_iadd hx hb zd_L_law_341 w) ?_
        obtain ⟨h_51, hf⟩ := zx_ck hf
        refine zg_3 (pc' := 343) (fun _ _ _ _ _ hS hl w => va_sld hx hb hXs hbl hbA hS (zh_in h_51.1 h_51.2) zd_L_law_342 w) ?_
        refine zg_1 (pc' := 344) (fun _ _ _ _ _ hl w => lv_i2l (v := (xs (i3 + (3 : Int32)).toNatClampNeg).toInt64) hx hb zd_L_law_343 rfl w) ?_
        refine zg_1 (pc' := 346) (fun _ _ _ _ _ hl w => lv_bipush (v := (32 : Int32)) hx hb zd_L_law_344 (by decide) w) ?_
        refine zg_1 (pc' := 347) (fun _ _ _ _ _ hl w => lv_lshl (v := ((xs (i3 + (3 : Int32)).toNatClampNeg).toInt64 <<< ((32 : Int32).toInt64 &&& 63))) hx hb zd_L_law_346 rfl w) ?_
        refine zg_1 (pc' := 348) (fun _ _ _ _ _ hl w => lv_aload_n hx hb zd_L_law_347 rfl (lv_at hl 0 rfl) w) ?_
        refine zg_1 (pc' := 349) (fun _ _ _ _ _ hl w => lv_iload_n hx hb zd_L_law_348 rfl (lv_at hl 3 rfl) w) ?_
        refine zg_1 (pc' := 350) (fun _ _ _ _ _ hl w => lv_iconst (v := (4 : Int32)) hx hb zd_L_law_349 (by decide) w) ?_
        refine zg_1 (pc' := 351) (fun _ _ _ _ _ hl w => lv_iadd hx hb zd_L_law_350 w) ?_
        obtain ⟨h_52, hf⟩ := zx_ck hf
        refine zg_3 (pc' := 352) (fun _ _ _ _ _ hS hl w => va_sld hx hb hXs hbl hbA hS (zh_in h_52.1 h_52.2) zd_L_law_351 w) ?_
        refine zg_1 (pc' := 353) (fun _ _ _ _ _ hl w => lv_i2l (v := (xs (i3 + (4 : Int32)).toNatClampNeg).toInt64) hx hb zd_L_law_352 rfl w) ?_
        refine zg_1 (pc' := 356) (fun _ _ _ _ _ hl w => lv_ldc2 (v := (4294967295 : Int64)) hx hb hown (htT _ zt_1130) zd_L_law_353 w) ?_
        refine zg_1 (pc' := 357) (fun _ _ _ _ _ hl w => lv_land hx hb zd_L_law_356 w) ?_
        refine zg_1 (pc' := 358) (fun _ _ _ _ _ hl w => lv_lor hx hb zd_L_law_357 w) ?_
        obtain ⟨h_54, hf⟩ := zx_ck hf
        obtain ⟨i_55, s_53, hq, hf⟩ := zx_b hf
        refine zg_call (pc' := 361) (y := s_53) (rv := (some (.int i_55))) (rest := [.int i_48]) X hR (zm_M_revoke hq) (fun H locs ls k j hsz hI hU hk => va_runV (As := [.long (((xs (i3 + (1 : Int32)).toNatClampNeg).toInt64 <<< ((32 : Int32).toInt64 &&& 63)) ||| ((xs (i3 + (2 : Int32)).toNatClampNeg).toInt64 &&& (4294967295 : Int64))), .long (((xs (i3 + (3 : Int32)).toNatClampNeg).toInt64 <<< ((32 : Int32).toInt64 &&& 63)) ||| ((xs (i3 + (4 : Int32)).toNatClampNeg).toInt64 &&& (4294967295 : Int64)))]) (rest := [.int i_48]) ⟨hx, hb, hml, hown, htT⟩ (zc_M_revoke l h0 D dA tb n hq) (cwV 2 htT (zw_gV zt_944 zt_945 zt_946 zt_71 zt_947) rfl rfl rfl (by decide +kernel) ⟨Nat.le_trans (Nat.le_of_ble_eq_true rfl) hF.1, Nat.le_trans (Nat.le_of_ble_eq_true rfl) hF.2⟩) ⟨(zg_pre hU).1, zg_recv hK hI h_54 rfl, (zg_pre hU).2⟩ rfl rfl hsz rfl (lv_room (Nat.le_of_ble_eq_true rfl)) zd_L_law_358 hk) rfl ?_
        refine zg_2 (pc1 := 849) (pc2 := 364) (Classical.em _) (fun _ _ _ _ _ w1 w2 => lv_icmp_eq hx hb zd_L_law_361 (by decide) w1 w2) (fun hc => ?_) (fun hc => ?_)
        · rw [if_pos hc] at hf
          exact zw_L_law_849 X hR hF hret n xs L hXs hbl hbA _ ih s_53 a1 a2 i3 hf
        · rw [if_neg hc] at hf
          refine zg_1 (pc' := 365) (fun _ _ _ _ _ hl w => lv_iconst (v := (0 : Int32)) hx hb zd_L_law_364 (by decide) w) ?_
          obtain ⟨rfl, rfl⟩ := zx_r2 hf
          exact hret (Or.inl rfl) _ _ zd_L_law_365
      rw [if_neg hk5] at hf
      by_cases hk6 : ((xs i3.toNatClampNeg) &&& (31 : Int32)) = 6
      · rw [if_pos hk6] at hf
        refine zg_1 (pc' := 366) (fun _ _ _ _ _ hl w => lv_tableIn hx hb zd_L_law_33 (by rw [hk6]; decide) (by rw [hk6]; decide) (by rw [hk6]; rfl) (by decide) w) ?_
        refine zg_1 (pc' := 367) (fun _ _ _ _ _ hl w => lv_aload_n hx hb zd_L_law_366 rfl (lv_at hl 1 rfl) w) ?_
        obtain ⟨h_57, hf⟩ := zx_ck hf
        obtain ⟨s_56, hq, hf⟩ := zx_p hf
        refine zg_call (pc' := 370) (y := s_56) (rv := none) (rest := []) X hR (zm_V_forgive hq) (fun H locs ls k j hsz hI hU hk => va_runV (As := []) (rest := []) ⟨hx, hb, hml, hown, htT⟩ (zc_V_forgive l h0 D dA tb n hq) (cwV 0 htT (zw_gV zt_381 zt_382 zt_383 zt_64 zt_384) rfl rfl rfl (by decide +kernel) ⟨Nat.le_trans (Nat.le_of_ble_eq_true rfl) hF.1, Nat.le_trans (Nat.le_of_ble_eq_true rfl) hF.2⟩) ⟨(zg_pre hU).1, zg_recv hK hI h_57 rfl, (zg_pre hU).2⟩ rfl rfl hsz rfl (lv_room (Nat.le_of_ble_eq_true rfl)) zd_L_law_367 hk) rfl ?_
        refine zg_1 (pc' := 371) (fun _ _ _ _ _ hl w => lv_aload_n hx hb zd_L_law_370 rfl (lv_at hl 2 rfl) w) ?_
        obtain ⟨h_59, hf⟩ := zx_ck hf
        obtain ⟨s_58, hq, hf⟩ := zx_p hf
        refine zg_call (pc' := 374) (y := s_58) (rv := none) (rest := []) X hR (zm_M_forgive hq) (fun H locs ls k j hsz hI hU hk => va_runV (As := []) (rest := []) ⟨hx, hb, hml, hown, htT⟩ (zc_M_forgive l h0 D dA tb n hq) (cwV 0 htT (zw_gV zt_948 zt_949 zt_950 zt_71 zt_951) rfl rfl rfl (by decide +kernel) ⟨Nat.le_trans (Nat.le_of_ble_eq_true rfl) hF.1, Nat.le_trans (Nat.le_of_ble_eq_true rfl) hF.2⟩) ⟨(zg_pre hU).1, zg_recv hK hI h_59 rfl, (zg_pre hU).2⟩ rfl rfl hsz rfl (lv_room (Nat.le_of_ble_eq_true rfl)) zd_L_law_371 hk) rfl ?_
        refine zg_1 (pc' := 849) (fun _ _ _ _ _ hl w => lv_goto hx hb zd_L_law_374 (by decide) w) ?_
        exact zw_L_law_849 X hR hF hret n xs L hXs hbl hbA _ ih s_58 a1 a2 i3 hf
      rw [if_neg hk6] at hf
      by_cases hk7 : ((xs i3.toNatClampNeg) &&& (31 : Int32)) = 7
      · rw [if_pos hk7] at hf
        refine zg_1 (pc' := 377) (fun _ _ _ _ _ hl w => lv_tableIn hx hb zd_L_law_33 (by rw [hk7]; decide) (by rw [hk7]; decide) (by rw [hk7]; rfl) (by decide) w) ?_
        refine zg_1 (pc' := 378) (fun _ _ _ _ _ hl w => lv_aload_n hx hb zd_L_law_377 rfl (lv_at hl 1 rfl) w) ?_
        obtain ⟨h_61, hf⟩ := zx_ck hf
        obtain ⟨i_62, s_60, hq, hf⟩ := zx_b hf
        refine zg_call (pc' := 381) (y := s_60) (rv := (some (.int i_62))) (rest := []) X hR (zm_V_compose hq) (fun H locs ls k j hsz hI hU hk => va_runV (As := []) (rest := []) ⟨hx, hb, hml, hown, htT⟩ (zc_V_compose l h0 D dA tb n hq) (cwV 0 htT (zw_gV zt_389 zt_390 zt_391 zt_64 zt_392) rfl rfl rfl (by decide +kernel) ⟨Nat.le_trans (Nat.le_of_ble_eq_true rfl) hF.1, Nat.le_trans (Nat.le_of_ble_eq_true rfl) hF.2⟩) ⟨(zg_pre hU).1, zg_recv hK hI h_61 rfl, (zg_pre hU).2⟩ rfl rfl hsz rfl (lv_room (Nat.le_of_ble_eq_true rfl)) zd_L_law_378 hk) rfl ?_
        refine zg_1 (pc' := 382) (fun _ _ _ _ _ hl w => lv_aload_n hx hb zd_L_law_381 rfl (lv_at hl 2 rfl) w) ?_
        obtain ⟨h_64, hf⟩ := zx_ck hf
        obtain ⟨i_65, s_63, hq, hf⟩ := zx_b hf
        refine zg_call (pc' := 385) (y := s_63) (rv := (some (.int i_65))) (rest := [.int i_62]) X hR (zm_M_compose hq) (fun H locs ls k j hsz hI hU hk => va_runV (As := []) (rest := [.int i_62]) ⟨hx, hb, hml, hown, htT⟩ (zc_M_compose l h0 D dA tb n hq) (cwV 0 htT (zw_gV zt_952 zt_953 zt_954 zt_71 zt_955) rfl rfl rfl (by decide +kernel) ⟨Nat.le_trans (Nat.le_of_ble_eq_true rfl) hF.1, Nat.le_trans (Nat.le_of_ble_eq_true rfl) hF.2⟩) ⟨(zg_pre hU).1, zg_recv hK hI h_64 rfl, (zg_pre hU).2⟩ rfl rfl hsz rfl (lv_room (Nat.le_of_ble_eq_true rfl)) zd_L_law_382 hk) rfl ?_
        refine zg_2 (pc1 := 849) (pc2 := 388) (Classical.em _) (fun _ _ _ _ _ w1 w2 => lv_icmp_eq hx hb zd_L_law_385 (by decide) w1 w2) (fun hc => ?_) (fun hc => ?_)
        · rw [if_pos hc] at hf
          exact zw_L_law_849 X hR hF hret n xs L hXs hbl hbA _ ih s_63 a1 a2 i3 hf
        · rw [if_neg hc] at hf
          refine zg_1 (pc' := 389) (fun _ _ _ _ _ hl w => lv_iconst (v := (0 : Int32)) hx hb zd_L_law_388 (by decide) w) ?_
          obtain ⟨rfl, rfl⟩ := zx_r2 hf
          exact hret (Or.inl rfl) _ _ zd_L_law_389
      rw [if_neg hk7] at hf
      by_cases hk8 : ((xs i3.toNatClampNeg) &&& (31 : Int32)) = 8
      · rw [if_pos hk8] at hf
        refine zg_1 (pc' := 390) (fun _ _ _ _ _ hl w => lv_tableIn hx hb zd_L_law_33 (by rw [hk8]; decide) (by rw [hk8]; decide) (by rw [hk8]; rfl) (by decide) w) ?_
        refine zg_1 (pc' := 391) (fun _ _ _ _ _ hl w => lv_aload_n hx hb zd_L_law_390 rfl (lv_at hl 1 rfl) w) ?_
        obtain ⟨h_67, hf⟩ := zx_ck hf
        obtain ⟨i_68, s_66, hq, hf⟩ := zx_b hf
        refine zg_call (pc' := 394) (y := s_66) (rv := (some (.int i_68))) (rest := []) X hR (zm_V_composeList hq) (fun H locs ls k j hsz hI hU hk => va_runV (As := []) (rest := []) ⟨hx, hb, hml, hown, htT⟩ (zc_V_composeList l h0 D dA tb n hq) (cwV 0 htT (zw_gV zt_478 zt_479 zt_480 zt_64 zt_481) rfl rfl rfl (by decide +kernel) ⟨Nat.le_trans (Nat.le_of_ble_eq_true rfl) hF.1, Nat.le_trans (Nat.le_of_ble_eq_true rfl) hF.2⟩) ⟨(zg_pre hU).1, zg_recv hK hI h_67 rfl, (zg_pre hU).2⟩ rfl rfl hsz rfl (lv_room (Nat.le_of_ble_eq_true rfl)) zd_L_law_391 hk) rfl ?_
        refine zg_1 (pc' := 395) (fun _ _ _ _ _ hl w => lv_aload_n hx hb zd_L_law_394 rfl (lv_at hl 2 rfl) w) ?_
        obtain ⟨h_70, hf⟩ := zx_ck hf
        obtain ⟨i_71, s_69, hq, hf⟩ := zx_b hf
        refine zg_call (pc' := 398) (y := s_69) (rv := (some (.int i_71))) (rest := [.int i_68]) X hR (zm_M_composeList hq) (fun H locs ls k j hsz hI hU hk => va_runV (As := []) (rest := [.int i_68]) ⟨hx, hb, hml, hown, htT⟩ (zc_M_composeList l h0 D dA tb n hq) (cwV 0 htT (zw_gV zt_995 zt_996 zt_997 zt_71 zt_998) rfl rfl rfl (by decide +kernel) ⟨Nat.le_trans (Nat.le_of_ble_eq_true rfl) hF.1, Nat.le_trans (Nat.le_of_ble_eq_true rfl) hF.2⟩) ⟨(zg_pre hU).1, zg_recv hK hI h_70 rfl, (zg_pre hU).2⟩ rfl rfl hsz rfl (lv_room (Nat.le_of_ble_eq_true rfl)) zd_L_law_395 hk) rfl ?_
        refine zg_2 (pc1 := 849) (pc2 := 401) (Classical.em _) (fun _ _ _ _ _ w1 w2 => lv_icmp_eq hx hb zd_L_law_398 (by decide) w1 w2) (fun hc => ?_) (fun hc => ?_)
        · rw [if_pos hc] at hf
          exact zw_L_law_849 X hR hF hret n xs L hXs hbl hbA _ ih s_69 a1 a2 i3 hf
        · rw [if_neg hc] at hf
          refine zg_1 (pc' := 402) (fun _ _ _ _ _ hl w => lv_iconst (v := (0 : Int32)) hx hb zd_L_law_401 (by decide) w) ?_
          obtain ⟨rfl, rfl⟩ := zx_r2 hf
          exact hret (Or.inl rfl) _ _ zd_L_law_402
      rw [if_neg hk8] at hf
      by_cases hk9 : ((xs i3.toNatClampNeg) &&& (31 : Int32)) = 9
      · rw [if_pos hk9] at hf
        refine zg_1 (pc' := 403) (fun _ _ _ _ _ hl w => lv_tableIn hx hb zd_L_law_33 (by rw [hk9]; decide) (by rw [hk9]; decide) (by rw [hk9]; rfl) (by decide) w) ?_
        refine zg_1 (pc' := 404) (fun _ _ _ _ _ hl w => lv_aload_n hx hb zd_L_law_403 rfl (lv_at hl 1 rfl) w) ?_
        refine zg_1 (pc' := 405) (fun _ _ _ _ _ hl w => lv_aload_n hx hb zd_L_law_404 rfl (lv_at hl 0 rfl) w) ?_
        refine zg_1 (pc' := 406) (fun _ _ _ _ _ hl w => lv_iload_n hx hb zd_L_law_405 rfl (lv_at hl 3 rfl) w) ?_
        refine zg_1 (pc' := 407) (fun _ _ _ _ _ hl w => lv_iconst (v := (1 : Int32)) hx hb zd_L_law_406 (by decide) w) ?_
        refine zg_1 (pc' := 408) (fun _ _ _ _ _ hl w => lv_iadd hx hb zd_L_law_407 w) ?_
        obtain ⟨h_72, hf⟩ := zx_ck hf
        refine zg_3 (pc' := 409) (fun _ _ _ _ _ hS hl w => va_sld hx hb hXs hbl hbA hS (zh_in h_72.1 h_72.2) zd_L_law_408 w) ?_
        refine zg_2 (pc1 := 416) (pc2 := 412) (Classical.em _) (fun _ _ _ _ _ w1 w2 => lv_if_eq hx hb zd_L_law_409 (by decide) w1 w2) (fun hc => ?_) (fun hc => ?_)
        · rw [if_pos hc] at hf
          refine zg_1 (pc' := 417) (fun _ _ _ _ _ hl w => lv_iconst (v := (0 : Int32)) hx hb zd_L_law_416 (by decide) w) ?_
          exact zw_L_law_417 X hR hF hret n xs L hXs hbl hbA _ ih s0 a1 a2 i3 a1 (0 : Int32) hf
        · rw [if_neg hc] at hf
          refine zg_1 (pc' := 413) (fun _ _ _ _ _ hl w => lv_iconst (v := (1 : Int32)) hx hb zd_L_law_412 (by decide) w) ?_
          refine zg_1 (pc' := 417) (fun _ _ _ _ _ hl w => lv_goto hx hb zd_L_law_413 (by decide) w) ?_
          exact zw_L_law_417 X hR hF hret n xs L hXs hbl hbA _ ih s0 a1 a2 i3 a1 (1 : Int32) hf
      rw [if_neg hk9] at hf
      by_cases hk10 : ((xs i3.toNatClampNeg) &&& (31 : Int32)) = 10
      · rw [if_pos hk10] at hf
        refine zg_1 (pc' := 442) (fun _ _ _ _ _ hl w => lv_tableIn hx hb zd_L_law_33 (by rw [hk10]; decide) (by rw [hk10]; decide) (by rw [hk10]; rfl) (by decide) w) ?_
        refine zg_1 (pc' := 443) (fun _ _ _ _ _ hl w => lv_aload_n hx hb zd_L_law_442 rfl (lv_at hl 1 rfl) w) ?_
        refine zg_1 (pc' := 444) (fun _ _ _ _ _ hl w => lv_aload_n hx hb zd_L_law_443 rfl (lv_at hl 0 rfl) w) ?_
        refine zg_1 (pc' := 445) (fun _ _ _ _ _ hl w => lv_iload_n hx hb zd_L_law_444 rfl (lv_at hl 3 rfl) w) ?_
        refine zg_1 (pc' := 446) (fun _ _ _ _ _ hl w => lv_iconst (v := (1 : Int32)) hx hb zd_L_law_445 (by decide) w) ?_
        refine zg_1 (pc' := 447) (fun _ _ _ _ _ hl w => lv_iadd hx hb zd_L_law_446 w) ?_
        obtain ⟨h_73, hf⟩ := zx_ck hf
        refine zg_3 (pc' := 448) (fun _ _ _ _ _ hS hl w => va_sld hx hb hXs hbl hbA hS (zh_in h_73.1 h_73.2) zd_L_law_447 w) ?_
        obtain ⟨h_75, hf⟩ := zx_ck hf
        obtain ⟨i_76, s_74, hq, hf⟩ := zx_b hf
        refine zg_call (pc' := 451) (y := s_74) (rv := (some (.int i_76))) (rest := []) X hR (zm_V_store hq) (fun H locs ls k j hsz hI hU hk => va_runV (As := [.int (xs (i3 + (1 : Int32)).toNatClampNeg)]) (rest := []) ⟨hx, hb, hml, hown, htT⟩ (zc_V_store l h0 D dA tb n hq) (cwV 1 htT (zw_gV zt_596 zt_597 zt_598 zt_64 zt_599) rfl rfl rfl (by decide +kernel) ⟨Nat.le_trans (Nat.le_of_ble_eq_true rfl) hF.1, Nat.le_trans (Nat.le_of_ble_eq_true rfl) hF.2⟩) ⟨(zg_pre hU).1, zg_recv hK hI h_75 rfl, (zg_pre hU).2⟩ rfl rfl hsz rfl (lv_room (Nat.le_of_ble_eq_true rfl)) zd_L_law_448 hk) rfl ?_
        refine zg_1 (pc' := 452) (fun _ _ _ _ _ hl w => lv_aload_n hx hb zd_L_law_451 rfl (lv_at hl 2 rfl) w) ?_
        refine zg_1 (pc' := 453) (fun _ _ _ _ _ hl w => lv_aload_n hx hb zd_L_law_452 rfl (lv_at hl 0 rfl) w) ?_
        refine zg_1 (pc' := 454) (fun _ _ _ _ _ hl w => lv_iload_n hx hb zd_L_law_453 rfl (lv_at hl 3 rfl) w) ?_
        refine zg_1 (pc' := 455) (fun _ _ _ _ _ hl w => lv_iconst (v := (1 : Int32)) hx hb zd_L_law_454 (by decide) w) ?_
        refine zg_1 (pc' := 456) (fun _ _ _ _ _ hl w => lv_iadd hx hb zd_L_law_455 w) ?_
        obtain ⟨h_77, hf⟩ := zx_ck hf
        refine zg_3 (pc' := 457) (fun _ _ _ _ _ hS hl w => va_sld hx hb hXs hbl hbA hS (zh_in h_77.1 h_77.2) zd_L_law_456 w) ?_
        obtain ⟨h_79, hf⟩ := zx_ck hf
        obtain ⟨i_80, s_78, hq, hf⟩ := zx_b hf
        refine zg_call (pc' := 460) (y := s_78) (rv := (some (.int i_80))) (rest := [.int i_76]) X hR (zm_M_store hq) (fun H locs ls k j hsz hI hU hk => va_runV (As := [.int (xs (i3 + (1 : Int32)).toNatClampNeg)]) (rest := [.int i_76]) ⟨hx, hb, hml, hown, htT⟩ (zc_M_store l h0 D dA tb n hq) (cwV 1 htT (zw_gV zt_1053 zt_1054 zt_1055 zt_71 zt_1056) rfl rfl rfl (by decide +kernel) ⟨Nat.le_trans (Nat.le_of_ble_eq_true rfl) hF.1, Nat.le_trans (Nat.le_of_ble_eq_true rfl) hF.2⟩) ⟨(zg_pre hU).1, zg_recv hK hI h_79 rfl, (zg_pre hU).2⟩ rfl rfl hsz rfl (lv_room (Nat.le_of_ble_eq_true rfl)) zd_L_law_457 hk) rfl ?_
        refine zg_2 (pc1 := 849) (pc2 := 463) (Classical.em _) (fun _ _ _ _ _ w1 w2 => lv_icmp_eq hx hb zd_L_law_460 (by decide) w1 w2) (fun hc => ?_) (fun hc => ?_)
        · rw [if_pos hc] at hf
          exact zw_L_law_849 X hR hF hret n xs L hXs hbl hbA _ ih s_78 a1 a2 i3 hf
        · rw [if_neg hc] at hf
          refine zg_1 (pc' := 464) (fun _ _ _ _ _ hl w => lv_iconst (v := (0 : Int32)) hx hb zd_L_law_463 (by decide) w) ?_
          obtain ⟨rfl, rfl⟩ := zx_r2 hf
          exact hret (Or.inl rfl) _ _ zd_L_law_464
      rw [if_neg hk10] at hf
      by_cases hk11 : ((xs i3.toNatClampNeg) &&& (31 : Int32)) = 11
      · rw [if_pos hk11] at hf
        refine zg_1 (pc' := 465) (fun _ _ _ _ _ hl w => lv_tableIn hx hb zd_L_law_33 (by rw [hk11]; decide) (by rw [hk11]; decide) (by rw [hk11]; rfl) (by decide) w) ?_
        refine zg_1 (pc' := 466) (fun _ _ _ _ _ hl w => lv_aload_n hx hb zd_L_law_465 rfl (lv_at hl 1 rfl) w) ?_
        refine zg_1 (pc' := 467) (fun _ _ _ _ _ hl w => lv_aload_n hx hb zd_L_law_466 rfl (lv_at hl 0 rfl) w) ?_
        refine zg_1 (pc' := 468) (fun _ _ _ _ _ hl w => lv_iload_n hx hb zd_L_law_467 rfl (lv_at hl 3 rfl) w) ?_
        refine zg_1 (pc' := 469) (fun _ _ _ _ _ hl w => lv_iconst (v := (1 : Int32)) hx hb zd_L_law_468 (by decide) w) ?_
        refine zg_1 (pc' := 470) (fun _ _ _ _ _ hl w => lv_iadd hx hb zd_L_law_469 w) ?_
        obtain ⟨h_81, hf⟩ := zx_ck hf
        refine zg_3 (pc' := 471) (fun _ _ _ _ _ hS hl w => va_sld hx hb hXs hbl hbA hS (zh_in h_81.1 h_81.2) zd_L_law_470 w) ?_
        refine zg_1 (pc' := 472) (fun _ _ _ _ _ hl w => lv_aload_n hx hb zd_L_law_471 rfl (lv_at hl 0 rfl) w) ?_
        refine zg_1 (pc' := 473) (fun _ _ _ _ _ hl w => lv_iload_n hx hb zd_L_law_472 rfl (lv_at hl 3 rfl) w) ?_
        refine zg_1 (pc' := 474) (fun _ _ _ _ _ hl w => lv_iconst (v := (2 : Int32)) hx hb zd_L_law_473 (by decide) w) ?_
        refine zg_1 (pc' := 475) (fun _ _ _ _ _ hl w => lv_iadd hx hb zd_L_law_474 w) ?_
        obtain ⟨h_82, hf⟩ := zx_ck hf
        refine zg_3 (pc' := 476) (fun _ _ _ _ _ hS hl w => va_sld hx hb hXs hbl hbA hS (zh_in h_82.1 h_82.2) zd_L_law_475 w) ?_
        obtain ⟨h_83, hf⟩ := zx_ck hf
        obtain ⟨j_84, hq, hf⟩ := zx_p hf
        refine zg_call (pc' := 479) (y := s0) (rv := (some (.long j_84))) (rest := []) X hR ⟨Nat.le_refl _, Nat.le_refl _⟩ (fun H locs ls k j hsz hI hU hk => va_runV (As := [.int (xs (i3 + (1 : Int32)).toNatClampNeg), .int (xs (i3 + (2 : Int32)).toNatClampNeg)]) (rest := []) ⟨hx, hb, hml, hown, htT⟩ (zc_V_certificate l h0 D dA tb n hq) (cwV 2 htT (zw_gV zt_623 zt_624 zt_625 zt_64 zt_626) rfl rfl rfl (by decide +kernel) ⟨Nat.le_trans (Nat.le_of_ble_eq_true rfl) hF.1, Nat.le_trans (Nat.le_of_ble_eq_true rfl) hF.2⟩) ⟨(zg_pre hU).1, zg_recv hK hI h_83 rfl, (zg_pre hU).2⟩ rfl rfl hsz rfl (lv_room (Nat.le_of_ble_eq_true rfl)) zd_L_law_476 hk) rfl ?_
        refine zg_1 (pc' := 480) (fun _ _ _ _ _ hl w => lv_aload_n hx hb zd_L_law_479 rfl (lv_at hl 2 rfl) w) ?_
        refine zg_1 (pc' := 481) (fun _ _ _ _ _ hl w => lv_aload_n hx hb zd_L_law_480 rfl (lv_at hl 0 rfl) w) ?_
        refine zg_1 (pc' := 482) (fun _ _ _ _ _ hl w => lv_iload_n hx hb zd_L_law_481 rfl (lv_at hl 3 rfl) w) ?_
        refine zg_1 (pc' := 483) (fun _ _ _ _ _ hl w => lv_iconst (v := (1 : Int32)) hx hb zd_L_law_482 (by decide) w) ?_
        refine zg_1 (pc' := 484) (fun _ _ _ _ _ hl w => lv_iadd hx hb zd_L_law_483 w) ?_
        obtain ⟨h_85, hf⟩ := zx_ck hf
        refine zg_3 (pc' := 485) (fun _ _ _ _ _ hS hl w => va_sld hx hb hXs hbl hbA hS (zh_in h_85.1 h_85.2) zd_L_law_484 w) ?_
        refine zg_1 (pc' := 486) (fun _ _ _ _ _ hl w => lv_aload_n hx hb zd_L_law_485 rfl (lv_at hl 0 rfl) w) ?_
        refine zg_1 (pc' := 487) (fun _ _ _ _ _ hl w => lv_iload_n hx hb zd_L_law_486 rfl (lv_at hl 3 rfl) w) ?_
        refine zg_1 (pc' := 488) (fun _ _ _ _ _ hl w => lv_iconst (v := (2 : Int32)) hx hb zd_L_law_487 (by decide) w) ?_
        refine zg_1 (pc' := 489) (fun _ _ _ _ _ hl w => lv_iadd hx hb zd_L_law_488 w) ?_
        obtain ⟨h_86, hf⟩ := zx_ck hf
        refine zg_3 (pc' := 490) (fun _ _ _ _ _ hS hl w => va_sld hx hb hXs hbl hbA hS (zh_in h_86.1 h_86.2) zd_L_law_489 w) ?_
        obtain ⟨h_87, hf⟩ := zx_ck hf
        obtain ⟨j_88, hq, hf⟩ := zx_p hf
        refine zg_call (pc' := 493) (y := s0) (rv := (some (.long j_88))) (rest := [.long j_84]) X hR ⟨Nat.le_refl _, Nat.le_refl _⟩ (fun H locs ls k j hsz hI hU hk => va_runV (As := [.int (xs (i3 + (1 : Int32)).toNatClampNeg), .int (xs (i3 + (2 : Int32)).toNatClampNeg)]) (rest := [.long j_84]) ⟨hx, hb, hml, hown, htT⟩ (zc_M_certificate l h0 D dA tb n hq) (cwV 2 htT (zw_gV zt_1062 zt_1063 zt_1064 zt_71 zt_1065) rfl rfl rfl (by decide +kernel) ⟨Nat.le_trans (Nat.le_of_ble_eq_true rfl) hF.1, Nat.le_trans (Nat.le_of_ble_eq_true rfl) hF.2⟩) ⟨(zg_pre hU).1, zg_recv hK hI h_87 rfl, (zg_pre hU).2⟩ rfl rfl hsz rfl (lv_room (Nat.le_of_ble_eq_true rfl)) zd_L_law_490 hk) rfl ?_
        refine zg_1 (pc' := 494) (fun _ _ _ _ _ hl w => W.lcmp hx hb zd_L_law_493 w) ?_
        refine zg_2 (pc1 := 849) (pc2 := 497) (Classical.em _) (fun _ _ _ _ _ w1 w2 => lv_if_eq hx hb zd_L_law_494 (by decide) w1 w2) (fun hc => ?_) (fun hc => ?_)
        · rw [if_pos hc] at hf
          exact zw_L_law_849 X hR hF hret n xs L hXs hbl hbA _ ih s0 a1 a2 i3 hf
        · rw [if_neg hc] at hf
          refine zg_1 (pc' := 498) (fun _ _ _ _ _ hl w => lv_iconst (v := (0 : Int32)) hx hb zd_L_law_497 (by decide) w) ?_
          obtain ⟨rfl, rfl⟩ := zx_r2 hf
          exact hret (Or.inl rfl) _ _ zd_L_law_498
      rw [if_neg hk11] at hf
      by_cases hk12 : ((xs i3.toNatClampNeg) &&& (31 : Int32)) = 12
      · rw [if_pos hk12] at hf
        refine zg_1 (pc' := 499) (fun _ _ _ _ _ hl w => lv_tableIn hx hb zd_L_law_33 (by rw [hk12]; decide) (by rw [hk12]; decide) (by rw [hk12]; rfl) (by decide) w) ?_
        refine zg_1 (pc' := 500) (fun _ _ _ _ _ hl w => lv_aload_n hx hb zd_L_law_499 rfl (lv_at hl 1 rfl) w) ?_
        refine zg_1 (pc' := 501) (fun _ _ _ _ _ hl w => lv_aload_n hx hb zd_L_law_500 rfl (lv_at hl 0 rfl) w) ?_
        refine zg_1 (pc' := 502) (fun _ _ _ _ _ hl w => lv_iload_n hx hb zd_L_law_501 rfl (lv_at hl 3 rfl) w) ?_
        refine zg_1 (pc' := 503) (fun _ _ _ _ _ hl w => lv_iconst (v := (1 : Int32)) hx hb zd_L_law_502 (by decide) w) ?_
        refine zg_1 (pc' := 504) (fun _ _ _ _ _ hl w => lv_iadd hx hb zd_L_law_503 w) ?_
        obtain ⟨h_89, hf⟩ := zx_ck hf
        refine zg_3 (pc' := 505) (fun _ _ _ _ _ hS hl w => va_sld hx hb hXs hbl hbA hS (zh_in h_89.1 h_89.2) zd_L_law_504 w) ?_
        refine zg_1 (pc' := 506) (fun _ _ _ _ _ hl w => lv_aload_n hx hb zd_L_law_505 rfl (lv_at hl 0 rfl) w) ?_
        refine zg_1 (pc' := 507) (fun _ _ _ _ _ hl w => lv_iload_n hx hb zd_L_law_506 rfl (lv_at hl 3 rfl) w) ?_
        refine zg_1 (pc' := 508) (fun _ _ _ _ _ hl w => lv_iconst (v := (2 : Int32)) hx hb zd_L_law_507 (by decide) w) ?_
        refine zg_1 (pc' := 509) (fun _ _ _ _ _ hl w => lv_iadd hx hb zd_L_law_508 w) ?_
        obtain ⟨h_90, hf⟩ := zx_ck hf
        refine zg_3 (pc' := 510) (fun _ _ _ _ _ hS hl w => va_sld hx hb hXs hbl hbA hS (zh_in h_90.1 h_90.2) zd_L_law_509 w) ?_
        obtain ⟨h_91, hf⟩ := zx_ck hf
        obtain ⟨j_92, hq, hf⟩ := zx_p hf
        refine zg_call (pc' := 513) (y := s0) (rv := (some (.long j_92))) (rest := []) X hR ⟨Nat.le_refl _, Nat.le_refl _⟩ (fun H locs ls k j hsz hI hU hk => va_runV (As := [.int (xs (i3 + (1 : Int32)).toNatClampNeg), .int (xs (i3 + (2 : Int32)).toNatClampNeg)]) (rest := []) ⟨hx, hb, hml, hown, htT⟩ (zc_V_list l h0 D dA tb n hq) (cwV 2 htT (zw_gV zt_636 zt_637 zt_638 zt_64 zt_639) rfl rfl rfl (by decide +kernel) ⟨Nat.le_trans (Nat.le_of_ble_eq_true rfl) hF.1, Nat.le_trans (Nat.le_of_ble_eq_true rfl) hF.2⟩) ⟨(zg_pre hU).1, zg_recv hK hI h_91 rfl, (zg_pre hU).2⟩ rfl rfl hsz rfl (lv_room (Nat.le_of_ble_eq_true rfl)) zd_L_law_510 hk) rfl ?_
        refine zg_1 (pc' := 514) (fun _ _ _ _ _ hl w => lv_aload_n hx hb zd_L_law_513 rfl (lv_at hl 2 rfl) w) ?_
        refine zg_1 (pc' := 515) (fun _ _ _ _ _ hl w => lv_aload_n hx hb zd_L_law_514 rfl (lv_at hl 0 rfl) w) ?_
        refine zg_1 (pc' := 516) (fun _ _ _ _ _ hl w => lv_iload_n hx hb zd_L_law_515 rfl (lv_at hl 3 rfl) w) ?_
        refine zg_1 (pc' := 517) (fun _ _ _ _ _ hl w => lv_iconst (v := (1 : Int32)) hx hb zd_L_law_516 (by decide) w) ?_
        refine zg_1 (pc' := 518) (fun _ _ _ _ _ hl w => lv_iadd hx hb zd_L_law_517 w) ?_
        obtain ⟨h_93, hf⟩ := zx_ck hf
        refine zg_3 (pc' := 519) (fun _ _ _ _ _ hS hl w => va_sld hx hb hXs hbl hbA hS (zh_in h_93.1 h_93.2) zd_L_law_518 w) ?_
        refine zg_1 (pc' := 520) (fun _ _ _ _ _ hl w => lv_aload_n hx hb zd_L_law_519 rfl (lv_at hl 0 rfl) w) ?_
        refine zg_1 (pc' := 521) (fun _ _ _ _ _ hl w => lv_iload_n hx hb zd_L_law_520 rfl (lv_at hl 3 rfl) w) ?_
        refine zg_1 (pc' := 522) (fun _ _ _ _ _ hl w => lv_iconst (v := (2 : Int32)) hx hb zd_L_law_521 (by decide) w) ?_
        refine zg_1 (pc' := 523) (fun _ _ _ _ _ hl w => lv_iadd hx hb zd_L_law_522 w) ?_
        obtain ⟨h_94, hf⟩ := zx_ck hf
        refine zg_3 (pc' := 524) (fun _ _ _ _ _ hS hl w => va_sld hx hb hXs hbl hbA hS (zh_in h_94.1 h_94.2) zd_L_law_523 w) ?_
        obtain ⟨h_95, hf⟩ := zx_ck hf
        obtain ⟨j_96, hq, hf⟩ := zx_p hf
        refine zg_call (pc' := 527) (y := s0) (rv := (some (.long j_96))) (rest := [.long j_92]) X hR ⟨Nat.le_refl _, Nat.le_refl _⟩ (fun H locs ls k j hsz hI hU hk => va_runV (As := [.int (xs (i3 + (1 : Int32)).toNatClampNeg), .int (xs (i3 + (2 : Int32)).toNatClampNeg)]) (rest := [.long j_92]) ⟨hx, hb, hml, hown, htT⟩ (zc_M_list l h0 D dA tb n hq) (cwV 2 htT (zw_gV zt_1070 zt_1071 zt_1072 zt_71 zt_1073) rfl rfl rfl (by decide +kernel) ⟨Nat.le_trans (Nat.le_of_ble_eq_true rfl) hF.1, Nat.le_trans (Nat.le_of_ble_eq_true rfl) hF.2⟩) ⟨(zg_pre hU).1, zg_recv hK hI h_95 rfl, (zg_pre hU).2⟩ rfl rfl hsz rfl (lv_room (Nat.le_of_ble_eq_true rfl)) zd_L_law_524 hk) rfl ?_
        refine zg_1 (pc' := 528) (fun _ _ _ _ _ hl w => W.lcmp hx hb zd_L_law_527 w) ?_
        refine zg_2 (pc1 := 849) (pc2 := 531) (Classical.em _) (fun _ _ _ _ _ w1 w2 => lv_if_eq hx hb zd_L_law_528 (by decide) w1 w2) (fun hc => ?_) (fun hc => ?_)
        · rw [if_pos hc] at hf
          exact zw_L_law_849 X hR hF hret n xs L hXs hbl hbA _ ih s0 a1 a2 i3 hf
        · rw [if_neg hc] at hf
          refine zg_1 (pc' := 532) (fun _ _ _ _ _ hl w => lv_iconst (v := (0 : Int32)) hx hb zd_L_law_531 (by decide) w) ?_
          obtain ⟨rfl, rfl⟩ := zx_r2 hf
          exact hret (Or.inl rfl) _ _ zd_L_law_532
      rw [if_neg hk12] at hf
      by_cases hk13 : ((xs i3.toNatClampNeg) &&& (31 : Int32)) = 13
      · rw [if_pos hk13] at hf
        refine zg_1 (pc' := 533) (fun _ _ _ _ _ hl w => lv_tableIn hx hb zd_L_law_33 (by rw [hk13]; decide) (by rw [hk13]; decide) (by rw [hk13]; rfl) (by decide) w) ?_
        refine zg_1 (pc' := 534) (fun _ _ _ _ _ hl w => lv_aload_n hx hb zd_L_law_533 rfl (lv_at hl 1 rfl) w) ?_
        refine zg_1 (pc' := 535) (fun _ _ _ _ _ hl w => lv_aload_n hx hb zd_L_law_534 rfl (lv_at hl 0 rfl) w) ?_
        refine zg_1 (pc' := 536) (fun _ _ _ _ _ hl w => lv_iload_n hx hb zd_L_law_535 rfl (lv_at hl 3 rfl) w) ?_
        refine zg_1 (pc' := 537) (fun _ _ _ _ _ hl w => lv_iconst (v := (1 : Int32)) hx hb zd_L_law_536 (by decide) w) ?_
        refine zg_1 (pc' := 538) (fun _ _ _ _ _ hl w => lv_iadd hx hb zd_L_law_537 w) ?_
        obtain ⟨h_97, hf⟩ := zx_ck hf
        refine zg_3 (pc' := 539) (fun _ _ _ _ _ hS hl w => va_sld hx hb hXs hbl hbA hS (zh_in h_97.1 h_97.2) zd_L_law_538 w) ?_
        refine zg_1 (pc' := 540) (fun _ _ _ _ _ hl w => lv_aload_n hx hb zd_L_law_539 rfl (lv_at hl 0 rfl) w) ?_
        refine zg_1 (pc' := 541) (fun _ _ _ _ _ hl w => lv_iload_n hx hb zd_L_law_540 rfl (lv_at hl 3 rfl) w) ?_
        refine zg_1 (pc' := 542) (fun _ _ _ _ _ hl w => lv_iconst (v := (2 : Int32)) hx hb zd_L_law_541 (by decide) w) ?_
        refine zg_1 (pc' := 543) (fun _ _ _ _ _ hl w => lv_iadd hx hb zd_L_law_542 w) ?_
        obtain ⟨h_98, hf⟩ := zx_ck hf
        refine zg_3 (pc' := 544) (fun _ _ _ _ _ hS hl w => va_sld hx hb hXs hbl hbA hS (zh_in h_98.1 h_98.2) zd_L_law_543 w) ?_
        refine zg_1 (pc' := 545) (fun _ _ _ _ _ hl w => lv_i2l (v := (xs (i3 + (2 : Int32)).toNatClampNeg).toInt64) hx hb zd_L_law_544 rfl w) ?_
        refine zg_1 (pc' := 547) (fun _ _ _ _ _ hl w => lv_bipush (v := (32 : Int32)) hx hb zd_L_law_545 (by decide) w) ?_
        refine zg_1 (pc' := 548) (fun _ _ _ _ _ hl w => lv_lshl (v := ((xs (i3 + (2 : Int32)).toNatClampNeg).toInt64 <<< ((32 : Int32).toInt64 &&& 63))) hx hb zd_L_law_547 rfl w) ?_
        refine zg_1 (pc' := 549) (fun _ _ _ _ _ hl w => lv_aload_n hx hb zd_L_law_548 rfl (lv_at hl 0 rfl) w) ?_
        refine zg_1 (pc' := 550) (fun _ _ _ _ _ hl w => lv_iload_n hx hb zd_L_law_549 rfl (lv_at hl 3 rfl) w) ?_
        refine zg_1 (pc' := 551) (fun _ _ _ _ _ hl w => lv_iconst (v := (3 : Int32)) hx hb zd_L_law_550 (by decide) w) ?_
        refine zg_1 (pc' := 552) (fun _ _ _ _ _ hl w => lv_iadd hx hb zd_L_law_551 w) ?_
        obtain ⟨h_99, hf⟩ := zx_ck hf
        refine zg_3 (pc' := 553) (fun _ _ _ _ _ hS hl w => va_sld hx hb hXs hbl hbA hS (zh_in h_99.1 h_99.2) zd_L_law_552 w) ?_
        refine zg_1 (pc' := 554) (fun _ _ _ _ _ hl w => lv_i2l (v := (xs (i3 + (3 : Int32)).toNatClampNeg).toInt64) hx hb zd_L_law_553 rfl w) ?_
        refine zg_1 (pc' := 557) (fun _ _ _ _ _ hl w => lv_ldc2 (v := (4294967295 : Int64)) hx hb hown (htT _ zt_1130) zd_L_law_554 w) ?_
        refine zg_1 (pc' := 558) (fun _ _ _ _ _ hl w => lv_land hx hb zd_L_law_557 w) ?_
        refine zg_1 (pc' := 559) (fun _ _ _ _ _ hl w => lv_lor hx hb zd_L_law_558 w) ?_
        refine zg_1 (pc' := 560) (fun _ _ _ _ _ hl w => lv_aload_n hx hb zd_L_law_559 rfl (lv_at hl 0 rfl) w) ?_
        refine zg_1 (pc' := 561) (fun _ _ _ _ _ hl w => lv_iload_n hx hb zd_L_law_560 rfl (lv_at hl 3 rfl) w) ?_
        refine zg_1 (pc' := 562) (fun _ _ _ _ _ hl w => lv_iconst (v := (4 : Int32)) hx hb zd_L_law_561 (by decide) w) ?_
        refine zg_1 (pc' := 563) (fun _ _ _ _ _ hl w => lv_iadd hx hb zd_L_law_562 w) ?_
        obtain ⟨h_100, hf⟩ := zx_ck hf
        refine zg_3 (pc' := 564) (fun _ _ _ _ _ hS hl w => va_sld hx hb hXs hbl hbA hS (zh_in h_100.1 h_100.2) zd_L_law_563 w) ?_
        refine zg_1 (pc' := 565) (fun _ _ _ _ _ hl w => lv_aload_n hx hb zd_L_law_564 rfl (lv_at hl 0 rfl) w) ?_
        refine zg_1 (pc' := 566) (fun _ _ _ _ _ hl w => lv_iload_n hx hb zd_L_law_565 rfl (lv_at hl 3 rfl) w) ?_
        refine zg_1 (pc' := 567) (fun _ _ _ _ _ hl w => lv_iconst (v := (5 : Int32)) hx hb zd_L_law_566 (by decide) w) ?_
        refine zg_1 (pc' := 568) (fun _ _ _ _ _ hl w => lv_iadd hx hb zd_L_law_567 w) ?_
        obtain ⟨h_101, hf⟩ := zx_ck hf
        refine zg_3 (pc' := 569) (fun _ _ _ _ _ hS hl w => va_sld hx hb hXs hbl hbA hS (zh_in h_101.1 h_101.2) zd_L_law_568 w) ?_
        refine zg_2 (pc1 := 576) (pc2 := 572) (Classical.em _) (fun _ _ _ _ _ w1 w2 => lv_if_eq hx hb zd_L_law_569 (by decide) w1 w2) (fun hc => ?_) (fun hc => ?_)
        · rw [if_pos hc] at hf
          refine zg_1 (pc' := 577) (fun _ _ _ _ _ hl w => lv_iconst (v := (0 : Int32)) hx hb zd_L_law_576 (by decide) w) ?_
          exact zw_L_law_577 X hR hF hret n xs L hXs hbl hbA _ ih s0 a1 a2 i3 a1 (xs (i3 + (1 : Int32)).toNatClampNeg) (((xs (i3 + (2 : Int32)).toNatClampNeg).toInt64 <<< ((32 : Int32).toInt64 &&& 63)) ||| ((xs (i3 + (3 : Int32)).toNatClampNeg).toInt64 &&& (4294967295 : Int64))) (xs (i3 + (4 : Int32)).toNatClampNeg) (0 : Int32) hf
        · rw [if_neg hc] at hf
          refine zg_1 (pc' := 573) (fun _ _ _ _ _ hl w => lv_iconst (v := (1 : Int32)) hx hb zd_L_law_572 (by decide) w) ?_
          refine zg_1 (pc' := 577) (fun _ _ _ _ _ hl w => lv_goto hx hb zd_L_law_573 (by decide) w) ?_
          exact zw_L_law_577 X hR hF hret n xs L hXs hbl hbA _ ih s0 a1 a2 i3 a1 (xs (i3 + (1 : Int32)).toNatClampNeg) (((xs (i3 + (2 : Int32)).toNatClampNeg).toInt64 <<< ((32 : Int32).toInt64 &&& 63)) ||| ((xs (i3 + (3 : Int32)).toNatClampNeg).toInt64 &&& (4294967295 : Int64))) (xs (i3 + (4 : Int32)).toNatClampNeg) (1 : Int32) hf
      rw [if_neg hk13] at hf
      by_cases hk14 : ((xs i3.toNatClampNeg) &&& (31 : Int32)) = 14
      · rw [if_pos hk14] at hf
        refine zg_1 (pc' := 632) (fun _ _ _ _ _ hl w => lv_tableIn hx hb zd_L_law_33 (by rw [hk14]; decide) (by rw [hk14]; decide) (by rw [hk14]; rfl) (by decide) w) ?_
        refine zg_1 (pc' := 633) (fun _ _ _ _ _ hl w => lv_aload_n hx hb zd_L_law_632 rfl (lv_at hl 1 rfl) w) ?_
        refine zg_1 (pc' := 634) (fun _ _ _ _ _ hl w => lv_aload_n hx hb zd_L_law_633 rfl (lv_at hl 0 rfl) w) ?_
        refine zg_1 (pc' := 635) (fun _ _ _ _ _ hl w => lv_iload_n hx hb zd_L_law_634 rfl (lv_at hl 3 rfl) w) ?_
        refine zg_1 (pc' := 636) (fun _ _ _ _ _ hl w => lv_iconst (v := (1 : Int32)) hx hb zd_L_law_635 (by decide) w) ?_
        refine zg_1 (pc' := 637) (fun _ _ _ _ _ hl w => lv_iadd hx hb zd_L_law_636 w) ?_
        obtain ⟨h_102, hf⟩ := zx_ck hf
        refine zg_3 (pc' := 638) (fun _ _ _ _ _ hS hl w => va_sld hx hb hXs hbl hbA hS (zh_in h_102.1 h_102.2) zd_L_law_637 w) ?_
        obtain ⟨h_103, hf⟩ := zx_ck hf
        obtain ⟨i_104, hq, hf⟩ := zx_p hf
        refine zg_call (pc' := 641) (y := s0) (rv := (some (.int i_104))) (rest := []) X hR ⟨Nat.le_refl _, Nat.le_refl _⟩ (fun H locs ls k j hsz hI hU hk => va_runV (As := [.int (xs (i3 + (1 : Int32)).toNatClampNeg)]) (rest := []) ⟨hx, hb, hml, hown, htT⟩ (zc_V_chain l h0 D dA tb n hq) (cwV 1 htT (zw_gV zt_756 zt_757 zt_758 zt_64 zt_759) rfl rfl rfl (by decide +kernel) ⟨Nat.le_trans (Nat.le_of_ble_eq_true rfl) hF.1, Nat.le_trans (Nat.le_of_ble_eq_true rfl) hF.2⟩) ⟨(zg_pre hU).1, zg_recv hK hI h_103 rfl, (zg_pre hU).2⟩ rfl rfl hsz rfl (lv_room (Nat.le_of_ble_eq_true rfl)) zd_L_law_638 hk) rfl ?_
        refine zg_1 (pc' := 642) (fun _ _ _ _ _ hl w => lv_aload_n hx hb zd_L_law_641 rfl (lv_at hl 2 rfl) w) ?_
        refine zg_1 (pc' := 643) (fun _ _ _ _ _ hl w => lv_aload_n hx hb zd_L_law_642 rfl (lv_at hl 0 rfl) w) ?_
        refine zg_1 (pc' := 644) (fun _ _ _ _ _ hl w => lv_iload_n hx hb zd_L_law_643 rfl (lv_at hl 3 rfl) w) ?_
        refine zg_1 (pc' := 645) (fun _ _ _ _ _ hl w => lv_iconst (v := (1 : Int32)) hx hb zd_L_law_644 (by decide) w) ?_
        refine zg_1 (pc' := 646) (fun _ _ _ _ _ hl w => lv_iadd hx hb zd_L_law_645 w) ?_
        obtain ⟨h_105, hf⟩ := zx_ck hf
        refine zg_3 (pc' := 647) (fun _ _ _ _ _ hS hl w => va_sld hx hb hXs hbl hbA hS (zh_in h_105.1 h_105.2) zd_L_law_646 w) ?_
        obtain ⟨h_106, hf⟩ := zx_ck hf
        obtain ⟨i_107, hq, hf⟩ := zx_p hf
        refine zg_call (pc' := 650) (y := s0) (rv := (some (.int i_107))) (rest := [.int i_104]) X hR ⟨Nat.le_refl _, Nat.le_refl _⟩ (fun H locs ls k j hsz hI hU hk => va_runV (As := [.int (xs (i3 + (1 : Int32)).toNatClampNeg)]) (rest := [.int i_104]) ⟨hx, hb, hml, hown, htT⟩ (zc_M_chain l h0 D dA tb n hq) (cwV 1 htT (zw_gV zt_1122 zt_1123 zt_1124 zt_71 zt_1125) rfl rfl rfl (by decide +kernel) ⟨Nat.le_trans (Nat.le_of_ble_eq_true rfl) hF.1, Nat.le_trans (Nat.le_of_ble_eq_true rfl) hF.2⟩) ⟨(zg_pre hU).1, zg_recv hK hI h_106 rfl, (zg_pre hU).2⟩ rfl rfl hsz rfl (lv_room (Nat.le_of_ble_eq_true rfl)) zd_L_law_647 hk) rfl ?_
        refine zg_2 (pc1 := 849) (pc2 := 653) (Classical.em _) (fun _ _ _ _ _ w1 w2 => lv_icmp_eq hx hb zd_L_law_650 (by decide) w1 w2) (fun hc => ?_) (fun hc => ?_)
        · rw [if_pos hc] at hf
          exact zw_L_law_849 X hR hF hret n xs L hXs hbl hbA _ ih s0 a1 a2 i3 hf
        · rw [if_neg hc] at hf
          refine zg_1 (pc' := 654) (fun _ _ _ _ _ hl w => lv_iconst (v := (0 : Int32)) hx hb zd_L_law_653 (by decide) w) ?_
          obtain ⟨rfl, rfl⟩ := zx_r2 hf
          exact hret (Or.inl rfl) _ _ zd_L_law_654
      rw [if_neg hk14] at hf
      by_cases hk15 : ((xs i3.toNatClampNeg) &&& (31 : Int32)) = 15
      · rw [if_pos hk15] at hf
        refine zg_1 (pc' := 655) (fun _ _ _ _ _ hl w => lv_tableIn hx hb zd_L_law_33 (by rw [hk15]; decide) (by rw [hk15]; decide) (by rw [hk15]; rfl) (by decide) w) ?_
        refine zg_1 (pc' := 656) (fun _ _ _ _ _ hl w => lv_aload_n hx hb zd_L_law_655 rfl (lv_at hl 1 rfl) w) ?_
        obtain ⟨h_108, hf⟩ := zx_ck hf
        obtain ⟨i_109, hq, hf⟩ := zx_p hf
        refine zg_call (pc' := 659) (y := s0) (rv := (some (.int i_109))) (rest := []) X hR ⟨Nat.le_refl _, Nat.le_refl _⟩ (fun H locs ls k j hsz hI hU hk => va_runV (As := []) (rest := []) ⟨hx, hb, hml, hown, htT⟩ (zc_V_candidates l h0 D dA tb n hq) (cwV 0 htT (zw_gV zt_764 zt_765 zt_766 zt_64 zt_767) rfl rfl rfl (by decide +kernel) ⟨Nat.le_trans (Nat.le_of_ble_eq_true rfl) hF.1, Nat.le_trans (Nat.le_of_ble_eq_true rfl) hF.2⟩) ⟨(zg_pre hU).1, zg_recv hK hI h_108 rfl, (zg_pre hU).2⟩ rfl rfl hsz rfl (lv_room (Nat.le_of_ble_eq_true rfl)) zd_L_law_656 hk) rfl ?_
        refine zg_1 (pc' := 660) (fun _ _ _ _ _ hl w => lv_aload_n hx hb zd_L_law_659 rfl (lv_at hl 2 rfl) w) ?_
        obtain ⟨h_110, hf⟩ := zx_ck hf
        obtain ⟨i_111, hq, hf⟩ := zx_p hf
        refine zg_call (pc' := 663) (y := s0) (rv := (some (.int i_111))) (rest := [.int i_109]) X hR ⟨Nat.le_refl _, Nat.le_refl _⟩ (fun H locs ls k j hsz hI hU hk => va_runV (As := []) (rest := [.int i_109]) ⟨hx, hb, hml, hown, htT⟩ (zc_M_candidates l h0 D dA tb n hq) (cwV 0 htT (zw_gV zt_1126 zt_1127 zt_1128 zt_71 zt_1129) rfl rfl rfl (by decide +kernel) ⟨Nat.le_trans (Nat.le_of_ble_eq_true rfl) hF.1, Nat.le_trans (Nat.le_of_ble_eq_true rfl) hF.2⟩) ⟨(zg_pre hU).1, zg_recv hK hI h_110 rfl, (zg_pre hU).2⟩ rfl rfl hsz rfl (lv_room (Nat.le_of_ble_eq_true rfl)) zd_L_law_660 hk) rfl ?_
        refine zg_2 (pc1 := 849) (pc2 := 666) (Classical.em _) (fun _ _ _ _ _ w1 w2 => lv_icmp_eq hx hb zd_L_law_663 (by decide) w1 w2) (fun hc => ?_) (fun hc => ?_)
        · rw [if_pos hc] at hf
          exact zw_L_law_849 X hR hF hret n xs L hXs hbl hbA _ ih s0 a1 a2 i3 hf
        · rw [if_neg hc] at hf
          refine zg_1 (pc' := 667) (fun _ _ _ _ _ hl w => lv_iconst (v := (0 : Int32)) hx hb zd_L_law_666 (by decide) w) ?_
          obtain ⟨rfl, rfl⟩ := zx_r2 hf
          exact hret (Or.inl rfl) _ _ zd_L_law_667
      rw [if_neg hk15] at hf
      by_cases hk16 : ((xs i3.toNatClampNeg) &&& (31 : Int32)) = 16
      · rw [if_pos hk16] at hf
        refine zg_1 (pc' := 668) (fun _ _ _ _ _ hl w => lv_tableIn hx hb zd_L_law_33 (by rw [hk16]; decide) (by rw [hk16]; decide) (by rw [hk16]; rfl) (by decide) w) ?_
        refine zg_1 (pc' := 669) (fun _ _ _ _ _ hl w => lv_aload_n hx hb zd_L_law_668 rfl (lv_at hl 1 rfl) w) ?_
        refine zg_1 (pc' := 670) (fun _ _ _ _ _ hl w => lv_aload_n hx hb zd_L_law_669 rfl (lv_at hl 0 rfl) w) ?_
        refine zg_1 (pc' := 671) (fun _ _ _ _ _ hl w => lv_iload_n hx hb zd_L_law_670 rfl (lv_at hl 3 rfl) w) ?_
        refine zg_1 (pc' := 672) (fun _ _ _ _ _ hl w => lv_iconst (v := (1 : Int32)) hx hb zd_L_law_671 (by decide) w) ?_
        refine zg_1 (pc' := 673) (fun _ _ _ _ _ hl w => lv_iadd hx hb zd_L_law_672 w) ?_
        obtain ⟨h_112, hf⟩ := zx_ck hf
        refine zg_3 (pc' := 674) (fun _ _ _ _ _ hS hl w => va_sld hx hb hXs hbl hbA hS (zh_in h_112.1 h_112.2) zd_L_law_673 w) ?_
        refine zg_1 (pc' := 675) (fun _ _ _ _ _ hl w => lv_aload_n hx hb zd_L_law_674 rfl (lv_at hl 0 rfl) w) ?_
        refine zg_1 (pc' := 676) (fun _ _ _ _ _ hl w => lv_iload_n hx hb zd_L_law_675 rfl (lv_at hl 3 rfl) w) ?_
        refine zg_1 (pc' := 677) (fun _ _ _ _ _ hl w => lv_iconst (v := (2 : Int32)) hx hb zd_L_law_676 (by decide) w) ?_
        refine zg_1 (pc' := 678) (fun _ _ _ _ _ hl w => lv_iadd hx hb zd_L_law_677 w) ?_
        obtain ⟨h_113, hf⟩ := zx_ck hf
        refine zg_3 (pc' := 679) (fun _ _ _ _ _ hS hl w => va_sld hx hb hXs hbl hbA hS (zh_in h_113.1 h_113.2) zd_L_law_678 w) ?_
        obtain ⟨h_114, hf⟩ := zx_ck hf
        obtain ⟨j_115, hq, hf⟩ := zx_p hf
        refine zg_call (pc' := 682) (y := s0) (rv := (some (.long j_115))) (rest := []) X hR ⟨Nat.le_refl _, Nat.le_refl _⟩ (fun H locs ls k j hsz hI hU hk => va_runV (As := [.int (xs (i3 + (1 : Int32)).toNatClampNeg), .int (xs (i3 + (2 : Int32)).toNatClampNeg)]) (rest := []) ⟨hx, hb, hml, hown, htT⟩ (zc_V_sign l h0 D dA tb n hq) (cwV 2 htT (zw_gV zt_768 zt_769 zt_770 zt_64 zt_771) rfl rfl rfl (by decide +kernel) ⟨Nat.le_trans (Nat.le_of_ble_eq_true rfl) hF.1, Nat.le_trans (Nat.le_of_ble_eq_true rfl) hF.2⟩) ⟨(zg_pre hU).1, zg_recv hK hI h_114 rfl, (zg_pre hU).2⟩ rfl rfl hsz rfl (lv_room (Nat.le_of_ble_eq_true rfl)) zd_L_law_679 hk) rfl ?_
        refine zg_1 (pc' := 683) (fun _ _ _ _ _ hl w => lv_aload_n hx hb zd_L_law_682 rfl (lv_at hl 2 rfl) w) ?_
        refine zg_1 (pc' := 684) (fun _ _ _ _ _ hl w => lv_aload_n hx hb zd_L_law_683 rfl (lv_at hl 0 rfl) w) ?_
        refine zg_1 (pc' := 685) (fun _ _ _ _ _ hl w => lv_iload_n hx hb zd_L_law_684 rfl (lv_at hl 3 rfl) w) ?_
        refine zg_1 (pc' := 686) (fun _ _ _ _ _ hl w => lv_iconst (v := (1 : Int32)) hx hb zd_L_law_685 (by decide) w) ?_
        refine zg_1 (pc' := 687) (fun _ _ _ _ _ hl w => lv_iadd hx hb zd_L_law_686 w) ?_
        obtain ⟨h_116, hf⟩ := zx_ck hf
        refine zg_3 (pc' := 688) (fun _ _ _ _ _ hS hl w => va_sld hx hb hXs hbl hbA hS (zh_in h_116.1 h_116.2) zd_L_law_687 w) ?_
        refine zg_1 (pc' := 689) (fun _ _ _ _ _ hl w => lv_aload_n hx hb zd_L_law_688 rfl (lv_at hl 0 rfl) w) ?_
        refine zg_1 (pc' := 690) (fun _ _ _ _ _ hl w => lv_iload_n hx hb zd_L_law_689 rfl (lv_at hl 3 rfl) w) ?_
        refine zg_1 (pc' := 691) (fun _ _ _ _ _ hl w => lv_iconst (v := (2 : Int32)) hx hb zd_L_law_690 (by decide) w) ?_
        refine zg_1 (pc' := 692) (fun _ _ _ _ _ hl w => lv_iadd hx hb zd_L_law_691 w) ?_
        obtain ⟨h_117, hf⟩ := zx_ck hf
        refine zg_3 (pc' := 693) (fun _ _ _ _ _ hS hl w => va_sld hx hb hXs hbl hbA hS (zh_in h_117.1 h_117.2) zd_L_law_692 w) ?_
        obtain ⟨h_118, hf⟩ := zx_ck hf
        obtain ⟨j_119, hq, hf⟩ := zx_p hf
        refine zg_call (pc' := 696) (y := s0) (rv := (some (.long j_119))) (rest := [.long j_115]) X hR ⟨Nat.le_refl _, Nat.le_refl _⟩ (fun H locs ls k j hsz hI hU hk => va_runV (As := [.int (xs (i3 + (1 : Int32)).toNatClampNeg), .int (xs (i3 + (2 : Int32)).toNatClampNeg)]) (rest := [.long j_115]) ⟨hx, hb, hml, hown, htT⟩ (zc_M_sign l h0 D dA tb n hq) (cwV 2 htT (zw_gV zt_887 zt_888 zt_889 zt_71 zt_890) rfl rfl rfl (by decide +kernel) ⟨Nat.le_trans (Nat.le_of_ble_eq_true rfl) hF.1, Nat.le_trans (Nat.le_of_ble_eq_true rfl) hF.2⟩) ⟨(zg_pre hU).1, zg_recv hK hI h_118 rfl, (zg_pre hU).2⟩ rfl rfl hsz rfl (lv_room (Nat.le_of_ble_eq_true rfl)) zd_L_law_693 hk) rfl ?_
        refine zg_1 (pc' := 697) (fun _ _ _ _ _ hl w => W.lcmp hx hb zd_L_law_696 w) ?_
        refine zg_2 (pc1 := 849) (pc2 := 700) (Classical.em _) (fun _ _ _ _ _ w1 w2 => lv_if_eq hx hb zd_L_law_697 (by decide) w1 w2) (fun hc => ?_) (fun hc => ?_)
        · rw [if_pos hc] at hf
          exact zw_L_law_849 X hR hF hret n xs L hXs hbl hbA _ ih s0 a1 a2 i3 hf
        · rw [if_neg hc] at hf
          refine zg_1 (pc' := 701) (fun _ _ _ _ _ hl w => lv_iconst (v := (0 : Int32)) hx hb zd_L_law_700 (by decide) w) ?_
          obtain ⟨rfl, rfl⟩ := zx_r2 hf
          exact hret (Or.inl rfl) _ _ zd_L_law_701
      rw [if_neg hk16] at hf
      by_cases hk17 : ((xs i3.toNatClampNeg) &&& (31 : Int32)) = 17
      · rw [if_pos hk17] at hf
        refine zg_1 (pc' := 702) (fun _ _ _ _ _ hl w => lv_tableIn hx hb zd_L_law_33 (by rw [hk17]; decide) (by rw [hk17]; decide) (by rw [hk17]; rfl) (by decide) w) ?_
        refine zg_1 (pc' := 703) (fun _ _ _ _ _ hl w => lv_aload_n hx hb zd_L_law_702 rfl (lv_at hl 1 rfl) w) ?_
        refine zg_1 (pc' := 704) (fun _ _ _ _ _ hl w => lv_aload_n hx hb zd_L_law_703 rfl (lv_at hl 0 rfl) w) ?_
        refine zg_1 (pc' := 705) (fun _ _ _ _ _ hl w => lv_iload_n hx hb zd_L_law_704 rfl (lv_at hl 3 rfl) w) ?_
        refine zg_1 (pc' := 706) (fun _ _ _ _ _ hl w => lv_iconst (v := (1 : Int32)) hx hb zd_L_law_705 (by decide) w) ?_
        refine zg_1 (pc' := 707) (fun _ _ _ _ _ hl w => lv_iadd hx hb zd_L_law_706 w) ?_
        obtain ⟨h_120, hf⟩ := zx_ck hf
        refine zg_3 (pc' := 708) (fun _ _ _ _ _ hS hl w => va_sld hx hb hXs hbl hbA hS (zh_in h_120.1 h_120.2) zd_L_law_707 w) ?_
        refine zg_1 (pc' := 709) (fun _ _ _ _ _ hl w => lv_i2l (v := (xs (i3 + (1 : Int32)).toNatClampNeg).toInt64) hx hb zd_L_law_708 rfl w) ?_
        refine zg_1 (pc' := 711) (fun _ _ _ _ _ hl w => lv_bipush (v := (32 : Int32)) hx hb zd_L_law_709 (by decide) w) ?_
        refine zg_1 (pc' := 712) (fun _ _ _ _ _ hl w => lv_lshl (v := ((xs (i3 + (1 : Int32)).toNatClampNeg).toInt64 <<< ((32 : Int32).toInt64 &&& 63))) hx hb zd_L_law_711 rfl w) ?_
        refine zg_1 (pc' := 713) (fun _ _ _ _ _ hl w => lv_aload_n hx hb zd_L_law_712 rfl (lv_at hl 0 rfl) w) ?_
        refine zg_1 (pc' := 714) (fun _ _ _ _ _ hl w => lv_iload_n hx hb zd_L_law_713 rfl (lv_at hl 3 rfl) w) ?_
        refine zg_1 (pc' := 715) (fun _ _ _ _ _ hl w => lv_iconst (v := (2 : Int32)) hx hb zd_L_law_714 (by decide) w) ?_
        refine zg_1 (pc' := 716) (fun _ _ _ _ _ hl w => lv_iadd hx hb zd_L_law_715 w) ?_
        obtain ⟨h_121, hf⟩ := zx_ck hf
        refine zg_3 (pc' := 717) (fun _ _ _ _ _ hS hl w => va_sld hx hb hXs hbl hbA hS (zh_in h_121.1 h_121.2) zd_L_law_716 w) ?_
        refine zg_1 (pc' := 718) (fun _ _ _ _ _ hl w => lv_i2l (v := (xs (i3 + (2 : Int32)).toNatClampNeg).toInt64) hx hb zd_L_law_717 rfl w) ?_
        refine zg_1 (pc' := 721) (fun _ _ _ _ _ hl w => lv_ldc2 (v := (4294967295 : Int64)) hx hb hown (htT _ zt_1130) zd_L_law_718 w) ?_
        refine zg_1 (pc' := 722) (fun _ _ _ _ _ hl w => lv_land hx hb zd_L_law_721 w) ?_
        refine zg_1 (pc' := 723) (fun _ _ _ _ _ hl w => lv_lor hx hb zd_L_law_722 w) ?_
        refine zg_1 (pc' := 724) (fun _ _ _ _ _ hl w => lv_aload_n hx hb zd_L_law_723 rfl (lv_at hl 0 rfl) w) ?_
        refine zg_1 (pc' := 725) (fun _ _ _ _ _ hl w => lv_iload_n hx hb zd_L_law_724 rfl (lv_at hl 3 rfl) w) ?_
        refine zg_1 (pc' := 726) (fun _ _ _ _ _ hl w => lv_iconst (v := (3 : Int32)) hx hb zd_L_law_725 (by decide) w) ?_
        refine zg_1 (pc' := 727) (fun _ _ _ _ _ hl w => lv_iadd hx hb zd_L_law_726 w) ?_
        obtain ⟨h_122, hf⟩ := zx_ck hf
        refine zg_3 (pc' := 728) (fun _ _ _ _ _ hS hl w => va_sld hx hb hXs hbl hbA hS (zh_in h_122.1 h_122.2) zd_L_law_727 w) ?_
        refine zg_1 (pc' := 729) (fun _ _ _ _ _ hl w => lv_i2l (v := (xs (i3 + (3 : Int32)).toNatClampNeg).toInt64) hx hb zd_L_law_728 rfl w) ?_
        refine zg_1 (pc' := 731) (fun _ _ _ _ _ hl w => lv_bipush (v := (32 : Int32)) hx hb zd_L_law_729 (by decide) w) ?_
        refine zg_1 (pc' := 732) (fun _ _ _ _ _ hl w => lv_lshl (v := ((xs (i3 + (3 : Int32)).toNatClampNeg).toInt64 <<< ((32 : Int32).toInt64 &&& 63))) hx hb zd_L_law_731 rfl w) ?_
        refine zg_1 (pc' := 733) (fun _ _ _ _ _ hl w => lv_aload_n hx hb zd_L_law_732 rfl (lv_at hl 0 rfl) w) ?_
        refine zg_1 (pc' := 734) (fun _ _ _ _ _ hl w => lv_iload_n hx hb zd_L_law_733 rfl (lv_at hl 3 rfl) w) ?_
        refine zg_1 (pc' := 735) (fun _ _ _ _ _ hl w => lv_iconst (v := (4 : Int32)) hx hb zd_L_law_734 (by decide) w) ?_
        refine zg_1 (pc' := 736) (fun _ _ _ _ _ hl w => lv_iadd hx hb zd_L_law_735 w) ?_
        obtain ⟨h_123, hf⟩ := zx_ck hf
        refine zg_3 (pc' := 737) (fun _ _ _ _ _ hS hl w => va_sld hx hb hXs hbl hbA hS (zh_in h_123.1 h_123.2) zd_L_law_736 w) ?_
        refine zg_1 (pc' := 738) (fun _ _ _ _ _ hl w => lv_i2l (v := (xs (i3 + (4 : Int32)).toNatClampNeg).toInt64) hx hb zd_L_law_737 rfl w) ?_
        refine zg_1 (pc' := 741) (fun _ _ _ _ _ hl w => lv_ldc2 (v := (4294967295 : Int64)) hx hb hown (htT _ zt_1130) zd_L_law_738 w) ?_
        refine zg_1 (pc' := 742) (fun _ _ _ _ _ hl w => lv_land hx hb zd_L_law_741 w) ?_
        refine zg_1 (pc' := 743) (fun _ _ _ _ _ hl w => lv_lor hx hb zd_L_law_742 w) ?_
        refine zg_1 (pc' := 744) (fun _ _ _ _ _ hl w => lv_aload_n hx hb zd_L_law_743 rfl (lv_at hl 0 rfl) w) ?_
        refine zg_1 (pc' := 745) (fun _ _ _ _ _ hl w => lv_iload_n hx hb zd_L_law_744 rfl (lv_at hl 3 rfl) w) ?_
        refine zg_1 (pc' := 746) (fun _ _ _ _ _ hl w => lv_iconst (v := (5 : Int32)) hx hb zd_L_law_745 (by decide) w) ?_
        refine zg_1 (pc' := 747) (fun _ _ _ _ _ hl w => lv_iadd hx hb zd_L_law_746 w) ?_
        obtain ⟨h_124, hf⟩ := zx_ck hf
        refine zg_3 (pc' := 748) (fun _ _ _ _ _ hS hl w => va_sld hx hb hXs hbl hbA hS (zh_in h_124.1 h_124.2) zd_L_law_747 w) ?_
        refine zg_1 (pc' := 749) (fun _ _ _ _ _ hl w => lv_i2l (v := (xs (i3 + (5 : Int32)).toNatClampNeg).toInt64) hx hb zd_L_law_748 rfl w) ?_
        refine zg_1 (pc' := 751) (fun _ _ _ _ _ hl w => lv_bipush (v := (32 : Int32)) hx hb zd_L_law_749 (by decide) w) ?_
        refine zg_1 (pc' := 752) (fun _ _ _ _ _ hl w => lv_lshl (v := ((xs (i3 + (5 : Int32)).toNatClampNeg).toInt64 <<< ((32 : Int32).toInt64 &&& 63))) hx hb zd_L_law_751 rfl w) ?_
        refine zg_1 (pc' := 753) (fun _ _ _ _ _ hl w => lv_aload_n hx hb zd_L_law_752 rfl (lv_at hl 0 rfl) w) ?_
        refine zg_1 (pc' := 754) (fun _ _ _ _ _ hl w => lv_iload_n hx hb zd_L_law_753 rfl (lv_at hl 3 rfl) w) ?_
        refine zg_1 (pc' := 756) (fun _ _ _ _ _ hl w => lv_bipush (v := (6 : Int32)) hx hb zd_L_law_754 (by decide) w) ?_
        refine zg_1 (pc' := 757) (fun _ _ _ _ _ hl w => lv_iadd hx hb zd_L_law_756 w) ?_
        obtain ⟨h_125, hf⟩ := zx_ck hf
        refine zg_3 (pc' := 758) (fun _ _ _ _ _ hS hl w => va_sld hx hb hXs hbl hbA hS (zh_in h_125.1 h_125.2) zd_L_law_757 w) ?_
        refine zg_1 (pc' := 759) (fun _ _ _ _ _ hl w => lv_i2l (v := (xs (i3 + (6 : Int32)).toNatClampNeg).toInt64) hx hb zd_L_law_758 rfl w) ?_
        refine zg_1 (pc' := 762) (fun _ _ _ _ _ hl w => lv_ldc2 (v := (4294967295 : Int64)) hx hb hown (htT _ zt_1130) zd_L_law_759 w) ?_
        refine zg_1 (pc' := 763) (fun _ _ _ _ _ hl w => lv_land hx hb zd_L_law_762 w) ?_
        refine zg_1 (pc' := 764) (fun _ _ _ _ _ hl w => lv_lor hx hb zd_L_law_763 w) ?_
        refine zg_1 (pc' := 765) (fun _ _ _ _ _ hl w => lv_aload_n hx hb zd_L_law_764 rfl (lv_at hl 0 rfl) w) ?_
        refine zg_1 (pc' := 766) (fun _ _ _ _ _ hl w => lv_iload_n hx hb zd_L_law_765 rfl (lv_at hl 3 rfl) w) ?_
        refine zg_1 (pc' := 768) (fun _ _ _ _ _ hl w => lv_bipush (v := (7 : Int32)) hx hb zd_L_law_766 (by decide) w) ?_
        refine zg_1 (pc' := 769) (fun _ _ _ _ _ hl w => lv_iadd hx hb zd_L_law_768 w) ?_
        obtain ⟨h_126, hf⟩ := zx_ck hf
        refine zg_3 (pc' := 770) (fun _ _ _ _ _ hS hl w => va_sld hx hb hXs hbl hbA hS (zh_in h_126.1 h_126.2) zd_L_law_769 w) ?_
        obtain ⟨h_127, hf⟩ := zx_ck hf
        obtain ⟨i_128, hq, hf⟩ := zx_p hf
        refine zg_call (pc' := 773) (y := s0) (rv := (some (.int i_128))) (rest := []) X hR ⟨Nat.le_refl _, Nat.le_refl _⟩ (fun H locs ls k j hsz hI hU hk => va_runV (As := [.long (((xs (i3 + (1 : Int32)).toNatClampNeg).toInt64 <<< ((32 : Int32).toInt64 &&& 63)) ||| ((xs (i3 + (2 : Int32)).toNatClampNeg).toInt64 &&& (4294967295 : Int64))), .long (((xs (i3 + (3 : Int32)).toNatClampNeg).toInt64 <<< ((32 : Int32).toInt64 &&& 63)) ||| ((xs (i3 + (4 : Int32)).toNatClampNeg).toInt64 &&& (4294967295 : Int64))), .long (((xs (i3 + (5 : Int32)).toNatClampNeg).toInt64 <<< ((32 : Int32).toInt64 &&& 63)) ||| ((xs (i3 + (6 : Int32)).toNatClampNeg).toInt64 &&& (4294967295 : Int64))), .int (xs (i3 + (7 : Int32)).toNatClampNeg)]) (rest := []) ⟨hx, hb, hml, hown, htT⟩ (zc_V_good l h0 D dA tb n hq) (cwV 4 htT (zw_gV zt_774 zt_775 zt_776 zt_64 zt_777) rfl rfl rfl (by decide +kernel) ⟨Nat.le_trans (Nat.le_of_ble_eq_true rfl) hF.1, Nat.le_trans (Nat.le_of_ble_eq_true rfl) hF.2⟩) ⟨(zg_pre hU).1, zg_recv hK hI h_127 rfl, (zg_pre hU).2⟩ rfl rfl hsz rfl (lv_room (Nat.le_of_ble_eq_true rfl)) zd_L_law_770 hk) rfl ?_
        refine zg_1 (pc' := 774) (fun _ _ _ _ _ hl w => lv_aload_n hx hb zd_L_law_773 rfl (lv_at hl 2 rfl) w) ?_
        refine zg_1 (pc' := 775) (fun _ _ _ _ _ hl w => lv_aload_n hx hb zd_L_law_774 rfl (lv_at hl 0 rfl) w) ?_
        refine zg_1 (pc' := 776) (fun _ _ _ _ _ hl w => lv_iload_n hx hb zd_L_law_775 rfl (lv_at hl 3 rfl) w) ?_
        refine zg_1 (pc' := 777) (fun _ _ _ _ _ hl w => lv_iconst (v := (1 : Int32)) hx hb zd_L_law_776 (by decide) w) ?_
        refine zg_1 (pc' := 778) (fun _ _ _ _ _ hl w => lv_iadd hx hb zd_L_law_777 w) ?_
        obtain ⟨h_129, hf⟩ := zx_ck hf
        refine zg_3 (pc' := 779) (fun _ _ _ _ _ hS hl w => va_sld hx hb hXs hbl hbA hS (zh_in h_129.1 h_129.2) zd_L_law_778 w) ?_
        refine zg_1 (pc' := 780) (fun _ _ _ _ _ hl w => lv_i2l (v := (xs (i3 + (1 : Int32)).toNatClampNeg).toInt64) hx hb zd_L_law_779 rfl w) ?_
        refine zg_1 (pc' := 782) (fun _ _ _ _ _ hl w => lv_bipush (v := (32 : Int32)) hx hb zd_L_law_780 (by decide) w) ?_
        refine zg_1 (pc' := 783) (fun _ _ _ _ _ hl w => lv_lshl (v := ((xs (i3 + (1 : Int32)).toNatClampNeg).toInt64 <<< ((32 : Int32).toInt64 &&& 63))) hx hb zd_L_law_782 rfl w) ?_
        refine zg_1 (pc' := 784) (fun _ _ _ _ _ hl w => lv_aload_n hx hb zd_L_law_783 rfl (lv_at hl 0 rfl) w) ?_
        refine zg_1 (pc' := 785) (fun _ _ _ _ _ hl w => lv_iload_n hx hb zd_L_law_784 rfl (lv_at hl 3 rfl) w) ?_
        refine zg_1 (pc' := 786) (fun _ _ _ _ _ hl w => lv_iconst (v := (2 : Int32)) hx hb zd_L_law_785 (by decide) w) ?_
        refine zg_1 (pc' := 787) (fun _ _ _ _ _ hl w => lv_iadd hx hb zd_L_law_786 w) ?_
        obtain ⟨h_130, hf⟩ := zx_ck hf
        refine zg_3 (pc' := 788) (fun _ _ _ _ _ hS hl w => va_sld hx hb hXs hbl hbA hS (zh_in h_130.1 h_130.2) zd_L_law_787 w) ?_
        refine zg_1 (pc' := 789) (fun _ _ _ _ _ hl w => lv_i2l (v := (xs (i3 + (2 : Int32)).toNatClampNeg).toInt64) hx hb zd_L_law_788 rfl w) ?_
        refine zg_1 (pc' := 792) (fun _ _ _ _ _ hl w => lv_ldc2 (v := (4294967295 : Int64)) hx hb hown (htT _ zt_1130) zd_L_law_789 w) ?_
        refine zg_1 (pc' := 793) (fun _ _ _ _ _ hl w => lv_land hx hb zd_L_law_792 w) ?_
        refine zg_1 (pc' := 794) (fun _ _ _ _ _ hl w => lv_lor hx hb zd_L_law_793 w) ?_
        refine zg_1 (pc' := 795) (fun _ _ _ _ _ hl w => lv_aload_n hx hb zd_L_law_794 rfl (lv_at hl 0 rfl) w) ?_
        refine zg_1 (pc' := 796) (fun _ _ _ _ _ hl w => lv_iload_n hx hb zd_L_law_795 rfl (lv_at hl 3 rfl) w) ?_
        refine zg_1 (pc' := 797) (fun _ _ _ _ _ hl w => lv_iconst (v := (3 : Int32)) hx hb zd_L_law_796 (by decide) w) ?_
        refine zg_1 (pc' := 798) (fun _ _ _ _ _ hl w => lv_iadd hx hb zd_L_law_797 w) ?_
        obtain ⟨h_131, hf⟩ := zx_ck hf
        refine zg_3 (pc' := 799) (fun _ _ _ _ _ hS hl w => va_sld hx hb hXs hbl hbA hS (zh_in h_131.1 h_131.2) zd_L_law_798 w) ?_
        refine zg_1 (pc' := 800) (fun _ _ _ _ _ hl w => lv_i2l (v := (xs (i3 + (3 : Int32)).toNatClampNeg).toInt64) hx hb zd_L_law_799 rfl w) ?_
        refine zg_1 (pc' := 802) (fun _ _ _ _ _ hl w => lv_bipush (v := (32 : Int32)) hx hb zd_L_law_800 (by decide) w) ?_
        refine zg_1 (pc' := 803) (fun _ _ _ _ _ hl w => lv_lshl (v := ((xs (i3 + (3 : Int32)).toNatClampNeg).toInt64 <<< ((32 : Int32).toInt64 &&& 63))) hx hb zd_L_law_802 rfl w) ?_
        refine zg_1 (pc' := 804) (fun _ _ _ _ _ hl w => lv_aload_n hx hb zd_L_law_803 rfl (lv_at hl 0 rfl) w) ?_
        refine zg_1 (pc' := 805) (fun _ _ _ _ _ hl w => lv_iload_n hx hb zd_L_law_804 rfl (lv_at hl 3 rfl) w) ?_
        refine zg_1 (pc' := 806) (fun _ _ _ _ _ hl w => lv_iconst (v := (4 : Int32)) hx hb zd_L_law_805 (by decide) w) ?_
        refine zg_1 (pc' := 807) (fun _ _ _ _ _ hl w => lv_iadd hx hb zd_L_law_806 w) ?_
        obtain ⟨h_132, hf⟩ := zx_ck hf
        refine zg_3 (pc' := 808) (fun _ _ _ _ _ hS hl w => va_sld hx hb hXs hbl hbA hS (zh_in h_132.1 h_132.2) zd_L_law_807 w) ?_
        refine zg_1 (pc' := 809) (fun _ _ _ _ _ hl w => lv_i2l (v := (xs (i3 + (4 : Int32)).toNatClampNeg).toInt64) hx hb zd_L_law_808 rfl w) ?_
        refine zg_1 (pc' := 812) (fun _ _ _ _ _ hl w => lv_ldc2 (v := (4294967295 : Int64)) hx hb hown (htT _ zt_1130) zd_L_law_809 w) ?_
        refine zg_1 (pc' := 813) (fun _ _ _ _ _ hl w => lv_land hx hb zd_L_law_812 w) ?_
        refine zg_1 (pc' := 814) (fun _ _ _ _ _ hl w => lv_lor hx hb zd_L_law_813 w) ?_
        refine zg_1 (pc' := 815) (fun _ _ _ _ _ hl w => lv_aload_n hx hb zd_L_law_814 rfl (lv_at hl 0 rfl) w) ?_
        refine zg_1 (pc' := 816) (fun _ _ _ _ _ hl w => lv_iload_n hx hb zd_L_law_815 rfl (lv_at hl 3 rfl) w) ?_
        refine zg_1 (pc' := 817) (fun _ _ _ _ _ hl w => lv_iconst (v := (5 : Int32)) hx hb zd_L_law_816 (by decide) w) ?_
        refine zg_1 (pc' := 818) (fun _ _ _ _ _ hl w => lv_iadd hx hb zd_L_law_817 w) ?_
        obtain ⟨h_133, hf⟩ := zx_ck hf
        refine zg_3 (pc' := 819) (fun _ _ _ _ _ hS hl w => va_sld hx hb hXs hbl hbA hS (zh_in h_133.1 h_133.2) zd_L_law_818 w) ?_
        refine zg_1 (pc' := 820) (fun _ _ _ _ _ hl w => lv_i2l (v := (xs (i3 + (5 : Int32)).toNatClampNeg).toInt64) hx hb zd_L_law_819 rfl w) ?_
        refine zg_1 (pc' := 822) (fun _ _ _ _ _ hl w => lv_bipush (v := (32 : Int32)) hx hb zd_L_law_820 (by decide) w) ?_
        refine zg_1 (pc' := 823) (fun _ _ _ _ _ hl w => lv_lshl (v := ((xs (i3 + (5 : Int32)).toNatClampNeg).toInt64 <<< ((32 : Int32).toInt64 &&& 63))) hx hb zd_L_law_822 rfl w) ?_
        refine zg_1 (pc' := 824) (fun _ _ _ _ _ hl w => lv_aload_n hx hb zd_L_law_823 rfl (lv_at hl 0 rfl) w) ?_
        refine zg_1 (pc' := 825) (fun _ _ _ _ _ hl w => lv_iload_n hx hb zd_L_law_824 rfl (lv_at hl 3 rfl) w) ?_
        refine zg_1 (pc' := 827) (fun _ _ _ _ _ hl w => lv_bipush (v := (6 : Int32)) hx hb zd_L_law_825 (by decide) w) ?_
        refine zg_1 (pc' := 828) (fun _ _ _ _ _ hl w => lv_iadd hx hb zd_L_law_827 w) ?_
        obtain ⟨h_134, hf⟩ := zx_ck hf
        refine zg_3 (pc' := 829) (fun _ _ _ _ _ hS hl w => va_sld hx hb hXs hbl hbA hS (zh_in h_134.1 h_134.2) zd_L_law_828 w) ?_
        refine zg_1 (pc' := 830) (fun _ _ _ _ _ hl w => lv_i2l (v := (xs (i3 + (6 : Int32)).toNatClampNeg).toInt64) hx hb zd_L_law_829 rfl w) ?_
        refine zg_1 (pc' := 833) (fun _ _ _ _ _ hl w => lv_ldc2 (v := (4294967295 : Int64)) hx hb hown (htT _ zt_1130) zd_L_law_830 w) ?_
        refine zg_1 (pc' := 834) (fun _ _ _ _ _ hl w => lv_land hx hb zd_L_law_833 w) ?_
        refine zg_1 (pc' := 835) (fun _ _ _ _ _ hl w => lv_lor hx hb zd_L_law_834 w) ?_
        refine zg_1 (pc' := 836) (fun _ _ _ _ _ hl w => lv_aload_n hx hb zd_L_law_835 rfl (lv_at hl 0 rfl) w) ?_
        refine zg_1 (pc' := 837) (fun _ _ _ _ _ hl w => lv_iload_n hx hb zd_L_law_836 rfl (lv_at hl 3 rfl) w) ?_
        refine zg_1 (pc' := 839) (fun _ _ _ _ _ hl w => lv_bipush (v := (7 : Int32)) hx hb zd_L_law_837 (by decide) w) ?_
        refine zg_1 (pc' := 840) (fun _ _ _ _ _ hl w => lv_iadd hx hb zd_L_law_839 w) ?_
        obtain ⟨h_135, hf⟩ := zx_ck hf
        refine zg_3 (pc' := 841) (fun _ _ _ _ _ hS hl w => va_sld hx hb hXs hbl hbA hS (zh_in h_135.1 h_135.2) zd_L_law_840 w) ?_
        obtain ⟨h_136, hf⟩ := zx_ck hf
        obtain ⟨i_137, hq, hf⟩ := zx_p hf
        refine zg_call (pc' := 844) (y := s0) (rv := (some (.int i_137))) (rest := [.int i_128]) X hR ⟨Nat.le_refl _, Nat.le_refl _⟩ (fun H locs ls k j hsz hI hU hk => va_runV (As := [.long (((xs (i3 + (1 : Int32)).toNatClampNeg).toInt64 <<< ((32 : Int32).toInt64 &&& 63)) ||| ((xs (i3 + (2 : Int32)).toNatClampNeg).toInt64 &&& (4294967295 : Int64))), .long (((xs (i3 + (3 : Int32)).toNatClampNeg).toInt64 <<< ((32 : Int32).toInt64 &&& 63)) ||| ((xs (i3 + (4 : Int32)).toNatClampNeg).toInt64 &&& (4294967295 : Int64))), .long (((xs (i3 + (5 : Int32)).toNatClampNeg).toInt64 <<< ((32 : Int32).toInt64 &&& 63)) ||| ((xs (i3 + (6 : Int32)).toNatClampNeg).toInt64 &&& (4294967295 : Int64))), .int (xs (i3 + (7 : Int32)).toNatClampNeg)]) (rest := [.int i_128]) ⟨hx, hb, hml, hown, htT⟩ (zc_M_good l h0 D dA tb n hq) (cwV 4 htT (zw_gV zt_902 zt_903 zt_904 zt_71 zt_905) rfl rfl rfl (by decide +kernel) ⟨Nat.le_trans (Nat.le_of_ble_eq_true rfl) hF.1, Nat.le_trans (Nat.le_of_ble_eq_true rfl) hF.2⟩) ⟨(zg_pre hU).1, zg_recv hK hI h_136 rfl, (zg_pre hU).2⟩ rfl rfl hsz rfl (lv_room (Nat.le_of_ble_eq_true rfl)) zd_L_law_841 hk) rfl ?_
        refine zg_2 (pc1 := 849) (pc2 := 847) (Classical.em _) (fun _ _ _ _ _ w1 w2 => lv_icmp_eq hx hb zd_L_law_844 (by decide) w1 w2) (fun hc => ?_) (fun hc => ?_)
        · rw [if_pos hc] at hf
          exact zw_L_law_849 X hR hF hret n xs L hXs hbl hbA _ ih s0 a1 a2 i3 hf
        · rw [if_neg hc] at hf
          refine zg_1 (pc' := 848) (fun _ _ _ _ _ hl w => lv_iconst (v := (0 : Int32)) hx hb zd_L_law_847 (by decide) w) ?_
          obtain ⟨rfl, rfl⟩ := zx_r2 hf
          exact hret (Or.inl rfl) _ _ zd_L_law_848
      rw [if_neg hk17] at hf
      refine zg_1 (pc' := 849) (fun _ _ _ _ _ hl w => lv_tableOut hx hb zd_L_law_33 (zx_tab 17 (fun j hj => by rcases (show j = 0 ∨ j = 1 ∨ j = 2 ∨ j = 3 ∨ j = 4 ∨ j = 5 ∨ j = 6 ∨ j = 7 ∨ j = 8 ∨ j = 9 ∨ j = 10 ∨ j = 11 ∨ j = 12 ∨ j = 13 ∨ j = 14 ∨ j = 15 ∨ j = 16 ∨ j = 17 by omega) with rfl | rfl | rfl | rfl | rfl | rfl | rfl | rfl | rfl | rfl | rfl | rfl | rfl | rfl | rfl | rfl | rfl | rfl <;> assumption)) (by decide) w) ?_
      exact zw_L_law_849 X hR hF hret n xs L hXs hbl hbA _ ih s0 a1 a2 i3 hf
set_option maxHeartbeats 4000000 in
theorem zw_L_law {p : Program} {l : Launch} {e : Env} {R : Room} {s : State} {m : MethodId} {args : Array Value} {below : List Frame} {meth : Method} {c : Code} {Q : State → Prop} {h0 : Nat} {D : va_G} {dA : Nat → ClassId} {tb : Nat → Nat} {c0 k0 : Nat} {z : zh_S} {r : Int32} (X : zg_X p s m args meth c ze_L_law 4 zr_L (some .boolean) h0 D dA tb) (hR : zg_R R c0 k0 z) (hF : 21 ≤ R.frames ∧ 495 ≤ R.locals) (hret : (r = 0 ∨ r = 1) → ∀ (pc : Nat) (lv : List (Nat × Value)), decode ze_L_law pc = .ok (.ireturn, 1) → zg_G p l e R s m args below meth c Q h0 D dA 4 c0 k0 z z pc lv [.int r]) (n : Nat) {b : Nat} (xs : Nat → Int32) (L : Nat) (hXs : va_X b L xs s s.heap) (hbl : b < s.heap.size) (hbA : ¬ h0 ≤ b) : ∀ (s0 : zh_S), zf_L_law n xs L s0 = some (r, z) → zg_G p l e R s m args below meth c Q h0 D dA 4 c0 k0 z s0 0 [(0, .ref b)] [] := by
  obtain ⟨hx, hb, hml, hown, htT, hrt, hlk, x00, hIn⟩ := id X
  have hK := hIn.2.1
  have hT := hIn.2.2.1
  have hNe := hIn.2.2.2
  intro s0 hf
  rw [zf_L_law] at hf
  obtain ⟨a_2, e_a_2, hf⟩ := zx_l hf
  obtain ⟨s_1, e_s_1, hf⟩ := zx_l hf
  refine zg_new (pc' := 3) (ci := 7) hx hb htT zi_V zy_V zo_V hown (htT _ zt_77) (htT _ zt_78) (htT _ zt_64) hK rfl rfl (fun j hj => by rcases (show j = 0 ∨ j = 1 ∨ j = 2 ∨ j = 3 by omega) with rfl | rfl | rfl | rfl <;> rfl) hR e_s_1 e_a_2 zd_L_law_0 rfl ?_
  have ho_a_2 : zh_oo s_1 a_2 7 := zx_on e_s_1 e_a_2
  refine zg_1 (pc' := 4) (fun _ _ _ _ _ hl w => lv_dup hx hb zd_L_law_3 rfl w) ?_
  obtain ⟨s_3, hq, hf⟩ := zx_p hf
  refine zg_call (pc' := 7) (y := s_3) (rv := none) (rest := [.ref (h0 + a_2)]) X hR (zm_V_init hq) (fun H locs ls k j hsz hI hU hk => va_runI (As := []) (rest := [.ref (h0 + a_2)]) ⟨hx, hb, hml, hown, htT⟩ (zc_V_init l h0 D dA tb n hq) (cwI 0 htT (zw_g zt_81) rfl rfl rfl (htT _ zt_64) (htT _ zt_79) (htT _ zt_80) rfl (by decide +kernel) ⟨Nat.le_trans (Nat.le_of_ble_eq_true rfl) hF.1, Nat.le_trans (Nat.le_of_ble_eq_true rfl) hF.2⟩) (zg_pre hU) rfl rfl hsz rfl (lv_room (Nat.le_of_ble_eq_true rfl)) zd_L_law_4 hk) rfl ?_
  refine zg_s (pc' := 8) (lv' := [(1, .ref (h0 + a_2)), (0, .ref b)]) (fun _ _ _ _ _ hl w => lv_astore_n hx hb zd_L_law_7 rfl hl (by decide) rfl w) ?_
  obtain ⟨a_5, e_a_5, hf⟩ := zx_l hf
  obtain ⟨s_4, e_s_4, hf⟩ := zx_l hf
  refine zg_new (pc' := 11) (ci := 8) hx hb htT zi_M zy_M zo_M hown (htT _ zt_779) (htT _ zt_780) (htT _ zt_71) hK rfl rfl (fun j hj => by rcases (show j = 0 ∨ j = 1 ∨ j = 2 ∨ j = 3 ∨ j = 4 ∨ j = 5 ∨ j = 6 ∨ j = 7 ∨ j = 8 ∨ j = 9 ∨ j = 10 ∨ j = 11 ∨ j = 12 ∨ j = 13 ∨ j = 14 ∨ j = 15 ∨ j = 16 ∨ j = 17 ∨ j = 18 ∨ j = 19 ∨ j = 20 ∨ j = 21 ∨ j = 22 ∨ j = 23 ∨ j = 24 ∨ j = 25 ∨ j = 26 by omega) with rfl | rfl | rfl | rfl | rfl | rfl | rfl | rfl | rfl | rfl | rfl | rfl | rfl | rfl | rfl | rfl | rfl | rfl | rfl | rfl | rfl | rfl | rfl | rfl | rfl | rfl | rfl <;> rfl) hR e_s_4 e_a_5 zd_L_law_8 rfl ?_
  have ho_a_5 : zh_oo s_4 a_5 8 := zx_on e_s_4 e_a_5
  refine zg_1 (pc' := 12) (fun _ _ _ _ _ hl w => lv_dup hx hb zd_L_law_11 rfl w) ?_
  obtain ⟨s_6, hq, hf⟩ := zx_p hf
  refine zg_call (pc' := 15) (y := s_6) (rv := none) (rest := [.ref (h0 + a_5)]) X hR (zm_M_init hq) (fun H locs ls k j hsz hI hU hk => va_runI (As := []) (rest := [.ref (h0 + a_5)]) ⟨hx, hb, hml, hown, htT⟩ (zc_M_init l h0 D dA tb n hq) (cwI 0 htT (zw_g zt_783) rfl rfl rfl (htT _ zt_71) (htT _ zt_781) (htT _ zt_782) rfl (by decide +kernel) ⟨Nat.le_trans (Nat.le_of_ble_eq_true rfl) hF.1, Nat.le_trans (Nat.le_of_ble_eq_true rfl) hF.2⟩) (zg_pre hU) rfl rfl hsz rfl (lv_room (Nat.le_of_ble_eq_true rfl)) zd_L_law_12 hk) rfl ?_
  refine zg_s (pc' := 16) (lv' := [(2, .ref (h0 + a_5)), (1, .ref (h0 + a_2)), (0, .ref b)]) (fun _ _ _ _ _ hl w => lv_astore_n hx hb zd_L_law_15 rfl hl (by decide) rfl w) ?_
  refine zg_1 (pc' := 17) (fun _ _ _ _ _ hl w => lv_iconst (v := (0 : Int32)) hx hb zd_L_law_16 (by decide) w) ?_
  refine zg_s (pc' := 18) (lv' := [(3, .int (0 : Int32)), (2, .ref (h0 + a_5)), (1, .ref (h0 + a_2)), (0, .ref b)]) (fun _ _ _ _ _ hl w => lv_istore_n hx hb zd_L_law_17 rfl hl (by decide) rfl w) ?_
  refine zg_v [3, 2, 1, 0] rfl ?_
  exact zw_L_law_18 X hR hF hret n xs L hXs hbl hbA n s_6 a_2 a_5 (0 : Int32) hf
