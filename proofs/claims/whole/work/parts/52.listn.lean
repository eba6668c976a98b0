/-! A list read by the reference. -/
section LN
variable {n : Nat} {l : List Nat}
theorem zx_mlist0 (hn : 300 ≤ n) {s : zh_S} (w : zq_w s) (d : zq_dM s l) (cu : zq_cu s 44 9 10 (.inr 0)) (R0 R1 V1 V2 V3 R4 : Nat ⊕ (Nat × Nat)) (q : (Nat ⊕ Nat) × zq_Le) (X7 : Nat ⊕ Nat) (hR0 : R0 = zq_opX l 48 l.length (.inr 0)) (hR1 : R1 = zq_opX l 48 (zq_val R0) (zq_cur R0)) (hV1 : V1 = zq_rnX l 19 (zq_val R1) (zq_cur R1)) (hV2 : V2 = zq_riX l (zq_val R1) (zq_cur V1)) (hV3 : V3 = zq_riX l (zq_val R1) (zq_cur V2)) (hR4 : R4 = zq_opX l 48 (zq_val R1) (zq_cur V3)) (hq : q = zq_ll l (zq_val R4) 4 (0, fun _ => 0, fun _ => 0) (zq_cur R4)) (hX7 : X7 = zq_clX (zq_val R1) (zq_clX (zq_val R4) q.1)) :
    ∃ t, zf_M_readList n s 44 = some t ∧ zq_cu t 44 9 10 (zq_sgn l (zq_val R0) X7).1 ∧ (zq_gd_ (zq_sgn l (zq_val R0) X7).1 → zq_RM t (fun k => [zq_val V1, zq_val V2, zq_val V3, (zq_sgn l (zq_val R0) X7).2].getD k 0, q.2, zq_h l (zq_pos (zq_cur R0)) (zq_pos X7))) ∧ zq_F zq_PW s t := by
  have hl := d.2.1
  have fF : zq_F zq_PW s (zh_uI s 44 12 0) := zq_F.rf.uI (by omega) _
  have wF := fF.w w
  have dF := d.kW fF
  obtain ⟨a0, e0, c0, v0, k0⟩ := zx_head n (tag := 48) (e := l.length) (i := zh_I (zh_uI s 44 12 0) 44 1) wF dF (cu.k12 0) (zq_en_of (fun _ => ⟨dF.1, Nat.le_refl _⟩)) (by decide)
  have g0 := @zq_op_g l 48 l.length (.inr 0)
  rw [← hR0] at c0 v0 g0
  have f0 := fF.tr k0.pw
  have w0 := f0.w w
  have hst0 : zq_en_ l (zq_cur R0) a0.1 (zq_val R0) := zq_en_of (fun g => ⟨v0 g, (g0 g).2.1⟩)
  obtain ⟨a1, e1, c1, v1, k1⟩ := zx_head n (tag := 48) w0 (d.kW f0) c0 hst0 (by decide)
  have g1 := @zq_op_g l 48 (zq_val R0) (zq_cur R0)
  rw [← hR1] at c1 v1 g1
  have f1 := f0.tr k1.pw
  have hst1 : zq_en_ l (zq_cur R1) a1.1 (zq_val R1) := zq_en_of (fun g => ⟨v1 g, by have := (g1 g).2.1; have := (g0 (g1 g).1).2.1; omega⟩)
  obtain ⟨y1, ey1, cy1, vy1, ky1⟩ := zx_title hn (tag := 19) (f1.w w) (d.kW f1) c1 hst1 (by decide)
  have gy1 := @zq_rn_g l 19 (zq_val R1) (zq_cur R1)
  rw [← hV1] at cy1 vy1 gy1
  have fy1 := f1.tr ky1.pw
  have fz1 : zq_F zq_PW s (zh_uJ y1.2 52 1 y1.1) := fy1.uJ (by omega) _
  have J1 := zx_masg ky1 1 y1.1
  have hen1 : zq_en_ l (zq_cur V1) a1.1 (zq_val R1) := zq_en_of (fun g => hst1.use (gy1 g).1)
  obtain ⟨y2, ey2, cy2, vy2, ky2⟩ := zx_num hn (fz1.w w) (d.kW fz1) (cy1.kj (c := 52) (k := 1) y1.1) hen1
  have gy2 := @zq_ri_g l (zq_val R1) (zq_cur V1)
  rw [← hV2] at cy2 vy2 gy2
  have fy2 := fz1.tr ky2.pw
  have fz2 : zq_F zq_PW s (zh_uJ y2.2 52 2 y2.1) := fy2.uJ (by omega) _
  have J2 := zx_masg ky2 2 y2.1
  have hen2 : zq_en_ l (zq_cur V2) a1.1 (zq_val R1) := zq_en_of (fun g => hen1.use (gy2 g))
  obtain ⟨y3, ey3, cy3, vy3, ky3⟩ := zx_num hn (fz2.w w) (d.kW fz2) (cy2.kj (c := 52) (k := 2) y2.1) hen2
  have gy3 := @zq_ri_g l (zq_val R1) (zq_cur V2)
  rw [← hV3] at cy3 vy3 gy3
  have fy3 := fz2.tr ky3.pw
  have fz3 : zq_F zq_PW s (zh_uJ y3.2 52 3 y3.1) := fy3.uJ (by omega) _
  have J3 := zx_masg ky3 3 y3.1
  have hen3 : zq_en_ l (zq_cur V3) a1.1 (zq_val R1) := zq_en_of (fun g => hen2.use (gy3 g))
  obtain ⟨a4, e4, c4, v4, k4⟩ := zx_head n (tag := 48) (fz3.w w) (d.kW fz3) (cy3.kj (c := 52) (k := 3) y3.1) hen3 (by decide)
  have g4 := @zq_op_g l 48 (zq_val R1) (zq_cur V3)
  have b4 := @zq_op_b l 48 (zq_val R1) (zq_cur V3)
  rw [← hR4] at c4 v4 g4 b4
  have f4 := fz3.tr k4.pw
  have hst4 : zq_en_ l (zq_cur R4) a4.1 (zq_val R4) := zq_en_of (fun g => ⟨v4 g, by have := (g4 g).2.1; have := (hen3.use (g4 g).1).2; omega⟩)
  have gs : zq_gd_ (zq_cur R4) → zq_gd_ (zq_cur V3) ∧ zq_gd_ (zq_cur V2) ∧ zq_gd_ (zq_cur V1) ∧ zq_gd_ (zq_cur R1) := fun g => by
    have h3 := (g4 g).1
    have h2 := gy3 h3
    have h1 := gy2 h2
    exact ⟨h3, h2, h1, (gy1 h1).1⟩
  have i12 : zh_I a4.2 44 12 = nI 0 := by
    rw [(k4.2 44 12 (by omega)).1]
    show zh_I y3.2 44 12 = _
    rw [(ky3.2 44 12 (by omega)).1]
    show zh_I y2.2 44 12 = _
    rw [(ky2.2 44 12 (by omega)).1]
    show zh_I y1.2 44 12 = _
    rw [(ky1.2 44 12 (by omega)).1, (k1.2 44 12 (by omega)).1, (k0.2 44 12 (by omega)).1, zs_II, if_pos ⟨rfl, rfl⟩]
    rfl
  obtain ⟨t, et, ct, ht, hJ, kt⟩ := zx_mll hn (i1 := a0.1) (i2 := zh_I a0.2 44 9) (i3 := a1.1) (wh := zq_val R0) (st := zq_pos (zq_cur R0)) (b := zq_val R1) 4 n a4.2 (0, fun _ => 0, fun _ => 0) (zq_cur R4) (f4.w w) (d.kW f4) c4 hst4 (fun _ t ht => absurd ht (Nat.not_lt_zero t)) i12 rfl (by omega) (fun g => hst0.use (g1 (gs g).2.2.2).1) (fun g => zq_cu_pos c0 (g1 (gs g).2.2.2).1) (fun g => ⟨(hst1.use (gs g).2.2.2).1, (hst1.use (gs g).2.2.2).2, (b4 g).2.2, (b4 g).2.1⟩)
  rw [← hq, ← hX7] at ct ht
  rw [zf_M_readList]
  refine zv_ck ⟨zw_K44 w, zw_N44 w⟩ (zv_l (zv_b (a := a0.1) (b := a0.2) e0 (zv_ck ⟨zw_K44 w0, zw_N44 w0⟩ (zv_l (zv_b (a := a1.1) (b := a1.2) e1 (zv_ck ⟨zw_K44 (f1.w w), zw_N44 (f1.w w)⟩ ?_))))))
  refine zv_p (zw_R44_11 (f1.w w)) (zv_b (a := y1.1) (b := y1.2) ey1 (zv_ck (zw_A52 (fy1.w w) (i := 1) (by decide)) (zv_l (zv_ck ⟨zw_K44 (fz1.w w), zw_N44 (fz1.w w)⟩ ?_))))
  refine zv_p (zw_R44_11 (fz1.w w)) (zv_b (a := y2.1) (b := y2.2) ey2 (zv_ck (zw_A52 (fy2.w w) (i := 2) (by decide)) (zv_l (zv_ck ⟨zw_K44 (fz2.w w), zw_N44 (fz2.w w)⟩ ?_))))
  refine zv_p (zw_R44_11 (fz2.w w)) (zv_b (a := y3.1) (b := y3.2) ey3 (zv_ck (zw_A52 (fy3.w w) (i := 3) (by decide)) (zv_l (zv_ck ⟨zw_K44 (fz3.w w), zw_N44 (fz3.w w)⟩ ?_))))
  refine zv_b (a := a4.1) (b := a4.2) e4 ⟨t, et, ct, fun g => ?_, f4.tr kt⟩
  obtain ⟨q1, q2, q3, q5, q6⟩ := ht g
  obtain ⟨h3, h2, h1, -⟩ := gs q1
  have tJ : ∀ j, j < 7 → zh_J t 52 j = zh_J (zh_uJ y3.2 52 3 y3.1) 52 j := fun j hj => (hJ j hj).trans (k4.2 52 j (by omega)).2
  refine ⟨⟨?_, ?_, ?_, q2⟩, q3, q5, q6⟩
  · rw [tJ 1 (by omega), J3, if_neg (by omega), J2, if_neg (by omega), J1, if_pos rfl]; exact vy1 h1
  · rw [tJ 2 (by omega), J3, if_neg (by omega), J2, if_pos rfl]; exact vy2 h2
  · rw [tJ 3 (by omega), J3, if_pos rfl]; exact vy3 h3
theorem zx_mlist (hn : 300 ≤ n) {s : zh_S} (w : zq_w s) (d : zq_dM s l) (cu : zq_cu s 44 9 10 (.inr 0)) : ∃ t, zf_M_readList n s 44 = some t ∧ zh_I t 44 10 = zq_an (zq_rl l).1 ∧ (zq_gd_ (zq_rl l).1 → zq_RM t (zq_rl l).2) ∧ zq_F zq_PW s t := by
  obtain ⟨t, e1, c1, g1, k1⟩ := zx_mlist0 hn w d cu _ _ _ _ _ _ _ _ rfl rfl rfl rfl rfl rfl rfl rfl
  exact ⟨t, e1, zq_cu_an c1, g1, k1⟩
end LN
