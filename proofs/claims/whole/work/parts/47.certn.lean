/-! The reference reads a certificate: all of it. -/
section MD
variable {n : Nat} {l : List Nat}
theorem zx_mcert0 (hn : 300 ≤ n) {s : zh_S} (w : zq_w s) (d : zq_dM s l) (cu : zq_cu s 44 9 10 (.inr 0)) (z0 : ∀ j, j < 15 → zh_J s 52 j = 0) (R0 R1 V0 V1 V2 V3 V4 V5 V6 : Nat ⊕ (Nat × Nat)) (q : (Nat ⊕ Nat) × zq_Ex) (X7 : Nat ⊕ Nat) (hR0 : R0 = zq_opX l 48 l.length (.inr 0)) (hR1 : R1 = zq_opX l 48 (zq_val R0) (zq_cur R0)) (hV0 : V0 = zq_riX l (zq_val R1) (zq_cur R1)) (hV1 : V1 = zq_rnX l 19 (zq_val R1) (zq_cur V0)) (hV2 : V2 = zq_riX l (zq_val R1) (zq_cur V1)) (hV3 : V3 = zq_riX l (zq_val R1) (zq_cur V2)) (hV4 : V4 = zq_rnX l 19 (zq_val R1) (zq_cur V3)) (hV5 : V5 = zq_riX l (zq_val R1) (zq_cur V4)) (hV6 : V6 = zq_riX l (zq_val R1) (zq_cur V5)) (hq : q = if zq_nxX l 48 (zq_val R1) (zq_cur V6) then zq_exs l (zq_val R1) (-1, 0, 0, 0, 0, false, false, false) (zq_cur V6) else (zq_cur V6, (-1, 0, 0, 0, 0, false, false, false))) (hX7 : X7 = zq_clX (zq_val R1) q.1) (hpos : zq_gd_ X7 → zq_pos X7 = zq_val R1) {f : Nat} (hf : 0 < f) :
    ∃ t, zl_M_readCertificate_2 n f s 44 (nI 15) = some t ∧ zq_cu t 44 9 10 (zq_sgn l (zq_val R0) X7).1 ∧ (zq_gd_ (zq_sgn l (zq_val R0) X7).1 → zq_CM t (fun k => [zq_val V0, zq_val V1, zq_val V2, zq_val V3, zq_val V4, zq_val V5, zq_val V6, (zq_sgn l (zq_val R0) X7).2].getD k 0, q.2, zq_h l (zq_pos (zq_cur R0)) (zq_pos X7))) ∧ zq_F zq_PU s t := by
  have hl := d.2.1
  obtain ⟨f, rfl⟩ : ∃ q, f = q + 1 := ⟨f - 1, by omega⟩
  have fF : zq_F zq_PU s (zh_uJ s 52 9 (-1)) := zq_F.rf.uJ (Or.inr ⟨rfl, by omega⟩) _
  have wF := fF.w w
  have dF := d.kU fF
  have JF : ∀ j, zh_J (zh_uJ s 52 9 (-1)) 52 j = if j = 9 then -1 else zh_J s 52 j := zx_masg zq_F.rf 9 (-1)
  have xF : zq_XM (zh_uJ s 52 9 (-1)) (-1, 0, 0, 0, 0, false, false, false) := by
    refine ⟨?_, ?_, ?_, ?_, ?_, ?_⟩
    · rw [JF, if_pos rfl]
    · rw [JF, if_neg (by omega)]; exact z0 10 (by omega)
    · rw [JF, if_neg (by omega)]; exact z0 11 (by omega)
    · rw [JF, if_neg (by omega)]; exact z0 12 (by omega)
    · rw [JF, if_neg (by omega)]; exact z0 13 (by omega)
    · rw [JF, if_neg (by omega)]; exact z0 14 (by omega)
  obtain ⟨a0, e0, c0, v0, k0⟩ := zx_head n (tag := 48) (e := l.length) (i := zh_I (zh_uJ s 52 9 (-1)) 44 1) wF dF (cu.kj (c := 52) (k := 9) (-1)) (zq_en_of (fun _ => ⟨dF.1, Nat.le_refl _⟩)) (by decide)
  have g0 := @zq_op_g l 48 l.length (.inr 0)
  rw [← hR0] at c0 v0 g0
  have f0 := fF.tr k0.pu
  have w0 := f0.w w
  have d0 := d.kU f0
  have hst0 : zq_en_ l (zq_cur R0) a0.1 (zq_val R0) := zq_en_of (fun g => ⟨v0 g, (g0 g).2.1⟩)
  obtain ⟨a1, e1, c1, v1, k1⟩ := zx_head n (tag := 48) w0 d0 c0 hst0 (by decide)
  have g1 := @zq_op_g l 48 (zq_val R0) (zq_cur R0)
  rw [← hR1] at c1 v1 g1
  have f1 := f0.tr k1.pu
  have hst1 : zq_en_ l (zq_cur R1) a1.1 (zq_val R1) := zq_en_of (fun g => ⟨v1 g, by have := (g1 g).2.1; have := (g0 (g1 g).1).2.1; omega⟩)
  have z0J : ∀ j, zh_J a1.2 52 j = zh_J (zh_uJ s 52 9 (-1)) 52 j := fun j => ((k1.2 52 j (by omega)).2).trans (k0.2 52 j (by omega)).2
  obtain ⟨y0, ey0, cy0, vy0, ky0⟩ := zx_num hn (f1.w w) (d.kU f1) c1 hst1
  have gy0 := @zq_ri_g l (zq_val R1) (zq_cur R1)
  rw [← hV0] at cy0 vy0 gy0
  have J0 := zx_masg ky0 0 y0.1
  have fy0 := f1.tr ky0.pu
  have fz0 : zq_F zq_PU s (zh_uJ y0.2 52 0 y0.1) := fy0.uJ (Or.inr ⟨rfl, by omega⟩) _
  have cz0 := cy0.kj (c := 52) (k := 0) y0.1
  have hen0 : zq_en_ l (zq_cur V0) a1.1 (zq_val R1) := zq_en_of (fun g => hst1.use (gy0 g))
  obtain ⟨y1, ey1, cy1, vy1, ky1⟩ := zx_title hn (tag := 19) (fz0.w w) (d.kU fz0) cz0 hen0 (by decide)
  have gy1 := @zq_rn_g l 19 (zq_val R1) (zq_cur V0)
  rw [← hV1] at cy1 vy1 gy1
  have J1 := zx_masg ky1 1 y1.1
  have fy1 := fz0.tr ky1.pu
  have fz1 : zq_F zq_PU s (zh_uJ y1.2 52 1 y1.1) := fy1.uJ (Or.inr ⟨rfl, by omega⟩) _
  have cz1 := cy1.kj (c := 52) (k := 1) y1.1
  have hen1 : zq_en_ l (zq_cur V1) a1.1 (zq_val R1) := zq_en_of (fun g => hen0.use (gy1 g).1)
  obtain ⟨y2, ey2, cy2, vy2, ky2⟩ := zx_num hn (fz1.w w) (d.kU fz1) cz1 hen1
  have gy2 := @zq_ri_g l (zq_val R1) (zq_cur V1)
  rw [← hV2] at cy2 vy2 gy2
  have J2 := zx_masg ky2 2 y2.1
  have fy2 := fz1.tr ky2.pu
  have fz2 : zq_F zq_PU s (zh_uJ y2.2 52 2 y2.1) := fy2.uJ (Or.inr ⟨rfl, by omega⟩) _
  have cz2 := cy2.kj (c := 52) (k := 2) y2.1
  have hen2 : zq_en_ l (zq_cur V2) a1.1 (zq_val R1) := zq_en_of (fun g => hen1.use (gy2 g))
  obtain ⟨y3, ey3, cy3, vy3, ky3⟩ := zx_num hn (fz2.w w) (d.kU fz2) cz2 hen2
  have gy3 := @zq_ri_g l (zq_val R1) (zq_cur V2)
  rw [← hV3] at cy3 vy3 gy3
  have J3 := zx_masg ky3 3 y3.1
  have fy3 := fz2.tr ky3.pu
  have fz3 : zq_F zq_PU s (zh_uJ y3.2 52 3 y3.1) := fy3.uJ (Or.inr ⟨rfl, by omega⟩) _
  have cz3 := cy3.kj (c := 52) (k := 3) y3.1
  have hen3 : zq_en_ l (zq_cur V3) a1.1 (zq_val R1) := zq_en_of (fun g => hen2.use (gy3 g))
  obtain ⟨y4, ey4, cy4, vy4, ky4⟩ := zx_title hn (tag := 19) (fz3.w w) (d.kU fz3) cz3 hen3 (by decide)
  have gy4 := @zq_rn_g l 19 (zq_val R1) (zq_cur V3)
  rw [← hV4] at cy4 vy4 gy4
  have J4 := zx_masg ky4 4 y4.1
  have fy4 := fz3.tr ky4.pu
  have fz4 : zq_F zq_PU s (zh_uJ y4.2 52 4 y4.1) := fy4.uJ (Or.inr ⟨rfl, by omega⟩) _
  have cz4 := cy4.kj (c := 52) (k := 4) y4.1
  have hen4 : zq_en_ l (zq_cur V4) a1.1 (zq_val R1) := zq_en_of (fun g => hen3.use (gy4 g).1)
  obtain ⟨y5, ey5, cy5, vy5, ky5⟩ := zx_num hn (fz4.w w) (d.kU fz4) cz4 hen4
  have gy5 := @zq_ri_g l (zq_val R1) (zq_cur V4)
  rw [← hV5] at cy5 vy5 gy5
  have J5 := zx_masg ky5 5 y5.1
  have fy5 := fz4.tr ky5.pu
  have fz5 : zq_F zq_PU s (zh_uJ y5.2 52 5 y5.1) := fy5.uJ (Or.inr ⟨rfl, by omega⟩) _
  have cz5 := cy5.kj (c := 52) (k := 5) y5.1
  have hen5 : zq_en_ l (zq_cur V5) a1.1 (zq_val R1) := zq_en_of (fun g => hen4.use (gy5 g))
  obtain ⟨y6, ey6, cy6, vy6, ky6⟩ := zx_num hn (fz5.w w) (d.kU fz5) cz5 hen5
  have gy6 := @zq_ri_g l (zq_val R1) (zq_cur V5)
  rw [← hV6] at cy6 vy6 gy6
  have J6 := zx_masg ky6 6 y6.1
  have fy6 := fz5.tr ky6.pu
  have fz6 : zq_F zq_PU s (zh_uJ y6.2 52 6 y6.1) := fy6.uJ (Or.inr ⟨rfl, by omega⟩) _
  have cz6 := cy6.kj (c := 52) (k := 6) y6.1
  have hen6 : zq_en_ l (zq_cur V6) a1.1 (zq_val R1) := zq_en_of (fun g => hen5.use (gy6 g))
  have gs : zq_gd_ (zq_cur V6) → zq_gd_ (zq_cur V5) ∧ zq_gd_ (zq_cur V4) ∧ zq_gd_ (zq_cur V3) ∧ zq_gd_ (zq_cur V2) ∧ zq_gd_ (zq_cur V1) ∧ zq_gd_ (zq_cur V0) ∧ zq_gd_ (zq_cur R1) := fun g => by
    have h5 := gy6 g
    have h4 := gy5 h5
    have h3 := (gy4 h4).1
    have h2 := gy3 h3
    have h1 := gy2 h2
    have h0 := (gy1 h1).1
    exact ⟨h5, h4, h3, h2, h1, h0, gy0 h0⟩
  have x6 : zq_XM (zh_uJ y6.2 52 6 y6.1) (-1, 0, 0, 0, 0, false, false, false) := by
    refine xF.of (fun j h1 h2 => ?_)
    rw [J6, if_neg (by omega), J5, if_neg (by omega), J4, if_neg (by omega), J3, if_neg (by omega), J2, if_neg (by omega), J1, if_neg (by omega), J0, if_neg (by omega), z0J]
  have w6 := fz6.w w
  have d6 := d.kU fz6
  -- from a state whose first seven are as they were read
  have fin : ∀ t : zh_S, (zq_gd_ (zq_cur V6) → ∀ j, j < 7 → zh_J t 52 j = zh_J (zh_uJ y6.2 52 6 y6.1) 52 j) → zq_gd_ (zq_cur V6) → zh_J t 52 7 = lN (zq_sgn l (zq_val R0) X7).2 → zh_J t 52 8 = (zq_h l (zq_pos (zq_cur R0)) (zq_pos X7)).toInt64 → zq_XM t q.2 → zq_CM t (fun k => [zq_val V0, zq_val V1, zq_val V2, zq_val V3, zq_val V4, zq_val V5, zq_val V6, (zq_sgn l (zq_val R0) X7).2].getD k 0, q.2, zq_h l (zq_pos (zq_cur R0)) (zq_pos X7)) := by
    intro t tJ gq h7 h8 hx
    obtain ⟨h5', h4', h3', h2', h1', h0', -⟩ := gs gq
    refine ⟨fun k hk => ?_, h8, hx⟩
    have tJ := tJ gq
    rcases (show k = 0 ∨ k = 1 ∨ k = 2 ∨ k = 3 ∨ k = 4 ∨ k = 5 ∨ k = 6 ∨ k = 7 by omega) with rfl | rfl | rfl | rfl | rfl | rfl | rfl | rfl
    · rw [tJ 0 (by omega), J6, if_neg (by omega), J5, if_neg (by omega), J4, if_neg (by omega), J3, if_neg (by omega), J2, if_neg (by omega), J1, if_neg (by omega), J0, if_pos rfl]; exact vy0 h0'
    · rw [tJ 1 (by omega), J6, if_neg (by omega), J5, if_neg (by omega), J4, if_neg (by omega), J3, if_neg (by omega), J2, if_neg (by omega), J1, if_pos rfl]; exact vy1 h1'
    · rw [tJ 2 (by omega), J6, if_neg (by omega), J5, if_neg (by omega), J4, if_neg (by omega), J3, if_neg (by omega), J2, if_pos rfl]; exact vy2 h2'
    · rw [tJ 3 (by omega), J6, if_neg (by omega), J5, if_neg (by omega), J4, if_neg (by omega), J3, if_pos rfl]; exact vy3 h3'
    · rw [tJ 4 (by omega), J6, if_neg (by omega), J5, if_neg (by omega), J4, if_pos rfl]; exact vy4 h4'
    · rw [tJ 5 (by omega), J6, if_neg (by omega), J5, if_pos rfl]; exact vy5 h5'
    · rw [tJ 6 (by omega), J6, if_pos rfl]; exact vy6 gq
    · exact h7
  have i1h : zq_gd_ (zq_cur V6) → a0.1 = nI (zq_val R0) ∧ zq_val R0 ≤ l.length := fun g => hst0.use (g1 (gs g).2.2.2.2.2.2).1
  have i2h : zq_gd_ (zq_cur V6) → zh_I a0.2 44 9 = nI (zq_pos (zq_cur R0)) ∧ zq_pos (zq_cur R0) ≤ 200 := fun g => zq_cu_pos c0 (g1 (gs g).2.2.2.2.2.2).1
  have i3h : zq_gd_ (zq_cur V6) → a1.1 = nI (zq_val R1) ∧ zq_val R1 ≤ l.length := fun g => hst1.use (gs g).2.2.2.2.2.2
  rw [zl_M_readCertificate_2]
  refine zv_t (by decide) (zv_ck ⟨zw_K44 w, zw_N44 w⟩ (zv_p (zw_R44_11 w) (zv_ck (zw_A52 w (i := 9) (by decide)) (zv_l (zv_ck ⟨zw_K44 wF, zw_N44 wF⟩ (zv_b (a := a0.1) (b := a0.2) e0 (zv_ck ⟨zw_K44 w0, zw_N44 w0⟩ (zv_l (zv_b (a := a1.1) (b := a1.2) e1 (zv_ck ⟨zw_K44 (f1.w w), zw_N44 (f1.w w)⟩ ?_))))))))))
  refine zv_p (zw_R44_11 (f1.w w)) (zv_b (a := y0.1) (b := y0.2) ey0 (zv_ck (zw_A52 (fy0.w w) (i := 0) (by decide)) (zv_l (zv_ck ⟨zw_K44 (fz0.w w), zw_N44 (fz0.w w)⟩ ?_))))
  refine zv_p (zw_R44_11 (fz0.w w)) (zv_b (a := y1.1) (b := y1.2) ey1 (zv_ck (zw_A52 (fy1.w w) (i := 1) (by decide)) (zv_l (zv_ck ⟨zw_K44 (fz1.w w), zw_N44 (fz1.w w)⟩ ?_))))
  refine zv_p (zw_R44_11 (fz1.w w)) (zv_b (a := y2.1) (b := y2.2) ey2 (zv_ck (zw_A52 (fy2.w w) (i := 2) (by decide)) (zv_l (zv_ck ⟨zw_K44 (fz2.w w), zw_N44 (fz2.w w)⟩ ?_))))
  refine zv_p (zw_R44_11 (fz2.w w)) (zv_b (a := y3.1) (b := y3.2) ey3 (zv_ck (zw_A52 (fy3.w w) (i := 3) (by decide)) (zv_l (zv_ck ⟨zw_K44 (fz3.w w), zw_N44 (fz3.w w)⟩ ?_))))
  refine zv_p (zw_R44_11 (fz3.w w)) (zv_b (a := y4.1) (b := y4.2) ey4 (zv_ck (zw_A52 (fy4.w w) (i := 4) (by decide)) (zv_l (zv_ck ⟨zw_K44 (fz4.w w), zw_N44 (fz4.w w)⟩ ?_))))
  refine zv_p (zw_R44_11 (fz4.w w)) (zv_b (a := y5.1) (b := y5.2) ey5 (zv_ck (zw_A52 (fy5.w w) (i := 5) (by decide)) (zv_l (zv_ck ⟨zw_K44 (fz5.w w), zw_N44 (fz5.w w)⟩ ?_))))
  refine zv_p (zw_R44_11 (fz5.w w)) (zv_b (a := y6.1) (b := y6.2) ey6 (zv_ck (zw_A52 (fy6.w w) (i := 6) (by decide)) (zv_l (zv_ck ⟨zw_K44 (fz6.w w), zw_N44 (fz6.w w)⟩ ?_))))
  refine zv_p (zx_next n (tag := 48) w6 d6 cz6 hen6 (by decide)) ?_
  cases hN : zq_nxX l 48 (zq_val R1) (zq_cur V6) with
  | false =>
    rw [hN] at hq
    have hq : q = (zq_cur V6, (-1, 0, 0, 0, 0, false, false, false)) := hq
    have hX7' : X7 = zq_clX (zq_val R1) (zq_cur V6) := by rw [hX7, hq]
    obtain ⟨t, et, ct, ht, kt⟩ := zx_m200 (l := l) hn w6 d6 cz6 i1h i2h i3h (by rw [← hX7']; exact hpos)
    rw [← hX7'] at ct ht
    refine zv_t rfl ⟨t, et, ct, fun g => ?_, fz6.tr kt⟩
    obtain ⟨q1, q2, q3, q4⟩ := ht g
    refine fin t (fun _ j hj => q4 j (by omega) (by omega)) q1 q2 q3 ?_
    rw [hq]
    exact x6.of (fun j h1 h2 => q4 j (by omega) (by omega))
  | true =>
    rw [hN] at hq
    have hq : q = zq_exs l (zq_val R1) (-1, 0, 0, 0, 0, false, false, false) (zq_cur V6) := hq
    obtain ⟨b0, eb0, cb0, vb0, kb0⟩ := zx_head n (tag := 48) w6 d6 cz6 hen6 (by decide)
    have gb0 := @zq_op_g l 48 (zq_val R1) (zq_cur V6)
    have fb0 := fz6.tr kb0.pu
    have wb0 := fb0.w w
    have db0 := d.kU fb0
    have hstb : zq_en_ l (zq_cur (zq_opX l 48 (zq_val R1) (zq_cur V6))) b0.1 (zq_val (zq_opX l 48 (zq_val R1) (zq_cur V6))) := zq_en_of (fun g => ⟨vb0 g, by have := (gb0 g).2.1; have := (hen6.use (gb0 g).1).2; omega⟩)
    obtain ⟨b1, eb1, cb1, hb1, kb1⟩ := zx_mext hn wb0 db0 cb0 hstb (E := (-1, 0, 0, 0, 0, false, false, false)) (fun _ => x6.kS kb0) (bf := 0) (jb := -1) (by omega) (fun _ => rfl) (fun _ _ => rfl)
    have l63 := zq_ext_63 d.2.2.1 (zq_val (zq_opX l 48 (zq_val R1) (zq_cur V6))) 0 (-1, 0, 0, 0, 0, false, false, false) (zq_cur (zq_opX l 48 (zq_val R1) (zq_cur V6)))
    have hX7' : X7 = zq_clX (zq_val R1) (zq_clX (zq_val (zq_opX l 48 (zq_val R1) (zq_cur V6))) (zq_lo l (zq_val (zq_opX l 48 (zq_val R1) (zq_cur V6))) 199 ((zq_ext l (zq_val (zq_opX l 48 (zq_val R1) (zq_cur V6))) 0 (-1, 0, 0, 0, 0, false, false, false) (zq_cur (zq_opX l 48 (zq_val R1) (zq_cur V6)))).2.1 + 1) (zq_ext l (zq_val (zq_opX l 48 (zq_val R1) (zq_cur V6))) 0 (-1, 0, 0, 0, 0, false, false, false) (zq_cur (zq_opX l 48 (zq_val R1) (zq_cur V6)))).2.2 (zq_ext l (zq_val (zq_opX l 48 (zq_val R1) (zq_cur V6))) 0 (-1, 0, 0, 0, 0, false, false, false) (zq_cur (zq_opX l 48 (zq_val R1) (zq_cur V6)))).1).1) := by rw [hX7, hq]; rfl
    obtain ⟨t, et, ct, ht, kt⟩ := zx_mlo hn (i1 := a0.1) (i2 := zh_I a0.2 44 9) (i3 := a1.1) (wh := zq_val R0) (st := zq_pos (zq_cur R0)) (b := zq_val R1) 199 n b1.2 ((zq_ext l (zq_val (zq_opX l 48 (zq_val R1) (zq_cur V6))) 0 (-1, 0, 0, 0, 0, false, false, false) (zq_cur (zq_opX l 48 (zq_val R1) (zq_cur V6)))).2.1 + 1) b1.1 (zq_ext l (zq_val (zq_opX l 48 (zq_val R1) (zq_cur V6))) 0 (-1, 0, 0, 0, 0, false, false, false) (zq_cur (zq_opX l 48 (zq_val R1) (zq_cur V6)))).2.2 (zq_ext l (zq_val (zq_opX l 48 (zq_val R1) (zq_cur V6))) 0 (-1, 0, 0, 0, 0, false, false, false) (zq_cur (zq_opX l 48 (zq_val R1) (zq_cur V6)))).1 (kb1.w wb0) (db0.kT kb1) cb1 (zq_en_of (fun g => hstb.use (hb1 g).1)) (fun g => (hb1 g).2.2.1) (by omega) (fun g => by rw [zq_bf_s]; exact (hb1 g).2.1) (fun g => (hb1 g).2.2.2) (fun g => by have := (hstb.use (hb1 g).1).2; omega) (by omega) (fun g => i1h (gb0 (hb1 g).1).1) (fun g => i2h (gb0 (hb1 g).1).1) (fun g => i3h (gb0 (hb1 g).1).1) (by rw [← hX7']; exact hpos)
    rw [← hX7'] at ct ht
    refine zv_f (by decide) (zv_b (a := b0.1) (b := b0.2) eb0 (zv_ck ⟨zw_K44 wb0, zw_N44 wb0⟩ (zv_b (a := b1.1) (b := b1.2) eb1 ⟨t, et, ct, fun g => ?_, (fb0.tr kb1.ptu).tr kt⟩)))
    obtain ⟨q1, q2, q3, q4, q5⟩ := ht g
    have gV := (gb0 (hb1 q1).1).1
    refine fin t (fun _ j hj => ?_) gV q2 q3 (by rw [hq]; exact q4)
    rw [q5 j hj, (kb1.2 52 j (by omega)).2, (kb0.2 52 j (by omega)).2]
theorem zx_mreset (hn : 300 ≤ n) {s : zh_S} (w : zq_w s) : ∀ (m f k : Nat) (t : zh_S), 15 - k = m → k ≤ 15 → m < f → zq_F zq_PU s t → (∀ j, j < k → zh_J t 52 j = 0) → zh_I t = zh_I s → ∃ u, zl_M_readCertificate_2 n f t 44 (nI k) = zl_M_readCertificate_2 n (f - m) u 44 (nI 15) ∧ zq_F zq_PU s u ∧ (∀ j, j < 15 → zh_J u 52 j = 0) ∧ zh_I u = zh_I s := by
  intro m
  induction m with
  | zero =>
    intro f k t h1 h2 hf ft hj hI
    have : k = 15 := by omega
    subst this
    exact ⟨t, rfl, ft, hj, hI⟩
  | succ m ih =>
    intro f k t h1 h2 hf ft hj hI
    obtain ⟨f, rfl⟩ : ∃ q, f = q + 1 := ⟨f - 1, by omega⟩
    have wt := ft.w w
    obtain ⟨u, e1, g1, g2, g3⟩ := ih f (k + 1) (zh_uJ t 52 k 0) (by omega) (by omega) (by omega) (ft.uJ (Or.inr ⟨rfl, by omega⟩) _) (fun j h => by
      rw [zs_JJ]
      by_cases e : j = k
      · rw [if_pos ⟨rfl, e⟩]
      · rw [if_neg (fun q => e q.2)]; exact hj j (by omega)) hI
    refine ⟨u, ?_, g1, g2, g3⟩
    rw [show f + 1 - (m + 1) = f - m by omega, ← e1, zl_M_readCertificate_2, if_neg (show ¬ (15 : Int32) ≤ nI k from nI_ge (b := 15) (by omega) (by omega)), if_pos ⟨zw_K44 wt, zw_N44 wt⟩, zw_R44_11 wt]
    simp only [zk_p, zk_l]
    rw [if_pos (zw_A52 wt (by omega)), nI_clamp (by omega), nI_1]
end MD
