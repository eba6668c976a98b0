/-! Lists: both. -/
abbrev zq_Cl : Type := (Nat → Nat) × zq_Le × Int32
def zq_rl (l : List Nat) : (Nat ⊕ Nat) × zq_Cl :=
  let R0 := zq_opX l 48 l.length (.inr 0)
  let R1 := zq_opX l 48 (zq_val R0) (zq_cur R0)
  let b := zq_val R1
  let V1 := zq_rnX l 19 b (zq_cur R1)
  let V2 := zq_riX l b (zq_cur V1)
  let V3 := zq_riX l b (zq_cur V2)
  let R4 := zq_opX l 48 b (zq_cur V3)
  let q := zq_ll l (zq_val R4) 4 (0, fun _ => 0, fun _ => 0) (zq_cur R4)
  let X7 := zq_clX b (zq_clX (zq_val R4) q.1)
  let S := zq_sgn l (zq_val R0) X7
  (S.1, (fun k => [zq_val V1, zq_val V2, zq_val V3, S.2].getD k 0, q.2, zq_h l (zq_pos (zq_cur R0)) (zq_pos X7)))
def zq_RV (s : zh_S) (L : Nat) (C : zq_Cl) : Prop := (zh_J s L 0 = lN (C.1 0) ∧ zh_J s L 1 = lN (C.1 1) ∧ zh_J s L 2 = lN (C.1 2) ∧ zh_J s L 3 = lN (C.1 3)) ∧ zh_I s L 4 = C.2.2 ∧ zh_I s L 8 = nI C.2.1.1 ∧ zq_LV s L C.2.1
theorem zx_asl {s y : zh_S} {r L : Nat} (k : zq_F (zq_PR r) s y) (hr : 62 ≤ r) (hL : zq_lid L) (sl : Nat) (v : Int64) : ∀ j, zh_J (zh_uJ y L sl v) L j = if j = sl then v else zh_J s L j := by
  intro j
  rw [zs_JJ]
  by_cases h : j = sl
  · rw [if_pos h, if_pos ⟨rfl, h⟩]
  · rw [if_neg h, if_neg (fun e => h e.2)]; exact (k.2 L j (by omega)).2
section LV2
variable {n : Nat} {l : List Nat}
theorem zx_list0 (hn : 300 ≤ n) {s : zh_S} {r L : Nat} (hL : zq_lid L) (w : zq_w s) (d : zq_dV s l) (rd : zq_rd s r) (cu : zq_cu s r 1 2 (.inr 0)) (R0 R1 V1 V2 V3 R4 : Nat ⊕ (Nat × Nat)) (q : (Nat ⊕ Nat) × zq_Le) (X7 : Nat ⊕ Nat) (hR0 : R0 = zq_opX l 48 l.length (.inr 0)) (hR1 : R1 = zq_opX l 48 (zq_val R0) (zq_cur R0)) (hV1 : V1 = zq_rnX l 19 (zq_val R1) (zq_cur R1)) (hV2 : V2 = zq_riX l (zq_val R1) (zq_cur V1)) (hV3 : V3 = zq_riX l (zq_val R1) (zq_cur V2)) (hR4 : R4 = zq_opX l 48 (zq_val R1) (zq_cur V3)) (hq : q = zq_ll l (zq_val R4) 4 (0, fun _ => 0, fun _ => 0) (zq_cur R4)) (hX7 : X7 = zq_clX (zq_val R1) (zq_clX (zq_val R4) q.1)) :
    ∃ y, zf_Reader_readList n s r L = some y ∧ y.1 = zh_I y.2 r 2 ∧ zq_cu y.2 r 1 2 (zq_sgn l (zq_val R0) X7).1 ∧ (zq_gd_ (zq_sgn l (zq_val R0) X7).1 → zq_RV y.2 L (fun k => [zq_val V1, zq_val V2, zq_val V3, (zq_sgn l (zq_val R0) X7).2].getD k 0, q.2, zq_h l (zq_pos (zq_cur R0)) (zq_pos X7))) ∧ zq_F (zq_PL r L) s y.2 := by
  have hr := rd.2.2
  have hl := d.2.1
  have fF : zq_F (zq_PL r L) s (zh_uI s L 8 0) := zq_F.rf.uI (Or.inr (Or.inl ⟨rfl, Or.inr rfl⟩)) _
  have wF := fF.w w
  have rdF := fF.1.rd rd
  have dF := d.kL fF hr hL
  have cF := cu.kc (c := L) (k := 8) (by omega) 0
  obtain ⟨a0, e0, c0, v0, k0⟩ := zx_open n (tag := 48) (e := l.length) (i := zh_I (zh_uI s L 8 0) 1 1) wF dF rdF cF (zq_en_of (fun _ => ⟨dF.1, Nat.le_refl _⟩)) (by decide)
  have g0 := @zq_op_g l 48 l.length (.inr 0)
  rw [← hR0] at c0 v0 g0
  have f0 := fF.tr (k0.pl (L := L))
  have w0 := f0.w w
  have rd0 := f0.1.rd rd
  have hst0 : zq_en_ l (zq_cur R0) a0.1 (zq_val R0) := zq_en_of (fun g => ⟨v0 g, (g0 g).2.1⟩)
  obtain ⟨a1, e1, c1, v1, k1⟩ := zx_open n (tag := 48) w0 (d.kL f0 hr hL) rd0 c0 hst0 (by decide)
  have g1 := @zq_op_g l 48 (zq_val R0) (zq_cur R0)
  rw [← hR1] at c1 v1 g1
  have f1 := f0.tr (k1.pl (L := L))
  have hst1 : zq_en_ l (zq_cur R1) a1.1 (zq_val R1) := zq_en_of (fun g => ⟨v1 g, by have := (g1 g).2.1; have := (g0 (g1 g).1).2.1; omega⟩)
  obtain ⟨y1, ey1, cy1, vy1, ky1⟩ := zx_name hn (tag := 19) (f1.w w) (d.kL f1 hr hL) (f1.1.rd rd) c1 hst1 (by decide)
  have gy1 := @zq_rn_g l 19 (zq_val R1) (zq_cur R1)
  rw [← hV1] at cy1 vy1 gy1
  have fy1 := f1.tr (ky1.pl (L := L))
  have fz1 : zq_F (zq_PL r L) s (zh_uJ y1.2 L 0 y1.1) := fy1.uJ (Or.inr (Or.inl ⟨rfl, by omega⟩)) _
  have J1 := zx_asl ky1 hr hL 0 y1.1
  have hen1 : zq_en_ l (zq_cur V1) a1.1 (zq_val R1) := zq_en_of (fun g => hst1.use (gy1 g).1)
  obtain ⟨y2, ey2, cy2, vy2, ky2⟩ := zx_int hn (fz1.w w) (d.kL fz1 hr hL) (fz1.1.rd rd) (cy1.kj (c := L) (k := 0) y1.1) hen1
  have gy2 := @zq_ri_g l (zq_val R1) (zq_cur V1)
  rw [← hV2] at cy2 vy2 gy2
  have fy2 := fz1.tr (ky2.pl (L := L))
  have fz2 : zq_F (zq_PL r L) s (zh_uJ y2.2 L 1 y2.1) := fy2.uJ (Or.inr (Or.inl ⟨rfl, by omega⟩)) _
  have J2 := zx_asl ky2 hr hL 1 y2.1
  have hen2 : zq_en_ l (zq_cur V2) a1.1 (zq_val R1) := zq_en_of (fun g => hen1.use (gy2 g))
  obtain ⟨y3, ey3, cy3, vy3, ky3⟩ := zx_int hn (fz2.w w) (d.kL fz2 hr hL) (fz2.1.rd rd) (cy2.kj (c := L) (k := 1) y2.1) hen2
  have gy3 := @zq_ri_g l (zq_val R1) (zq_cur V2)
  rw [← hV3] at cy3 vy3 gy3
  have fy3 := fz2.tr (ky3.pl (L := L))
  have fz3 : zq_F (zq_PL r L) s (zh_uJ y3.2 L 2 y3.1) := fy3.uJ (Or.inr (Or.inl ⟨rfl, by omega⟩)) _
  have J3 := zx_asl ky3 hr hL 2 y3.1
  have hen3 : zq_en_ l (zq_cur V3) a1.1 (zq_val R1) := zq_en_of (fun g => hen2.use (gy3 g))
  obtain ⟨a4, e4, c4, v4, k4⟩ := zx_open n (tag := 48) (fz3.w w) (d.kL fz3 hr hL) (fz3.1.rd rd) (cy3.kj (c := L) (k := 2) y3.1) hen3 (by decide)
  have g4 := @zq_op_g l 48 (zq_val R1) (zq_cur V3)
  have b4 := @zq_op_b l 48 (zq_val R1) (zq_cur V3)
  rw [← hR4] at c4 v4 g4 b4
  have f4 := fz3.tr (k4.pl (L := L))
  have hst4 : zq_en_ l (zq_cur R4) a4.1 (zq_val R4) := zq_en_of (fun g => ⟨v4 g, by have := (g4 g).2.1; have := (hen3.use (g4 g).1).2; omega⟩)
  have gs : zq_gd_ (zq_cur R4) → zq_gd_ (zq_cur V3) ∧ zq_gd_ (zq_cur V2) ∧ zq_gd_ (zq_cur V1) ∧ zq_gd_ (zq_cur R1) := fun g => by
    have h3 := (g4 g).1
    have h2 := gy3 h3
    have h1 := gy2 h2
    exact ⟨h3, h2, h1, (gy1 h1).1⟩
  have i8 : zh_I a4.2 L 8 = nI 0 := by
    rw [(k4.2 L 8 (by omega)).1]
    show zh_I y3.2 L 8 = _
    rw [(ky3.2 L 8 (by omega)).1]
    show zh_I y2.2 L 8 = _
    rw [(ky2.2 L 8 (by omega)).1]
    show zh_I y1.2 L 8 = _
    rw [(ky1.2 L 8 (by omega)).1, (k1.2 L 8 (by omega)).1, (k0.2 L 8 (by omega)).1, zs_II, if_pos ⟨rfl, rfl⟩]
    rfl
  obtain ⟨y, ey, hy1, cy, hy, hyJ, ky⟩ := zx_ll hn hL (i2 := a0.1) (i3 := zh_I a0.2 r 1) (i4 := a1.1) (wh := zq_val R0) (st := zq_pos (zq_cur R0)) (b := zq_val R1) 4 n a4.2 (0, fun _ => 0, fun _ => 0) (zq_cur R4) (f4.w w) (d.kL f4 hr hL) (f4.1.rd rd) c4 hst4 (fun _ t ht => absurd ht (Nat.not_lt_zero t)) i8 rfl (by omega) (fun g => hst0.use (g1 (gs g).2.2.2).1) (fun g => zq_cu_pos c0 (g1 (gs g).2.2.2).1) (fun g => ⟨(hst1.use (gs g).2.2.2).1, (hst1.use (gs g).2.2.2).2, (b4 g).2.2, (b4 g).2.1⟩)
  rw [← hq, ← hX7] at cy hy
  rw [zf_Reader_readList]
  refine zv_ck (zw_L w hL) (zv_l (zv_ck rdF.1 (zv_p rdF.2.1 (zv_ck ⟨zw_K1 wF, zw_N1 wF⟩ (zv_b (a := a0.1) (b := a0.2) e0 (zv_ck rd0.1 (zv_l (zv_b (a := a1.1) (b := a1.2) e1 (zv_ck (f1.1.rd rd).1 ?_)))))))))
  refine zv_b (a := y1.1) (b := y1.2) ey1 (zv_ck (zw_L (fy1.w w) hL) (zv_l (zv_ck (fz1.1.rd rd).1 ?_)))
  refine zv_b (a := y2.1) (b := y2.2) ey2 (zv_ck (zw_L (fy2.w w) hL) (zv_l (zv_ck (fz2.1.rd rd).1 ?_)))
  refine zv_b (a := y3.1) (b := y3.2) ey3 (zv_ck (zw_L (fy3.w w) hL) (zv_l (zv_ck (fz3.1.rd rd).1 ?_)))
  refine zv_b (a := a4.1) (b := a4.2) e4 ⟨y, ey, hy1, cy, fun g => ?_, f4.tr ky⟩
  obtain ⟨q1, q2, q3, q5, q6, q7⟩ := hy g
  obtain ⟨h3, h2, h1, -⟩ := gs q1
  have tJ : ∀ j, j < 3 → zh_J y.2 L j = zh_J (zh_uJ y3.2 L 2 y3.1) L j := fun j hj => (hyJ j hj).trans (k4.2 L j (by omega)).2
  refine ⟨⟨?_, ?_, ?_, q3⟩, q5, q6, q7⟩
  · rw [tJ 0 (by omega), J3, if_neg (by omega), J2, if_neg (by omega), J1, if_pos rfl]; exact vy1 h1
  · rw [tJ 1 (by omega), J3, if_neg (by omega), J2, if_pos rfl]; exact vy2 h2
  · rw [tJ 2 (by omega), J3, if_pos rfl]; exact vy3 h3
theorem zx_list (hn : 300 ≤ n) {s : zh_S} {r L : Nat} (hL : zq_lid L) (w : zq_w s) (d : zq_dV s l) (rd : zq_rd s r) (cu : zq_cu s r 1 2 (.inr 0)) : ∃ y, zf_Reader_readList n s r L = some y ∧ y.1 = zq_an (zq_rl l).1 ∧ (y.1 = 0 ↔ zq_gd_ (zq_rl l).1) ∧ (zq_gd_ (zq_rl l).1 → zq_RV y.2 L (zq_rl l).2) ∧ zq_F (zq_PL r L) s y.2 := by
  obtain ⟨y, e1, h1, c1, g1, k1⟩ := zx_list0 hn hL w d rd cu _ _ _ _ _ _ _ _ rfl rfl rfl rfl rfl rfl rfl rfl
  have ea : y.1 = zq_an (zq_rl l).1 := h1.trans (zq_cu_an c1)
  exact ⟨y, e1, ea, by rw [ea]; exact zq_cu_0 c1, g1, k1⟩
end LV2
