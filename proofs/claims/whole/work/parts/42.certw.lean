/-! The class reads a certificate. -/
abbrev zq_PC (r c : Nat) (a k : Nat) : Prop := zq_PR r a k ∨ a = c ∧ k ≤ 17 ∧ k ≠ 5
def zq_CV (s : zh_S) (c : Nat) (C : zq_Ce) : Prop := (zh_J s c 6 = lN (C.1 0) ∧ zh_J s c 0 = lN (C.1 1) ∧ zh_J s c 1 = lN (C.1 2) ∧ zh_J s c 2 = lN (C.1 3) ∧ zh_J s c 7 = lN (C.1 4) ∧ zh_J s c 8 = lN (C.1 5) ∧ zh_J s c 9 = lN (C.1 6) ∧ zh_J s c 3 = lN (C.1 7)) ∧ zh_I s c 4 = C.2.2 ∧ zq_XV s c C.2.1
theorem zq_F.pc {s t : zh_S} {r c : Nat} (f : zq_F (zq_PR r) s t) : zq_F (zq_PC r c) s t := f.mo (fun _ _ h => Or.inl h)
theorem zq_F.pxc {s t : zh_S} {r c : Nat} (f : zq_F (zq_PX r c) s t) : zq_F (zq_PC r c) s t := f.mo (fun a k h => by rcases h with h | h; exact Or.inl h; exact Or.inr ⟨h.1, by omega, by omega⟩)
theorem zq_L.kC {s t : zh_S} {l : List Nat} {r c : Nat} (d : zq_dV s l) (f : zq_F (zq_PC r c) s t) (hr : 62 ≤ r) (hc : 10 ≤ c ∧ c < 23) : zq_dV t l := d.keep f (by omega) (fun j => by omega)
theorem zx_asg {s y : zh_S} {r c : Nat} (k : zq_F (zq_PR r) s y) (hr : 62 ≤ r) (hc : 10 ≤ c ∧ c < 23) (sl : Nat) (v : Int64) : (∀ j, zh_J (zh_uJ y c sl v) c j = if j = sl then v else zh_J s c j) ∧ ∀ j, zh_I (zh_uJ y c sl v) c j = zh_I s c j := by
  refine ⟨fun j => ?_, fun j => (k.2 c j (by omega)).1⟩
  rw [zs_JJ]
  by_cases h : j = sl
  · rw [if_pos h, if_pos ⟨rfl, h⟩]
  · rw [if_neg h, if_neg (fun e => h e.2)]; exact (k.2 c j (by omega)).2
theorem zq_XV.of {s t : zh_S} {c : Nat} {E : zq_Ex} (h : zq_XV s c E) (hJ : ∀ j, 10 ≤ j → j ≤ 13 → zh_J t c j = zh_J s c j) (hI : ∀ j, 14 ≤ j → j ≤ 17 → zh_I t c j = zh_I s c j) : zq_XV t c E := by
  unfold zq_XV
  rw [hJ 10 (by omega) (by omega), hJ 11 (by omega) (by omega), hJ 12 (by omega) (by omega), hJ 13 (by omega) (by omega), hI 14 (by omega) (by omega), hI 15 (by omega) (by omega), hI 16 (by omega) (by omega), hI 17 (by omega) (by omega)]
  exact h
section CC
variable {n : Nat} {r c : Nat} {l : List Nat}
theorem zx_sig (hn : 300 ≤ n) (hc : 10 ≤ c ∧ c < 23) {s : zh_S} {x : Nat ⊕ Nat} {i j : Int32} {st wh : Nat} (w : zq_w s) (d : zq_dV s l) (rd : zq_rd s r) (cu : zq_cu s r 1 2 x) (hi : zq_en_ l x i wh) (hj : zq_gd_ x → j = nI st ∧ st ≤ 200 ∧ zq_pos x ≤ l.length) : ∃ t, zf_Reader_readSignature_C n s r c j i = some t ∧ zq_cu t r 1 2 (zq_sgn l wh x).1 ∧ (zq_gd_ (zq_sgn l wh x).1 → zq_gd_ x ∧ zh_I t c 4 = zq_h l st (zq_pos x) ∧ zh_J t c 3 = lN (zq_sgn l wh x).2 ∧ (∀ k, k ≠ 3 → zh_J t c k = zh_J s c k) ∧ ∀ k, k ≠ 4 → zh_I t c k = zh_I s c k) ∧ zq_F (zq_PC r c) s t := by
  have hr := rd.2.2
  have hl := d.2.1
  rw [zf_Reader_readSignature_C]
  refine zv_ck rd.1 ?_
  cases x with
  | inl f => exact zv_f (zq_cu_ne cu) (zv_r ⟨cu, (fun ⟨p, q⟩ => by cases q), zq_F.rf⟩)
  | inr p =>
    obtain ⟨rfl, hs2, hp2⟩ := hj ⟨p, rfl⟩
    have hp3 : p ≤ l.length := hp2
    refine zv_t cu.1 (zv_p rd.2.1 (zv_ck ⟨zw_K1 w, zw_N1 w⟩ (zv_p (a := zq_h l st p) ?_ ?_)))
    · show zf_Draft_hash n s 1 (nI st) (zh_I s r 1) = _
      rw [cu.2.1]; exact zp_hash hn w d hp3 hs2
    have f1 : zq_F (zq_PC r c) s (zh_uI s c 4 (zq_h l st p)) := zq_F.rf.uI (Or.inr ⟨rfl, by omega, by omega⟩) _
    have w1 := f1.w w
    have rd1 := f1.1.rd rd
    have d1 := d.kC f1 hr hc
    obtain ⟨y, e2, c2, v2, k2⟩ := zx_int hn w1 d1 rd1 (cu.kc (c := c) (k := 4) (by omega) (zq_h l st p)) hi
    have g2 := @zq_ri_g l wh (.inr p)
    have f2 := f1.tr k2.pc
    have w2 := f2.w w
    have f3 : zq_F (zq_PC r c) s (zh_uJ y.2 c 3 y.1) := f2.uJ (Or.inr ⟨rfl, by omega, by omega⟩) _
    have rd3 := f3.1.rd rd
    obtain ⟨t4, e4, c4, k4⟩ := zx_close n rd3 (c2.kj (c := c) (k := 3) y.1) (zq_en_of (fun g => hi.use (g2 g))) hl
    have f4 := f3.tr k4.pc
    have rd4 := f4.1.rd rd
    have w4 := f4.w w
    have d4 := d.kC f4 hr hc
    obtain ⟨t5, e5, c5, k5⟩ := zx_close n (e := l.length) (i := zh_I t4 1 1) rd4 c4 (zq_en_of (fun _ => ⟨d4.1, Nat.le_refl _⟩)) hl
    refine zv_ck (zw_C w hc) (zv_l (zv_b (a := y.1) (b := y.2) e2 (zv_ck (zw_C w2 hc) (zv_l (zv_ck rd3.1 (zv_p e4 (zv_ck rd4.1 (zv_p rd4.2.1 (zv_ck ⟨zw_K1 w4, zw_N1 w4⟩ (zv_p e5 (zv_r ⟨c5, fun g => ?_, f4.tr k5.pc⟩)))))))))))
    have gg := zq_cl_g (zq_cl_g g)
    obtain ⟨aJ, aI⟩ := zx_asg (c := c) k2 hr hc 3 y.1
    have bJ : ∀ k, zh_J t5 c k = zh_J (zh_uJ y.2 c 3 y.1) c k := fun k => ((k5.2 c k (by omega)).2).trans (k4.2 c k (by omega)).2
    have bI : ∀ k, zh_I t5 c k = zh_I (zh_uJ y.2 c 3 y.1) c k := fun k => ((k5.2 c k (by omega)).1).trans (k4.2 c k (by omega)).1
    refine ⟨⟨p, rfl⟩, ?_, ?_, fun k hk => ?_, fun k hk => ?_⟩
    · rw [bI, aI, zs_II, if_pos ⟨rfl, rfl⟩]; rfl
    · rw [bJ, aJ, if_pos rfl]; exact v2 gg
    · rw [bJ, aJ, if_neg hk]; rfl
    · rw [bI, aI, zs_II, if_neg (fun e => hk e.2)]

theorem zx_cert0 (hn : 300 ≤ n) (hc : 10 ≤ c ∧ c < 23) {s : zh_S} (w : zq_w s) (d : zq_dV s l) (rd : zq_rd s r) (cu : zq_cu s r 1 2 (.inr 0)) (R0 R1 V0 V1 V2 V3 V4 V5 V6 : Nat ⊕ (Nat × Nat)) (q : (Nat ⊕ Nat) × zq_Ex) (X7 : Nat ⊕ Nat) (hR0 : R0 = zq_opX l 48 l.length (.inr 0)) (hR1 : R1 = zq_opX l 48 (zq_val R0) (zq_cur R0)) (hV0 : V0 = zq_riX l (zq_val R1) (zq_cur R1)) (hV1 : V1 = zq_rnX l 19 (zq_val R1) (zq_cur V0)) (hV2 : V2 = zq_riX l (zq_val R1) (zq_cur V1)) (hV3 : V3 = zq_riX l (zq_val R1) (zq_cur V2)) (hV4 : V4 = zq_rnX l 19 (zq_val R1) (zq_cur V3)) (hV5 : V5 = zq_riX l (zq_val R1) (zq_cur V4)) (hV6 : V6 = zq_riX l (zq_val R1) (zq_cur V5)) (hq : q = if zq_nxX l 48 (zq_val R1) (zq_cur V6) then zq_exs l (zq_val R1) (-1, 0, 0, 0, 0, false, false, false) (zq_cur V6) else (zq_cur V6, (-1, 0, 0, 0, 0, false, false, false))) (hX7 : X7 = zq_clX (zq_val R1) q.1) (hpos : zq_gd_ X7 → zq_pos X7 ≤ l.length) :
    ∃ y, zf_Reader_readCertificate n s r c = some y ∧ y.1 = zh_I y.2 r 2 ∧ zq_cu y.2 r 1 2 (zq_sgn l (zq_val R0) X7).1 ∧ (zq_gd_ (zq_sgn l (zq_val R0) X7).1 → zq_CV y.2 c (fun k => [zq_val V0, zq_val V1, zq_val V2, zq_val V3, zq_val V4, zq_val V5, zq_val V6, (zq_sgn l (zq_val R0) X7).2].getD k 0, q.2, zq_h l (zq_pos (zq_cur R0)) (zq_pos X7))) ∧ zq_F (zq_PC r c) s y.2 := by
  have hr := rd.2.2
  have hl := d.2.1
  -- what may be missing is set as missing
  have ef : ∃ t, zf_Certificate_forget n s c = some t ∧ zq_F (zq_PC r c) s t ∧ zq_XV t c (-1, 0, 0, 0, 0, false, false, false) ∧ zq_cu t r 1 2 (.inr 0) := by
    rw [zf_Certificate_forget]
    refine zv_ck (zw_C w hc) (zv_l (zv_l (zv_l (zv_l (zv_l (zv_l (zv_l (zv_l (zv_r ⟨?_, ?_, ?_⟩)))))))))
    · exact (((((((zq_F.rf.uJ (Or.inr ⟨rfl, by omega, by omega⟩) _).uJ (Or.inr ⟨rfl, by omega, by omega⟩) _).uJ (Or.inr ⟨rfl, by omega, by omega⟩) _).uJ (Or.inr ⟨rfl, by omega, by omega⟩) _).uI (Or.inr ⟨rfl, by omega, by omega⟩) _).uI (Or.inr ⟨rfl, by omega, by omega⟩) _).uI (Or.inr ⟨rfl, by omega, by omega⟩) _).uI (Or.inr ⟨rfl, by omega, by omega⟩) _
    · unfold zq_XV
      simp only [zs_II, zs_JJ, zs_JI, zs_IJ]
      simp [zq_bi]
      rfl
    · exact ((((((((cu.kj _).kj _).kj _).kj _).kc (by omega) _).kc (by omega) _).kc (by omega) _).kc (by omega) _)
  obtain ⟨sF, eF, fF, xF, cF⟩ := ef
  have wF := fF.w w
  have rdF := fF.1.rd rd
  have dF := d.kC fF hr hc
  obtain ⟨a0, e0, c0, v0, k0⟩ := zx_open n (tag := 48) (e := l.length) (i := zh_I sF 1 1) wF dF rdF cF (zq_en_of (fun _ => ⟨dF.1, Nat.le_refl _⟩)) (by decide)
  have g0 := @zq_op_g l 48 l.length (.inr 0)
  rw [← hR0] at c0 v0 g0
  have f0 := fF.tr k0.pc
  have w0 := f0.w w
  have rd0 := f0.1.rd rd
  have d0 := d.kC f0 hr hc
  have hst0 : zq_en_ l (zq_cur R0) a0.1 (zq_val R0) := zq_en_of (fun g => ⟨v0 g, (g0 g).2.1⟩)
  obtain ⟨a1, e1, c1, v1, k1⟩ := zx_open n (tag := 48) w0 d0 rd0 c0 hst0 (by decide)
  have g1 := @zq_op_g l 48 (zq_val R0) (zq_cur R0)
  rw [← hR1] at c1 v1 g1
  have f1 := f0.tr k1.pc
  have hst1 : zq_en_ l (zq_cur R1) a1.1 (zq_val R1) := zq_en_of (fun g => ⟨v1 g, by have := (g1 g).2.1; have := (g0 (g1 g).1).2.1; omega⟩)
  have z0J : ∀ j, zh_J a1.2 c j = zh_J sF c j := fun j => ((k1.2 c j (by omega)).2).trans (k0.2 c j (by omega)).2
  have z0I : ∀ j, zh_I a1.2 c j = zh_I sF c j := fun j => ((k1.2 c j (by omega)).1).trans (k0.2 c j (by omega)).1
  obtain ⟨y0, ey0, cy0, vy0, ky0⟩ := zx_int hn (f1.w w) (d.kC f1 hr hc) (f1.1.rd rd) c1 hst1
  have gy0 := @zq_ri_g l (zq_val R1) (zq_cur R1)
  rw [← hV0] at cy0 vy0 gy0
  obtain ⟨J0, I0⟩ := zx_asg (c := c) ky0 hr hc 6 y0.1
  have fy0 := f1.tr (ky0.pc (c := c))
  have fz0 : zq_F (zq_PC r c) s (zh_uJ y0.2 c 6 y0.1) := fy0.uJ (Or.inr ⟨rfl, by omega, by omega⟩) _
  have cz0 := cy0.kj (c := c) (k := 6) y0.1
  have hen0 : zq_en_ l (zq_cur V0) a1.1 (zq_val R1) := zq_en_of (fun g => hst1.use (gy0 g))
  obtain ⟨y1, ey1, cy1, vy1, ky1⟩ := zx_name hn (tag := 19) (fz0.w w) (d.kC fz0 hr hc) (fz0.1.rd rd) cz0 hen0 (by decide)
  have gy1 := @zq_rn_g l 19 (zq_val R1) (zq_cur V0)
  rw [← hV1] at cy1 vy1 gy1
  obtain ⟨J1, I1⟩ := zx_asg (c := c) ky1 hr hc 0 y1.1
  have fy1 := fz0.tr (ky1.pc (c := c))
  have fz1 : zq_F (zq_PC r c) s (zh_uJ y1.2 c 0 y1.1) := fy1.uJ (Or.inr ⟨rfl, by omega, by omega⟩) _
  have cz1 := cy1.kj (c := c) (k := 0) y1.1
  have hen1 : zq_en_ l (zq_cur V1) a1.1 (zq_val R1) := zq_en_of (fun g => hen0.use (gy1 g).1)
  obtain ⟨y2, ey2, cy2, vy2, ky2⟩ := zx_int hn (fz1.w w) (d.kC fz1 hr hc) (fz1.1.rd rd) cz1 hen1
  have gy2 := @zq_ri_g l (zq_val R1) (zq_cur V1)
  rw [← hV2] at cy2 vy2 gy2
  obtain ⟨J2, I2⟩ := zx_asg (c := c) ky2 hr hc 1 y2.1
  have fy2 := fz1.tr (ky2.pc (c := c))
  have fz2 : zq_F (zq_PC r c) s (zh_uJ y2.2 c 1 y2.1) := fy2.uJ (Or.inr ⟨rfl, by omega, by omega⟩) _
  have cz2 := cy2.kj (c := c) (k := 1) y2.1
  have hen2 : zq_en_ l (zq_cur V2) a1.1 (zq_val R1) := zq_en_of (fun g => hen1.use (gy2 g))
  obtain ⟨y3, ey3, cy3, vy3, ky3⟩ := zx_int hn (fz2.w w) (d.kC fz2 hr hc) (fz2.1.rd rd) cz2 hen2
  have gy3 := @zq_ri_g l (zq_val R1) (zq_cur V2)
  rw [← hV3] at cy3 vy3 gy3
  obtain ⟨J3, I3⟩ := zx_asg (c := c) ky3 hr hc 2 y3.1
  have fy3 := fz2.tr (ky3.pc (c := c))
  have fz3 : zq_F (zq_PC r c) s (zh_uJ y3.2 c 2 y3.1) := fy3.uJ (Or.inr ⟨rfl, by omega, by omega⟩) _
  have cz3 := cy3.kj (c := c) (k := 2) y3.1
  have hen3 : zq_en_ l (zq_cur V3) a1.1 (zq_val R1) := zq_en_of (fun g => hen2.use (gy3 g))
  obtain ⟨y4, ey4, cy4, vy4, ky4⟩ := zx_name hn (tag := 19) (fz3.w w) (d.kC fz3 hr hc) (fz3.1.rd rd) cz3 hen3 (by decide)
  have gy4 := @zq_rn_g l 19 (zq_val R1) (zq_cur V3)
  rw [← hV4] at cy4 vy4 gy4
  obtain ⟨J4, I4⟩ := zx_asg (c := c) ky4 hr hc 7 y4.1
  have fy4 := fz3.tr (ky4.pc (c := c))
  have fz4 : zq_F (zq_PC r c) s (zh_uJ y4.2 c 7 y4.1) := fy4.uJ (Or.inr ⟨rfl, by omega, by omega⟩) _
  have cz4 := cy4.kj (c := c) (k := 7) y4.1
  have hen4 : zq_en_ l (zq_cur V4) a1.1 (zq_val R1) := zq_en_of (fun g => hen3.use (gy4 g).1)
  obtain ⟨y5, ey5, cy5, vy5, ky5⟩ := zx_int hn (fz4.w w) (d.kC fz4 hr hc) (fz4.1.rd rd) cz4 hen4
  have gy5 := @zq_ri_g l (zq_val R1) (zq_cur V4)
  rw [← hV5] at cy5 vy5 gy5
  obtain ⟨J5, I5⟩ := zx_asg (c := c) ky5 hr hc 8 y5.1
  have fy5 := fz4.tr (ky5.pc (c := c))
  have fz5 : zq_F (zq_PC r c) s (zh_uJ y5.2 c 8 y5.1) := fy5.uJ (Or.inr ⟨rfl, by omega, by omega⟩) _
  have cz5 := cy5.kj (c := c) (k := 8) y5.1
  have hen5 : zq_en_ l (zq_cur V5) a1.1 (zq_val R1) := zq_en_of (fun g => hen4.use (gy5 g))
  obtain ⟨y6, ey6, cy6, vy6, ky6⟩ := zx_int hn (fz5.w w) (d.kC fz5 hr hc) (fz5.1.rd rd) cz5 hen5
  have gy6 := @zq_ri_g l (zq_val R1) (zq_cur V5)
  rw [← hV6] at cy6 vy6 gy6
  obtain ⟨J6, I6⟩ := zx_asg (c := c) ky6 hr hc 9 y6.1
  have fy6 := fz5.tr (ky6.pc (c := c))
  have fz6 : zq_F (zq_PC r c) s (zh_uJ y6.2 c 9 y6.1) := fy6.uJ (Or.inr ⟨rfl, by omega, by omega⟩) _
  have cz6 := cy6.kj (c := c) (k := 9) y6.1
  have hen6 : zq_en_ l (zq_cur V6) a1.1 (zq_val R1) := zq_en_of (fun g => hen5.use (gy6 g))
  -- no fault behind the seventh: all are as they should be
  have gs : zq_gd_ (zq_cur V6) → zq_gd_ (zq_cur V5) ∧ zq_gd_ (zq_cur V4) ∧ zq_gd_ (zq_cur V3) ∧ zq_gd_ (zq_cur V2) ∧ zq_gd_ (zq_cur V1) ∧ zq_gd_ (zq_cur V0) ∧ zq_gd_ (zq_cur R1) := fun g => by
    have h5 := gy6 g
    have h4 := gy5 h5
    have h3 := (gy4 h4).1
    have h2 := gy3 h3
    have h1 := gy2 h2
    have h0 := (gy1 h1).1
    exact ⟨h5, h4, h3, h2, h1, h0, gy0 h0⟩
  have x6 : zq_XV (zh_uJ y6.2 c 9 y6.1) c (-1, 0, 0, 0, 0, false, false, false) := by
    refine xF.of (fun j h1 h2 => ?_) (fun j h1 h2 => ?_)
    · rw [J6, if_neg (by omega), J5, if_neg (by omega), J4, if_neg (by omega), J3, if_neg (by omega), J2, if_neg (by omega), J1, if_neg (by omega), J0, if_neg (by omega), z0J]
    · rw [I6, I5, I4, I3, I2, I1, I0, z0I]
  have w6 := fz6.w w
  have d6 := d.kC fz6 hr hc
  have rd6 := fz6.1.rd rd
  -- the end, from the state behind the extensions
  have fin : ∀ t : zh_S, zq_F (zq_PX r c) (zh_uJ y6.2 c 9 y6.1) t → zq_cu t r 1 2 q.1 → (zq_gd_ q.1 → zq_gd_ (zq_cur V6) ∧ zq_XV t c q.2) → ∃ y, zb_Reader_readCertificate_124 n t r c a0.1 (zh_I a0.2 r 1) a1.1 = some y ∧ y.1 = zh_I y.2 r 2 ∧ zq_cu y.2 r 1 2 (zq_sgn l (zq_val R0) X7).1 ∧ (zq_gd_ (zq_sgn l (zq_val R0) X7).1 → zq_CV y.2 c (fun k => [zq_val V0, zq_val V1, zq_val V2, zq_val V3, zq_val V4, zq_val V5, zq_val V6, (zq_sgn l (zq_val R0) X7).2].getD k 0, q.2, zq_h l (zq_pos (zq_cur R0)) (zq_pos X7))) ∧ zq_F (zq_PC r c) s y.2 := by
    intro t ft ct gt
    have ft' := fz6.tr ft.pxc
    have rdt := ft'.1.rd rd
    obtain ⟨u, eu, cu7, ku⟩ := zx_close n rdt ct (zq_en_of (fun g => hen6.use (gt g).1)) hl
    rw [← hX7] at cu7
    have fu := ft'.tr ku.pc
    have rdu := fu.1.rd rd
    have g7 : zq_gd_ X7 → zq_gd_ q.1 := by rw [hX7]; exact zq_cl_g
    have gR0 : zq_gd_ X7 → zq_gd_ (zq_cur R0) := fun g => (g1 (gs (gt (g7 g)).1).2.2.2.2.2.2).1
    obtain ⟨v, ev, cv, hv, kv⟩ := zx_sig hn hc (st := zq_pos (zq_cur R0)) (j := zh_I a0.2 r 1) (fu.w w) (d.kC fu hr hc) rdu cu7 (zq_en_of (fun g => hst0.use (gR0 g))) (fun g => ⟨(zq_cu_pos c0 (gR0 g)).1, (zq_cu_pos c0 (gR0 g)).2, hpos g⟩)
    have fv := fu.tr kv
    rw [zb_Reader_readCertificate_124]
    refine zv_ck rdt.1 (zv_p eu (zv_ck rdu.1 (zv_p ev (zv_ck (fv.1.rd rd).1 (zv_r ⟨rfl, cv, fun g => ?_, fv⟩)))))
    obtain ⟨hg, h4, h3, hJ, hI⟩ := hv g
    obtain ⟨gq, xq⟩ := gt (g7 hg)
    obtain ⟨h5', h4', h3', h2', h1', h0', -⟩ := gs gq
    have tJ : ∀ j, j < 10 → zh_J t c j = zh_J (zh_uJ y6.2 c 9 y6.1) c j := fun j hj => (ft.2 c j (by omega)).2
    have uJ : ∀ j, zh_J u c j = zh_J t c j := fun j => (ku.2 c j (by omega)).2
    refine ⟨⟨?_, ?_, ?_, ?_, ?_, ?_, ?_, h3⟩, h4, (xq.kR ku hr hc).of (fun j _ _ => hJ j (by omega)) (fun j _ _ => hI j (by omega))⟩
    · rw [hJ 6 (by omega), uJ, tJ 6 (by omega), J6, if_neg (by omega), J5, if_neg (by omega), J4, if_neg (by omega), J3, if_neg (by omega), J2, if_neg (by omega), J1, if_neg (by omega), J0, if_pos rfl]; exact vy0 h0'
    · rw [hJ 0 (by omega), uJ, tJ 0 (by omega), J6, if_neg (by omega), J5, if_neg (by omega), J4, if_neg (by omega), J3, if_neg (by omega), J2, if_neg (by omega), J1, if_pos rfl]; exact vy1 h1'
    · rw [hJ 1 (by omega), uJ, tJ 1 (by omega), J6, if_neg (by omega), J5, if_neg (by omega), J4, if_neg (by omega), J3, if_neg (by omega), J2, if_pos rfl]; exact vy2 h2'
    · rw [hJ 2 (by omega), uJ, tJ 2 (by omega), J6, if_neg (by omega), J5, if_neg (by omega), J4, if_neg (by omega), J3, if_pos rfl]; exact vy3 h3'
    · rw [hJ 7 (by omega), uJ, tJ 7 (by omega), J6, if_neg (by omega), J5, if_neg (by omega), J4, if_pos rfl]; exact vy4 h4'
    · rw [hJ 8 (by omega), uJ, tJ 8 (by omega), J6, if_neg (by omega), J5, if_pos rfl]; exact vy5 h5'
    · rw [hJ 9 (by omega), uJ, tJ 9 (by omega), J6, if_pos rfl]; exact vy6 gq
  rw [zf_Reader_readCertificate]
  refine zv_ck (zw_C w hc) (zv_p eF (zv_ck rdF.1 (zv_p rdF.2.1 (zv_ck ⟨zw_K1 wF, zw_N1 wF⟩ (zv_b (a := a0.1) (b := a0.2) e0 (zv_ck rd0.1 (zv_l (zv_b (a := a1.1) (b := a1.2) e1 (zv_ck (f1.1.rd rd).1 ?_)))))))))
  refine zv_b (a := y0.1) (b := y0.2) ey0 (zv_ck (zw_C (fy0.w w) hc) (zv_l (zv_ck (fz0.1.rd rd).1 ?_)))
  refine zv_b (a := y1.1) (b := y1.2) ey1 (zv_ck (zw_C (fy1.w w) hc) (zv_l (zv_ck (fz1.1.rd rd).1 ?_)))
  refine zv_b (a := y2.1) (b := y2.2) ey2 (zv_ck (zw_C (fy2.w w) hc) (zv_l (zv_ck (fz2.1.rd rd).1 ?_)))
  refine zv_b (a := y3.1) (b := y3.2) ey3 (zv_ck (zw_C (fy3.w w) hc) (zv_l (zv_ck (fz3.1.rd rd).1 ?_)))
  refine zv_b (a := y4.1) (b := y4.2) ey4 (zv_ck (zw_C (fy4.w w) hc) (zv_l (zv_ck (fz4.1.rd rd).1 ?_)))
  refine zv_b (a := y5.1) (b := y5.2) ey5 (zv_ck (zw_C (fy5.w w) hc) (zv_l (zv_ck (fz5.1.rd rd).1 ?_)))
  refine zv_b (a := y6.1) (b := y6.2) ey6 (zv_ck (zw_C (fy6.w w) hc) (zv_l (zv_ck (fz6.1.rd rd).1 ?_)))
  refine zv_p (zx_isNext n (tag := 48) w6 d6 rd6 cz6 hen6 (by decide)) ?_
  cases hN : zq_nxX l 48 (zq_val R1) (zq_cur V6) with
  | false =>
    rw [hN] at hq
    have hq : q = (zq_cur V6, (-1, 0, 0, 0, 0, false, false, false)) := hq
    exact zv_t rfl (fin _ zq_F.rf (by rw [hq]; exact cz6) (by rw [hq]; exact fun g => ⟨g, x6⟩))
  | true =>
    rw [hN] at hq
    have hq : q = zq_exs l (zq_val R1) (-1, 0, 0, 0, 0, false, false, false) (zq_cur V6) := hq
    obtain ⟨t, et, ct, ht, kt⟩ := zx_exs hn hc w6 d6 rd6 cz6 hen6 (fun _ => x6)
    rw [← hq] at ct ht
    exact zv_f (by decide) (zv_p et (fin t kt ct ht))
end CC
