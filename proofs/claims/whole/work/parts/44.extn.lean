/-! A whole extension: the reference. -/
theorem zn_in17 (n : Nat) {x : Nat} (hx : x < 2 ^ 63) : zf_M_in n (lN x) 1 7 = some (if 1 ≤ x ∧ x ≤ 7 then 1 else 0) := by
  rw [zn_in]
  have e : ((1 : Int64) ≤ lN x ∧ lN x ≤ 7) ↔ (1 ≤ x ∧ x ≤ 7) := by
    rw [zl_1, zl_7, pk_lLE (by omega) hx, pk_lLE hx (by omega)]
  by_cases h : 1 ≤ x ∧ x ≤ 7
  · rw [if_pos h, if_pos (e.mpr h)]
  · rw [if_neg h, if_neg (fun q => h (e.mp q))]
section MY
variable {n : Nat} {s : zh_S} {l : List Nat} {e : Nat} {x : Nat ⊕ Nat} {i : Int32} {E : zq_Ex}
theorem zx_mext0 (hn : 300 ≤ n) (w : zq_w s) (d : zq_dM s l) (cu : zq_cu s 44 9 10 x) (hi : zq_en_ l x i e) (hE : zq_gd_ x → zq_XM s E) {bf : Nat} {jb : Int64} (hbf : bf ≤ 2 ^ 63) (hjb : zq_gd_ x → jb = zq_bf bf) (hA : zq_gd_ x → bf ≤ 1 → E.2.2.2.2.2.2.1 = false) (O I G : Nat ⊕ (Nat × Nat)) (X2 : Nat ⊕ Nat) (R : (Nat ⊕ Nat) × zq_Ex) (hO : O = zq_opX l 48 e x) (hI : I = zq_riX l (zq_val O) (zq_cur O)) (hX2 : X2 = if bf ≤ zq_val I then zq_cur I else zq_fl 4 (zq_pos (zq_cur O)) (zq_cur I)) (hG : G = zq_rfX l (zq_val O) X2) (hR : R = zq_eb l (zq_val I) (zq_val O) (zq_val G) (zq_cur G) E) :
    ∃ y, zf_M_extension n s 44 jb i = some y ∧ zq_cu y.2 44 9 10 (zq_clX (zq_val O) R.1) ∧ (zq_gd_ (zq_clX (zq_val O) R.1) → zq_gd_ x ∧ y.1 = lN (zq_val I) ∧ zq_XM y.2 (zq_inc R.2) ∧ (zq_val I + 1 ≤ 1 → R.2.2.2.2.2.2.2.1 = false)) ∧ zq_F zq_PT s y.2 := by
  have hl := d.2.1
  obtain ⟨y0, e0, c0, v0, k0⟩ := zx_head n (tag := 48) w d cu hi (by decide)
  have g0 := @zq_op_g l 48 e x
  rw [← hO] at c0 v0 g0
  have w0 := k0.w w
  have d0 := d.kS k0
  have hst : zq_en_ l (zq_cur O) y0.1 (zq_val O) := zq_en_of (fun g => ⟨v0 g, by have := (g0 g).2.1; have := (hi.use (g0 g).1).2; omega⟩)
  obtain ⟨y1, e1, c1, v1, k1⟩ := zx_num hn w0 d0 c0 hst
  have g1 := @zq_ri_g l (zq_val O) (zq_cur O)
  have l63 := zq_ri_63 d.2.2.1 (zq_val O) (zq_cur O)
  rw [← hI] at c1 v1 g1 l63
  have f1 := k0.tr k1
  have w1 := f1.w w
  have gX2 : zq_gd_ X2 → zq_gd_ (zq_cur I) ∧ bf ≤ zq_val I := by
    rw [hX2]
    intro g
    split at g
    · exact ⟨g, by assumption⟩
    · exact absurd g zq_fl_g
  have fin : ∀ (t : zh_S) (X : Nat ⊕ Nat) (E' : zq_Ex), zq_F zq_PT s t → zq_cu t 44 9 10 X → (zq_gd_ X → zq_gd_ X2) → (zq_gd_ X → zq_XM t E') → ∃ u, zb_M_extension_232 n t 44 y0.1 y1.1 = some u ∧ zq_cu u.2 44 9 10 (zq_clX (zq_val O) X) ∧ (zq_gd_ (zq_clX (zq_val O) X) → zq_gd_ x ∧ u.1 = lN (zq_val I) ∧ zq_XM u.2 (zq_inc E')) ∧ zq_F zq_PT s u.2 := by
    intro t X E' ft ct gX hX
    have wt := ft.w w
    obtain ⟨u, eu, cu', ku⟩ := zx_done n wt ct (zq_en_of (fun g => hst.use (g1 (gX2 (gX g)).1))) hl
    have fu := ft.tr ku.pt
    have wu := fu.w w
    rw [zb_M_extension_232]
    refine zv_ck ⟨zw_K44 wt, zw_N44 wt⟩ (zv_p eu (zv_ck ⟨zw_K44 wu, zw_N44 wu⟩ (zv_p (zw_R44_11 wu) (zv_ck (zw_A52 wu (i := 13) (by decide)) (zv_ck (zw_A52 wu (i := 13) (by decide)) (zv_l (zv_r ⟨cu'.kj _, fun g => ?_, fu.uJ (Or.inr ⟨rfl, by decide⟩) _⟩)))))))
    have gg := zq_cl_g g
    have gi := (gX2 (gX gg)).1
    refine ⟨(g0 (g1 gi)).1, v1 gi, ?_⟩
    obtain ⟨u1, u2, u3, u4, u5, u6⟩ := (hX gg).kS ku
    refine ⟨?_, ?_, ?_, ?_, ?_, ?_⟩
    · rw [zs_JJ, if_neg (by decide)]; exact u1
    · rw [zs_JJ, if_neg (by decide)]; exact u2
    · rw [zs_JJ, if_neg (by decide)]; exact u3
    · rw [zs_JJ, if_neg (by decide)]; exact u4
    · rw [zs_JJ, if_pos ⟨rfl, rfl⟩, show zh_J u 52 ((13 : Int32).toNatClampNeg) = zh_J u 52 13 from rfl, u5, lN_1]; rfl
    · rw [zs_JJ, if_neg (by decide)]; exact u6
  -- no authority before the first id
  have noA : zq_gd_ (zq_cur G) → zq_val I ≤ 1 → E.2.2.2.2.2.2.1 = false := fun g h => by
    have gg := gX2 (zq_rf_g (by rw [← hG]; exact g))
    exact hA (g0 (g1 gg.1)).1 (by omega)
  have RA : zq_gd_ (zq_cur G) → zq_val I + 1 ≤ 1 → R.2.2.2.2.2.2.2.1 = false := fun g h => by
    have e0 : zq_val I = 0 := by omega
    rw [hR]; unfold zq_eb; rw [e0, if_neg (by decide), if_neg (by decide), if_neg (by decide)]
    exact noA g (by omega)
  have Rg : zq_gd_ R.1 → zq_gd_ (zq_cur G) := fun g => by
    cases hC : zq_cur G with
    | inl f => rw [hR, hC, zq_eb_f] at g; obtain ⟨p, g⟩ := g; cases g
    | inr p => exact ⟨p, rfl⟩
  -- by the id
  have body : ∀ (t : zh_S) (i8 : Int32), zq_F zq_PS s t → zq_cu t 44 9 10 (zq_cur G) → (zq_gd_ (zq_cur G) → (i8 = 0 ↔ ¬ zq_val G = 1)) → ∃ u, zb_M_extension_64 n t 44 y0.1 y1.1 i8 = some u ∧ zq_cu u.2 44 9 10 (zq_clX (zq_val O) R.1) ∧ (zq_gd_ (zq_clX (zq_val O) R.1) → zq_gd_ x ∧ u.1 = lN (zq_val I) ∧ zq_XM u.2 (zq_inc R.2) ∧ (zq_val I + 1 ≤ 1 → R.2.2.2.2.2.2.2.1 = false)) ∧ zq_F zq_PT s u.2 := by
    intro t i8 ft ct h8
    have wt := ft.w w
    have dt := d.kS ft
    rw [zb_M_extension_64]
    refine zv_ck ⟨zw_K44 wt, zw_N44 wt⟩ ?_
    cases hC : zq_cur G with
    | inl f =>
      have eR : R.1 = .inl f := by rw [hR, hC]; exact zq_eb_f
      rw [hC] at ct
      rw [eR]
      exact zv_f (zq_cu_ne ct) (zv_r ⟨ct, (fun ⟨p, q⟩ => by cases q), ft.pt⟩)
    | inr p =>
      have gG : zq_gd_ (zq_cur G) := ⟨p, hC⟩
      have gX := zq_rf_g (show zq_gd_ (zq_cur (zq_rfX l (zq_val O) X2)) by rw [← hG]; exact gG)
      have gI := (gX2 gX).1
      have het : zq_en_ l (zq_cur G) y0.1 (zq_val O) := zq_en_of (fun _ => hst.use (g1 gI))
      have hEt : zq_gd_ (zq_cur G) → zq_XM t E := fun _ => (hE (g0 (g1 gI)).1).kS ft
      have h0 : zh_I t 44 10 = nI 0 := by rw [hC] at ct; exact ct.1
      have conv_ : ∀ (X : Nat ⊕ Nat) (E' : zq_Ex) (u : Int64 × zh_S), R = (X, E') → zq_cu u.2 44 9 10 (zq_clX (zq_val O) X) ∧ (zq_gd_ (zq_clX (zq_val O) X) → zq_gd_ x ∧ u.1 = lN (zq_val I) ∧ zq_XM u.2 (zq_inc E')) ∧ zq_F zq_PT s u.2 → zq_cu u.2 44 9 10 (zq_clX (zq_val O) R.1) ∧ (zq_gd_ (zq_clX (zq_val O) R.1) → zq_gd_ x ∧ u.1 = lN (zq_val I) ∧ zq_XM u.2 (zq_inc R.2) ∧ (zq_val I + 1 ≤ 1 → R.2.2.2.2.2.2.2.1 = false)) ∧ zq_F zq_PT s u.2 := by
        intro X E' u h q
        have RA' := RA gG
        rw [h] at RA' ⊢
        exact ⟨q.1, fun g => ⟨(q.2.1 g).1, (q.2.1 g).2.1, (q.2.1 g).2.2, RA'⟩, q.2.2⟩
      refine zv_t h0 (zv_l ?_)
      try dsimp only
      rw [v1 gI]
      rw [v1 gI] at fin
      by_cases b1 : zq_val I = 1
      · obtain ⟨t5, e5, c5, h5, k5⟩ := zx_mbasic hn wt dt ct het hEt (fun g => noA g (by omega))
        obtain ⟨u, eu, hu⟩ := fin t5 _ _ (ft.pt.tr k5) c5 (fun _ => gX) (fun g => (h5 g).2)
        refine zv_t ((lg_cmp_eq _ _).mpr (by rw [b1]; rfl)) (zv_p e5 ⟨u, eu, conv_ _ _ u ?_ hu⟩)
        rw [hR]; unfold zq_eb; rw [if_pos b1]
      refine zv_f (by rw [lg_cmp_eq, zl_1, pk_lEQ l63 (by omega)]; exact b1) ?_
      by_cases b2 : zq_val I = 2
      · obtain ⟨y5, e5, c5, v5, k5⟩ := zx_num hn wt dt ct het
        have g5 := @zq_ri_g l (zq_val O) (zq_cur G)
        have m63 := zq_ri_63 d.2.2.1 (zq_val O) (zq_cur G)
        have f5 := ft.tr k5
        have w5 := f5.w w
        have f6 : zq_F zq_PT s (zh_uJ y5.2 52 10 y5.1) := f5.pt.uJ (Or.inr ⟨rfl, by omega⟩) _
        have w6 := f6.w w
        have c6 := c5.kj (c := 52) (k := 10) y5.1
        have X6 : zq_gd_ (zq_cur (zq_riX l (zq_val O) (zq_cur G))) → zq_XM (zh_uJ y5.2 52 10 y5.1) (zq_usE l (zq_val O) (zq_cur G) E) := fun g => by
          obtain ⟨u1, u2, u3, u4, u5, u6⟩ := (hEt (g5 g)).kS k5
          refine ⟨?_, ?_, ?_, ?_, ?_, ?_⟩
          · rw [zs_JJ, if_neg (by omega)]; exact u1
          · rw [zs_JJ, if_pos ⟨rfl, rfl⟩]; exact v5 g
          · rw [zs_JJ, if_neg (by omega)]; exact u3
          · rw [zs_JJ, if_neg (by omega)]; exact u4
          · rw [zs_JJ, if_neg (by omega)]; exact u5
          · rw [zs_JJ, if_neg (by omega)]; exact u6
        have eR : R = ((zq_us l (zq_val O) (zq_cur G)).1, zq_usE l (zq_val O) (zq_cur G) E) := by rw [hR]; unfold zq_eb; rw [if_neg b1, if_pos b2]
        refine zv_t ((lg_cmp_eq _ _).mpr (by rw [b2]; rfl)) (zv_p (zw_R44_11 wt) (zv_b (a := y5.1) (b := y5.2) e5 (zv_ck (zw_A52 w5 (i := 10) (by decide)) (zv_l (zv_ck ⟨zw_K44 w6, zw_N44 w6⟩ ?_)))))
        have hus : (zq_us l (zq_val O) (zq_cur G)).1 = if 1 ≤ zq_val (zq_riX l (zq_val O) (zq_cur G)) ∧ zq_val (zq_riX l (zq_val O) (zq_cur G)) ≤ 7 then zq_cur (zq_riX l (zq_val O) (zq_cur G)) else zq_fl 4 (zq_pos (zq_cur G)) (zq_cur (zq_riX l (zq_val O) (zq_cur G))) := rfl
        cases hV : zq_cur (zq_riX l (zq_val O) (zq_cur G)) with
        | inl f =>
          have eX : (zq_us l (zq_val O) (zq_cur G)).1 = .inl f := by rw [hus, hV]; split <;> rfl
          rw [hV] at c6
          obtain ⟨u, eu, hu⟩ := fin (zh_uJ y5.2 52 10 y5.1) (.inl f) (zq_usE l (zq_val O) (zq_cur G) E) f6 c6 (fun ⟨p, q⟩ => by cases q) (fun ⟨p, q⟩ => by cases q)
          exact zv_f (zq_cu_ne c6) ⟨u, eu, conv_ _ _ u (by rw [eR, eX]) hu⟩
        | inr p5 =>
          have gV : zq_gd_ (zq_cur (zq_riX l (zq_val O) (zq_cur G))) := ⟨p5, hV⟩
          have z6 : zh_I (zh_uJ y5.2 52 10 y5.1) 44 10 = nI 0 := by rw [hV] at c6; exact c6.1
          refine zv_t z6 (zv_p (zw_R44_11 w6) (zv_ck (zw_A52 w6 (i := 10) (by decide)) (zv_p (a := if 1 ≤ zq_val (zq_riX l (zq_val O) (zq_cur G)) ∧ zq_val (zq_riX l (zq_val O) (zq_cur G)) ≤ 7 then 1 else 0) ?_ ?_)))
          · show zf_M_in n (zh_J (zh_uJ y5.2 52 10 y5.1) 52 10) 1 7 = _
            rw [zs_JJ, if_pos ⟨rfl, rfl⟩, v5 gV]
            exact zn_in17 n m63
          by_cases hh : 1 ≤ zq_val (zq_riX l (zq_val O) (zq_cur G)) ∧ zq_val (zq_riX l (zq_val O) (zq_cur G)) ≤ 7
          · have eX : (zq_us l (zq_val O) (zq_cur G)).1 = zq_cur (zq_riX l (zq_val O) (zq_cur G)) := by rw [hus, if_pos hh]
            obtain ⟨u, eu, hu⟩ := fin (zh_uJ y5.2 52 10 y5.1) _ (zq_usE l (zq_val O) (zq_cur G) E) f6 c6 (fun _ => gX) X6
            exact zv_f (by rw [if_pos hh]; decide) ⟨u, eu, conv_ _ _ u (by rw [eR, eX]) hu⟩
          · have eX : (zq_us l (zq_val O) (zq_cur G)).1 = zq_fl 4 (zq_pos (zq_cur G)) (zq_cur (zq_riX l (zq_val O) (zq_cur G))) := by rw [hus, if_neg hh]
            obtain ⟨t7, e7, c7, k7⟩ := zx_fails n (k := 4) (q := zq_pos (zq_cur G)) (i := 4) (j := zh_I t 44 9) w6 c6 (by omega) (fun _ => ⟨rfl, zq_cu_pos ct gG⟩)
            obtain ⟨u, eu, hu⟩ := fin t7 _ (zq_usE l (zq_val O) (zq_cur G) E) (f6.tr k7.pt) c7 (fun _ => gX) (fun g => absurd g zq_fl_g)
            exact zv_t (by rw [if_neg hh]) (zv_p e7 ⟨u, eu, conv_ _ _ u (by rw [eR, eX]) hu⟩)
      refine zv_f (by rw [lg_cmp_eq, zl_2, pk_lEQ l63 (by omega)]; exact b2) ?_
      by_cases b3 : zq_val I = 3
      · obtain ⟨t5, e5, c5, h5, k5⟩ := zx_mrealm hn wt dt ct het hEt
        obtain ⟨u, eu, hu⟩ := fin t5 _ _ (ft.pt.tr k5) c5 (fun _ => gX) (fun g => (h5 g).2)
        refine zv_t ((lg_cmp_eq _ _).mpr (by rw [b3]; rfl)) (zv_p e5 ⟨u, eu, conv_ _ _ u ?_ hu⟩)
        rw [hR]; unfold zq_eb; rw [if_neg b1, if_neg b2, if_pos b3]
      refine zv_f (by rw [lg_cmp_eq, zl_3, pk_lEQ l63 (by omega)]; exact b3) ?_
      -- an opaque one
      obtain ⟨y5, e5, c5, v5, k5⟩ := zx_head n (tag := 4) wt dt ct het (by decide)
      have g5 := @zq_op_g l 4 (zq_val O) (zq_cur G)
      have f5 := ft.tr k5
      have w5 := f5.w w
      have eR : R = (zq_sk (zq_opX l 4 (zq_val O) (zq_cur G)), (E.1, E.2.1, E.2.2.1, E.2.2.2.1, E.2.2.2.2.1, E.2.2.2.2.2.1, E.2.2.2.2.2.2.1, E.2.2.2.2.2.2.2 || decide (zq_val G = 1))) := by rw [hR]; unfold zq_eb; rw [if_neg b1, if_neg b2, if_neg b3]
      have t196 : ∀ v : Int32, zq_cu (zh_uI y5.2 44 9 v) 44 9 10 (zq_sk (zq_opX l 4 (zq_val O) (zq_cur G))) → ∃ u, zb_M_extension_196 n y5.2 44 y0.1 (lN (zq_val I)) i8 44 v = some u ∧ zq_cu u.2 44 9 10 (zq_clX (zq_val O) R.1) ∧ (zq_gd_ (zq_clX (zq_val O) R.1) → zq_gd_ x ∧ u.1 = lN (zq_val I) ∧ zq_XM u.2 (zq_inc R.2) ∧ (zq_val I + 1 ≤ 1 → R.2.2.2.2.2.2.2.1 = false)) ∧ zq_F zq_PT s u.2 := by
        intro v cv
        have k6 : zq_F zq_PS t (zh_uI y5.2 44 9 v) := k5.uI ⟨rfl, Or.inl rfl⟩ _
        have f6 := ft.tr k6
        have w6 := f6.w w
        obtain ⟨u1, u2, u3, u4, u5, u6⟩ := (hEt gG).kS k6
        have put : ∀ j : Int64, j = lN (zq_fv E.2.2.2.2.2.1 E.2.2.2.2.2.2.1 (E.2.2.2.2.2.2.2 || decide (zq_val G = 1))) → ∃ u, zb_M_extension_231 n (zh_uI y5.2 44 9 v) 44 y0.1 (lN (zq_val I)) 52 14 j = some u ∧ zq_cu u.2 44 9 10 (zq_clX (zq_val O) R.1) ∧ (zq_gd_ (zq_clX (zq_val O) R.1) → zq_gd_ x ∧ u.1 = lN (zq_val I) ∧ zq_XM u.2 (zq_inc R.2) ∧ (zq_val I + 1 ≤ 1 → R.2.2.2.2.2.2.2.1 = false)) ∧ zq_F zq_PT s u.2 := by
          intro j hj
          obtain ⟨u, eu, hu⟩ := fin (zh_uJ (zh_uI y5.2 44 9 v) 52 14 j) _ (E.1, E.2.1, E.2.2.1, E.2.2.2.1, E.2.2.2.2.1, E.2.2.2.2.2.1, E.2.2.2.2.2.2.1, E.2.2.2.2.2.2.2 || decide (zq_val G = 1)) (f6.pt.uJ (Or.inr ⟨rfl, by omega⟩) _) (cv.kj j) (fun _ => gX) (fun _ => by
            refine ⟨?_, ?_, ?_, ?_, ?_, ?_⟩
            · rw [zs_JJ, if_neg (by omega)]; exact u1
            · rw [zs_JJ, if_neg (by omega)]; exact u2
            · rw [zs_JJ, if_neg (by omega)]; exact u3
            · rw [zs_JJ, if_neg (by omega)]; exact u4
            · rw [zs_JJ, if_neg (by omega)]; exact u5
            · rw [zs_JJ, if_pos ⟨rfl, rfl⟩]; exact hj)
          rw [zb_M_extension_231]
          exact zv_ck (zw_A52 w6 (i := 14) (by decide)) (zv_l ⟨u, eu, conv_ _ _ u eR hu⟩)
        rw [zb_M_extension_196]
        refine zv_ck ⟨zw_K44 w5, zw_N44 w5⟩ (zv_l (zv_ck ⟨zw_K44 w6, zw_N44 w6⟩ (zv_p (zw_R44_11 w6) ?_)))
        by_cases h : i8 = 0
        · refine zv_t h (zv_p (zw_R44_11 w6) (zv_ck (zw_A52 w6 (i := 14) (by decide)) (put _ ?_)))
          show zh_J (zh_uI y5.2 44 9 v) 52 14 = _
          rw [u6, decide_eq_false ((h8 gG).mp h), Bool.or_false]
        · refine zv_f h (zv_p (zw_R44_11 w6) (zv_ck (zw_A52 w6 (i := 14) (by decide)) (put _ ?_)))
          show zh_J (zh_uI y5.2 44 9 v) 52 14 ||| 8 = _
          have : zq_val G = 1 := Classical.byContradiction (fun q => h ((h8 gG).mpr q))
          rw [u6, decide_eq_true this, Bool.or_true, zq_fv_8]
      refine zv_b (a := y5.1) (b := y5.2) e5 (zv_ck ⟨zw_K44 w5, zw_N44 w5⟩ ?_)
      cases hS : zq_opX l 4 (zq_val O) (zq_cur G) with
      | inl f =>
        rw [hS] at c5
        refine zv_f (zq_cu_ne c5) (t196 _ ?_)
        rw [hS]
        exact ⟨by rw [zs_II, if_neg (by omega)]; exact c5.1, c5.2⟩
      | inr aq =>
        rw [hS] at c5 v5 g5
        have gS : zq_gd_ (zq_cur (.inr aq)) := ⟨aq.2, rfl⟩
        have q2 : aq.1 ≤ zq_val O := (g5 gS).2.1
        have q3 := (het.use gG).2
        refine zv_t c5.1 (t196 _ ?_)
        rw [hS]
        exact ⟨by rw [zs_II, if_neg (by omega)]; exact c5.1, by rw [zs_II, if_pos ⟨rfl, rfl⟩]; exact v5 gS, by omega⟩
  -- the flag
  have flag : ∀ (t : zh_S), zq_F zq_PS s t → zq_cu t 44 9 10 X2 → ∃ u, zb_M_extension_44 n t 44 y0.1 y1.1 = some u ∧ zq_cu u.2 44 9 10 (zq_clX (zq_val O) R.1) ∧ (zq_gd_ (zq_clX (zq_val O) R.1) → zq_gd_ x ∧ u.1 = lN (zq_val I) ∧ zq_XM u.2 (zq_inc R.2) ∧ (zq_val I + 1 ≤ 1 → R.2.2.2.2.2.2.2.1 = false)) ∧ zq_F zq_PT s u.2 := by
    intro t ft ct
    have wt := ft.w w
    have dt := d.kS ft
    have het : zq_en_ l X2 y0.1 (zq_val O) := zq_en_of (fun g => hst.use (g1 (gX2 g).1))
    rw [zb_M_extension_44]
    refine zv_ck ⟨zw_K44 wt, zw_N44 wt⟩ (zv_p (zx_next n (tag := 1) wt dt ct het (by decide)) ?_)
    cases hN : zq_nxX l 1 (zq_val O) X2 with
    | false =>
      obtain ⟨z1, z2⟩ := zq_rf_0 hN
      rw [← hG] at z1 z2
      refine zv_t rfl (body t _ ft (by rw [z1]; exact ct) (fun _ => ?_))
      rw [z2]
      exact ⟨fun _ => by decide, fun _ => rfl⟩
    | true =>
      obtain ⟨t2, e2, c2, k2⟩ := zx_truth n wt dt ct het hN
      have v2 := @zq_rf_1 l (zq_val O) X2 hN
      rw [← hG] at c2 v2
      refine zv_f (by decide) (zv_p e2 (body t2 _ (ft.tr k2) c2 (fun g => ?_)))
      rw [v2 g]
      exact ⟨fun h => absurd h (by decide), fun h => absurd rfl h⟩
  rw [zf_M_extension]
  refine zv_ck ⟨zw_K44 w, zw_N44 w⟩ (zv_b (a := y0.1) (b := y0.2) e0 (zv_ck ⟨zw_K44 w0, zw_N44 w0⟩ (zv_l (zv_b (a := y1.1) (b := y1.2) e1 (zv_ck ⟨zw_K44 w1, zw_N44 w1⟩ ?_)))))
  cases hC : zq_cur I with
  | inl f =>
    have eX : X2 = zq_cur I := by rw [hX2, hC]; split <;> rfl
    have cI := c1
    rw [hC] at cI
    exact zv_f (zq_cu_ne cI) (flag y1.2 f1 (by rw [eX]; exact c1))
  | inr p =>
    have g : zq_gd_ (zq_cur I) := ⟨p, hC⟩
    have h0 : zh_I y1.2 44 10 = nI 0 := by have cI := c1; rw [hC] at cI; exact cI.1
    refine zv_t h0 ?_
    by_cases h : 0 < lg_cmp y1.1 jb
    · have eX : X2 = zq_cur I := by
        rw [hX2]
        rw [v1 g, hjb (g0 (g1 g)).1, zq_bf_lt hbf l63] at h
        rw [if_pos h]
      exact zv_t h (flag y1.2 f1 (by rw [eX]; exact c1))
    · obtain ⟨u, e2, g3, k2⟩ := zx_fails n (k := 4) (q := zq_pos (zq_cur O)) (i := 4) (j := zh_I y0.2 44 9) w1 c1 (by omega) (fun g => ⟨rfl, zq_cu_pos c0 (g1 g)⟩)
      have eX : X2 = zq_fl 4 (zq_pos (zq_cur O)) (zq_cur I) := by
        rw [hX2]
        rw [v1 g, hjb (g0 (g1 g)).1, zq_bf_lt hbf l63] at h
        rw [if_neg h]
      exact zv_f h (zv_p e2 (flag u (f1.tr k2) (by rw [eX]; exact g3)))
theorem zx_mext (hn : 300 ≤ n) (w : zq_w s) (d : zq_dM s l) (cu : zq_cu s 44 9 10 x) (hi : zq_en_ l x i e) (hE : zq_gd_ x → zq_XM s E) {bf : Nat} {jb : Int64} (hbf : bf ≤ 2 ^ 63) (hjb : zq_gd_ x → jb = zq_bf bf) (hA : zq_gd_ x → bf ≤ 1 → E.2.2.2.2.2.2.1 = false) : ∃ y, zf_M_extension n s 44 jb i = some y ∧ zq_cu y.2 44 9 10 (zq_ext l e bf E x).1 ∧ (zq_gd_ (zq_ext l e bf E x).1 → zq_gd_ x ∧ y.1 = lN (zq_ext l e bf E x).2.1 ∧ zq_XM y.2 (zq_ext l e bf E x).2.2 ∧ ((zq_ext l e bf E x).2.1 + 1 ≤ 1 → (zq_ext l e bf E x).2.2.2.2.2.2.2.2.1 = false)) ∧ zq_F zq_PT s y.2 :=
  zx_mext0 hn w d cu hi hE hbf hjb hA _ _ _ _ _ rfl rfl rfl rfl rfl
end MY
