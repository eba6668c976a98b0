/-! Lists: the reference. -/
abbrev zq_PW (a k : Nat) : Prop := zq_PS a k ∨ a = 44 ∧ k = 12 ∨ a = 52 ∧ k < 15 ∨ a = 53 ∨ a = 54
theorem zq_F.pw {s t : zh_S} (f : zq_F zq_PS s t) : zq_F zq_PW s t := f.mo (fun _ _ h => Or.inl h)
theorem zq_F.puw {s t : zh_S} (f : zq_F zq_PU s t) : zq_F zq_PW s t := f.mo (fun _ _ h => by rcases h with h | h; exact Or.inl h; exact Or.inr (Or.inr (Or.inl h)))
theorem zq_L.kW {s t : zh_S} {l : List Nat} (d : zq_dM s l) (f : zq_F zq_PW s t) : zq_dM t l := d.keep f (by omega) (fun j => by omega)
def zq_LM (s : zh_S) (E : zq_Le) : Prop := ∀ t, t < E.1 → zh_J s 53 t = lN (E.2.1 t) ∧ zh_J s 54 t = lN (E.2.2 t)
def zq_RM (s : zh_S) (C : zq_Cl) : Prop := (zh_J s 52 1 = lN (C.1 0) ∧ zh_J s 52 2 = lN (C.1 1) ∧ zh_J s 52 3 = lN (C.1 2) ∧ zh_J s 52 7 = lN (C.1 3)) ∧ zh_J s 52 8 = C.2.2.toInt64 ∧ zh_I s 44 12 = nI C.2.1.1 ∧ zq_LM s C.2.1
theorem zq_cu.k12 {s : zh_S} {x : Nat ⊕ Nat} (h : zq_cu s 44 9 10 x) (v : Int32) : zq_cu (zh_uI s 44 12 v) 44 9 10 x := by
  cases x with
  | inl f => exact ⟨by rw [zs_II, if_neg (by omega)]; exact h.1, h.2⟩
  | inr p => exact ⟨by rw [zs_II, if_neg (by omega)]; exact h.1, by rw [zs_II, if_neg (by omega)]; exact h.2.1, h.2.2⟩
section LM
variable {n : Nat} {l : List Nat}
theorem zx_m183 (hn : 300 ≤ n) {s : zh_S} {x : Nat ⊕ Nat} {i : Int32} {wh : Nat} (w : zq_w s) (d : zq_dM s l) (cu : zq_cu s 44 9 10 x) (hi : zq_en_ l x i wh) : ∃ t, zb_M_readList_183 n s 44 i = some t ∧ zq_cu t 44 9 10 (zq_sgn l wh x).1 ∧ (zq_gd_ (zq_sgn l wh x).1 → zq_gd_ x ∧ zh_J t 52 7 = lN (zq_sgn l wh x).2) ∧ (∀ k, k ≠ 7 → zh_J t 52 k = zh_J s 52 k) ∧ zq_F zq_PU s t := by
  have hl := d.2.1
  obtain ⟨y, e2, c2, v2, k2⟩ := zx_num hn w d cu hi
  have g2 := @zq_ri_g l wh x
  have w2 := k2.w w
  have f3 : zq_F zq_PU s (zh_uJ y.2 52 7 y.1) := k2.pu.uJ (Or.inr ⟨rfl, by omega⟩) _
  have w3 := f3.w w
  obtain ⟨t4, e4, c4, k4⟩ := zx_done n w3 (c2.kj (c := 52) (k := 7) y.1) (zq_en_of (fun g => hi.use (g2 g))) hl
  have f4 := f3.tr k4.pu
  have w4 := f4.w w
  have d4 := d.kU f4
  obtain ⟨t5, e5, c5, k5⟩ := zx_done n (e := l.length) (i := zh_I t4 44 1) w4 c4 (zq_en_of (fun _ => ⟨d4.1, Nat.le_refl _⟩)) hl
  have aJ := zx_masg k2 7 y.1
  have bJ : ∀ k, zh_J t5 52 k = zh_J (zh_uJ y.2 52 7 y.1) 52 k := fun k => ((k5.2 52 k (by omega)).2).trans (k4.2 52 k (by omega)).2
  rw [zb_M_readList_183]
  refine zv_ck ⟨zw_K44 w, zw_N44 w⟩ (zv_p (zw_R44_11 w) (zv_b (a := y.1) (b := y.2) e2 (zv_ck (zw_A52 w2 (i := 7) (by decide)) (zv_l (zv_ck ⟨zw_K44 w3, zw_N44 w3⟩ (zv_p e4 (zv_ck ⟨zw_K44 w4, zw_N44 w4⟩ (zv_p e5 (zv_r ⟨c5, fun g => ?_, fun k h => ?_, f4.tr k5.pu⟩)))))))))
  · have gg := zq_cl_g (zq_cl_g g)
    exact ⟨g2 gg, by rw [bJ, aJ, if_pos rfl]; exact v2 gg⟩
  · rw [bJ, aJ, if_neg h]
theorem zx_m151 (hn : 300 ≤ n) {s : zh_S} {x : Nat ⊕ Nat} {i1 i2 i3 i4 : Int32} {st wh b e : Nat} (w : zq_w s) (d : zq_dM s l) (cu : zq_cu s 44 9 10 x) (hi : zq_en_ l x i4 e) (h1 : zq_gd_ x → i1 = nI wh ∧ wh ≤ l.length) (h2 : zq_gd_ x → i2 = nI st ∧ st ≤ 200) (h3 : zq_gd_ x → i3 = nI b ∧ b ≤ l.length ∧ e ≤ b ∧ zq_pos x ≤ e) : ∃ t, zb_M_readList_151 n s 44 i1 i2 i3 i4 = some t ∧ zq_cu t 44 9 10 (zq_sgn l wh (zq_clX b (zq_clX e x))).1 ∧ (zq_gd_ (zq_sgn l wh (zq_clX b (zq_clX e x))).1 → zq_gd_ x ∧ zh_J t 52 7 = lN (zq_sgn l wh (zq_clX b (zq_clX e x))).2 ∧ zh_J t 52 8 = (zq_h l st (zq_pos (zq_clX b (zq_clX e x)))).toInt64) ∧ (∀ k, k < 7 → zh_J t 52 k = zh_J s 52 k) ∧ zq_F zq_PU s t := by
  have hl := d.2.1
  obtain ⟨u0, eu0, cu0, ku0⟩ := zx_done n w cu hi hl
  have ge := @zq_cl_g e x
  have wu0 := ku0.w w
  obtain ⟨u, eu, cu7, ku1⟩ := zx_done n (e := b) (i := i3) (l := l) wu0 cu0 (zq_en_of (fun g => ⟨(h3 (ge g)).1, (h3 (ge g)).2.1⟩)) hl
  have ku := ku0.tr ku1
  have wu := ku.w w
  have du := d.kS ku
  have g7 := @zq_cl_g b (zq_clX e x)
  have hp : zq_gd_ (zq_clX b (zq_clX e x)) → zq_pos (zq_clX b (zq_clX e x)) = b := fun g => by
    have c1 := zq_cl_b g
    have c2 := zq_cl_b (g7 g)
    rw [c1.1]
    have q1 := c1.2
    rw [c2.1] at q1 ⊢
    have := (h3 (ge (g7 g))).2.2
    omega
  have uJ : ∀ k, zh_J u 52 k = zh_J s 52 k := fun k => (ku.2 52 k (by omega)).2
  rw [zb_M_readList_151]
  refine zv_ck ⟨zw_K44 w, zw_N44 w⟩ (zv_p eu0 (zv_ck ⟨zw_K44 wu0, zw_N44 wu0⟩ (zv_p eu (zv_ck ⟨zw_K44 wu, zw_N44 wu⟩ ?_))))
  cases hC : zq_clX b (zq_clX e x) with
  | inl f =>
    rw [hC] at cu7
    obtain ⟨t, et, ct, ht, hJ, kt⟩ := zx_m183 (l := l) (wh := wh) (i := i1) hn wu du cu7 (zq_en_of (fun ⟨p, q⟩ => by cases q))
    refine zv_f (zq_cu_ne cu7) ⟨t, et, ct, fun g => ?_, fun k hk => ?_, ku.pu.tr kt⟩
    · obtain ⟨p, q⟩ := (ht g).1
      cases q
    · rw [hJ k (by omega), uJ]
  | inr p =>
    have g : zq_gd_ (zq_clX b (zq_clX e x)) := ⟨p, hC⟩
    have gx := ge (g7 g)
    have hpp := hp g
    have h0 : zh_I u 44 10 = nI 0 := by rw [hC] at cu7; exact cu7.1
    obtain ⟨rfl, hst⟩ := h2 gx
    obtain ⟨rfl, hb, -⟩ := h3 gx
    have f1 : zq_F zq_PU s (zh_uJ u 52 8 (zq_h l st b).toInt64) := ku.pu.uJ (Or.inr ⟨rfl, by omega⟩) _
    have w1 := f1.w w
    have d1 := d.kU f1
    rw [hC] at hpp
    have hpb : p = b := hpp
    obtain ⟨t, et, ct, ht, hJ, kt⟩ := zx_m183 (l := l) (wh := wh) (i := i1) hn w1 d1 (cu7.kj (c := 52) (k := 8) (zq_h l st b).toInt64) (zq_en_of (fun _ => h1 gx))
    have aJ := zx_masg ku 8 (zq_h l st b).toInt64
    refine zv_t h0 (zv_p (zw_R44_11 wu) (zv_p (zp_mhash hn wu du hb hst) (zv_ck (zw_A52 wu (i := 8) (by decide)) (zv_l ⟨t, et, by rw [hC] at ct; exact ct, fun gt => ?_, fun k hk => ?_, f1.tr kt⟩))))
    · rw [hC] at ht
      obtain ⟨-, q1⟩ := ht gt
      refine ⟨gx, q1, ?_⟩
      rw [hJ 8 (by decide), aJ, if_pos rfl]
      show _ = (zq_h l st p).toInt64
      rw [hpb]
    · rw [hJ k (by omega), aJ, if_neg (by omega)]
theorem zx_mll (hn : 300 ≤ n) {i1 i2 i3 i4 : Int32} {e wh st b : Nat} : ∀ (k f : Nat) (s : zh_S) (E : zq_Le) (x : Nat ⊕ Nat), zq_w s → zq_dM s l → zq_cu s 44 9 10 x → zq_en_ l x i4 e → (zq_gd_ x → zq_LM s E) → zh_I s 44 12 = nI E.1 → E.1 + k = 4 → k < f → (zq_gd_ x → i1 = nI wh ∧ wh ≤ l.length) → (zq_gd_ x → i2 = nI st ∧ st ≤ 200) → (zq_gd_ x → i3 = nI b ∧ b ≤ l.length ∧ e ≤ b ∧ zq_pos x ≤ e) →
    ∃ t, zl_M_readList_73 n f s 44 i1 i2 i3 i4 = some t ∧ zq_cu t 44 9 10 (zq_sgn l wh (zq_clX b (zq_clX e (zq_ll l e k E x).1))).1 ∧ (zq_gd_ (zq_sgn l wh (zq_clX b (zq_clX e (zq_ll l e k E x).1))).1 → zq_gd_ x ∧ zh_J t 52 7 = lN (zq_sgn l wh (zq_clX b (zq_clX e (zq_ll l e k E x).1))).2 ∧ zh_J t 52 8 = (zq_h l st (zq_pos (zq_clX b (zq_clX e (zq_ll l e k E x).1)))).toInt64 ∧ zh_I t 44 12 = nI (zq_ll l e k E x).2.1 ∧ zq_LM t (zq_ll l e k E x).2) ∧ (∀ j, j < 7 → zh_J t 52 j = zh_J s 52 j) ∧ zq_F zq_PW s t := by
  have stop : ∀ (s : zh_S) (E : zq_Le) (x : Nat ⊕ Nat), zq_w s → zq_dM s l → zq_cu s 44 9 10 x → zq_en_ l x i4 e → (zq_gd_ x → zq_LM s E) → zh_I s 44 12 = nI E.1 → (zq_gd_ x → i1 = nI wh ∧ wh ≤ l.length) → (zq_gd_ x → i2 = nI st ∧ st ≤ 200) → (zq_gd_ x → i3 = nI b ∧ b ≤ l.length ∧ e ≤ b ∧ zq_pos x ≤ e) → ∃ t, zb_M_readList_151 n s 44 i1 i2 i3 i4 = some t ∧ zq_cu t 44 9 10 (zq_sgn l wh (zq_clX b (zq_clX e x))).1 ∧ (zq_gd_ (zq_sgn l wh (zq_clX b (zq_clX e x))).1 → zq_gd_ x ∧ zh_J t 52 7 = lN (zq_sgn l wh (zq_clX b (zq_clX e x))).2 ∧ zh_J t 52 8 = (zq_h l st (zq_pos (zq_clX b (zq_clX e x)))).toInt64 ∧ zh_I t 44 12 = nI E.1 ∧ zq_LM t E) ∧ (∀ j, j < 7 → zh_J t 52 j = zh_J s 52 j) ∧ zq_F zq_PW s t := by
    intro s E x w d cu hi hE h12 h1 h2 h3
    obtain ⟨t, et, ct, ht, hJ, kt⟩ := zx_m151 (st := st) hn w d cu hi h1 h2 h3
    refine ⟨t, et, ct, fun g => ?_, hJ, kt.puw⟩
    obtain ⟨q1, q2, q3⟩ := ht g
    refine ⟨q1, q2, q3, ?_, fun t' ht' => ?_⟩
    · rw [(kt.2 44 12 (by omega)).1]; exact h12
    · rw [(kt.2 53 t' (by omega)).2, (kt.2 54 t' (by omega)).2]; exact hE q1 t' ht'
  intro k
  induction k with
  | zero =>
    intro f s E x w d cu hi hE h12 hk hf h1 h2 h3
    obtain ⟨f, rfl⟩ : ∃ q, f = q + 1 := ⟨f - 1, by omega⟩
    rw [zl_M_readList_73, h12]
    exact zv_ck ⟨zw_K44 w, zw_N44 w⟩ (zv_t (nI_le (a := 4) (by omega) (by omega)) (stop s E x w d cu hi hE h12 h1 h2 h3))
  | succ k ih =>
    intro f s E x w d cu hi hE h12 hk hf h1 h2 h3
    obtain ⟨f, rfl⟩ : ∃ q, f = q + 1 := ⟨f - 1, by omega⟩
    have hl := d.2.1
    rw [zl_M_readList_73, h12]
    refine zv_ck ⟨zw_K44 w, zw_N44 w⟩ (zv_f (nI_ge (b := 4) (by omega) (by omega)) (zv_p (zx_next n (tag := 48) w d cu hi (by decide)) ?_))
    cases hN : zq_nxX l 48 e x with
    | false =>
      have e0 : zq_ll l e (k + 1) E x = (x, E) := by rw [zq_ll, hN]; rfl
      rw [e0]
      exact zv_t rfl (stop s E x w d cu hi hE h12 h1 h2 h3)
    | true =>
      have e0 : zq_ll l e (k + 1) E x = zq_ll l e k (E.1 + 1, zq_up E.2.1 E.1 (zq_le l e x).2.1, zq_up E.2.2 E.1 (zq_le l e x).2.2) (zq_le l e x).1 := by rw [zq_ll, hN]; rfl
      rw [e0]
      obtain ⟨y0, e1, c0, v0, k0⟩ := zx_head n (tag := 48) w d cu hi (by decide)
      have g0 := @zq_op_g l 48 e x
      have hst : zq_en_ l (zq_cur (zq_opX l 48 e x)) y0.1 (zq_val (zq_opX l 48 e x)) := zq_en_of (fun g => ⟨v0 g, by have := (g0 g).2.1; have := (hi.use (g0 g).1).2; omega⟩)
      have f0 := k0.pw
      have w0 := f0.w w
      obtain ⟨y1, e2, c1, v1, k1⟩ := zx_num hn w0 (d.kW f0) c0 hst
      have g1 := @zq_ri_g l (zq_val (zq_opX l 48 e x)) (zq_cur (zq_opX l 48 e x))
      have f1 := f0.tr k1.pw
      have w1 := f1.w w
      have f2 : zq_F zq_PW s (zh_uJ y1.2 53 E.1 y1.1) := f1.uJ (by omega) _
      have w2 := f2.w w
      obtain ⟨y3, e3, c3, v3, k3⟩ := zx_num hn w2 (d.kW f2) (c1.kj (c := 53) (k := E.1) y1.1) (zq_en_of (fun g => hst.use (g1 g)))
      have g3 := @zq_ri_g l (zq_val (zq_opX l 48 e x)) (zq_cur (zq_riX l (zq_val (zq_opX l 48 e x)) (zq_cur (zq_opX l 48 e x))))
      have f3 := f2.tr k3.pw
      have w3 := f3.w w
      have f4 : zq_F zq_PW s (zh_uJ y3.2 54 E.1 y3.1) := f3.uJ (by omega) _
      have w4 := f4.w w
      obtain ⟨t5, e5, c5, k5⟩ := zx_done n w4 (c3.kj (c := 54) (k := E.1) y3.1) (zq_en_of (fun g => hst.use (g1 (g3 g)))) hl
      have f5 := f4.tr k5.pw
      have w5 := f5.w w
      have i0 : zh_I y0.2 44 12 = nI E.1 := by rw [(k0.2 44 12 (by omega)).1]; exact h12
      have i1' : zh_I (zh_uJ y1.2 53 E.1 y1.1) 44 12 = nI E.1 := by
        show zh_I y1.2 44 12 = _
        rw [(k1.2 44 12 (by omega)).1]; exact i0
      have i5 : zh_I t5 44 12 = nI E.1 := by
        rw [(k5.2 44 12 (by omega)).1]
        show zh_I y3.2 44 12 = _
        rw [(k3.2 44 12 (by omega)).1]; exact i1'
      have f6 : zq_F zq_PW s (zh_uI t5 44 12 (nI (E.1 + 1))) := f5.uI (by omega) _
      have gl : zq_gd_ (zq_le l e x).1 → zq_gd_ (zq_cur (zq_riX l (zq_val (zq_opX l 48 e x)) (zq_cur (zq_riX l (zq_val (zq_opX l 48 e x)) (zq_cur (zq_opX l 48 e x)))))) := fun g => zq_cl_g g
      have gx : zq_gd_ (zq_le l e x).1 → zq_gd_ x := fun g => (zq_le_g g).1
      have sJ : ∀ a j, 52 ≤ a → zh_J (zh_uI t5 44 12 (nI (E.1 + 1))) a j = if a = 54 ∧ j = E.1 then y3.1 else if a = 53 ∧ j = E.1 then y1.1 else zh_J s a j := fun a j ha => by
        show zh_J t5 a j = _
        rw [(k5.2 a j (by omega)).2, zs_JJ]
        by_cases q1 : a = 54 ∧ j = E.1
        · rw [if_pos q1, if_pos q1]
        · rw [if_neg q1, if_neg q1, (k3.2 a j (by omega)).2, zs_JJ]
          by_cases q2 : a = 53 ∧ j = E.1
          · rw [if_pos q2, if_pos q2]
          · rw [if_neg q2, if_neg q2, (k1.2 a j (by omega)).2, (k0.2 a j (by omega)).2]
      have LM6 : zq_gd_ (zq_le l e x).1 → zq_LM (zh_uI t5 44 12 (nI (E.1 + 1))) (E.1 + 1, zq_up E.2.1 E.1 (zq_le l e x).2.1, zq_up E.2.2 E.1 (zq_le l e x).2.2) := fun g t' ht' => by
        have ht' : t' < E.1 + 1 := ht'
        refine ⟨?_, ?_⟩
        · show _ = lN (zq_up E.2.1 E.1 (zq_le l e x).2.1 t')
          rw [sJ 53 t' (by omega), if_neg (by omega)]
          unfold zq_up
          by_cases q : t' = E.1
          · rw [if_pos (show (53 : Nat) = 53 ∧ t' = E.1 from ⟨rfl, q⟩), if_pos q]; exact v1 (g3 (gl g))
          · rw [if_neg (show ¬ ((53 : Nat) = 53 ∧ t' = E.1) from fun h => q h.2), if_neg q]; exact (hE (gx g) t' (by omega)).1
        · show _ = lN (zq_up E.2.2 E.1 (zq_le l e x).2.2 t')
          rw [sJ 54 t' (by omega)]
          unfold zq_up
          by_cases q : t' = E.1
          · rw [if_pos (show (54 : Nat) = 54 ∧ t' = E.1 from ⟨rfl, q⟩), if_pos q]; exact v3 (gl g)
          · rw [if_neg (show ¬ ((54 : Nat) = 54 ∧ t' = E.1) from fun h => q h.2), if_neg (show ¬ ((54 : Nat) = 53 ∧ t' = E.1) from fun h => q h.2), if_neg q]; exact (hE (gx g) t' (by omega)).2
      obtain ⟨t, et, ct, ht, hJ, kt⟩ := ih f (zh_uI t5 44 12 (nI (E.1 + 1))) (E.1 + 1, zq_up E.2.1 E.1 (zq_le l e x).2.1, zq_up E.2.2 E.1 (zq_le l e x).2.2) (zq_le l e x).1 (f6.w w) (d.kW f6) (c5.k12 _) (zq_en_of (fun g => hi.use (gx g))) LM6 (by rw [zs_II, if_pos ⟨rfl, rfl⟩]) (by show E.1 + 1 + k = 4; omega) (by omega) (fun g => h1 (gx g)) (fun g => h2 (gx g)) (fun g => ⟨(h3 (gx g)).1, (h3 (gx g)).2.1, (h3 (gx g)).2.2.1, (zq_le_g g).2⟩)
      refine zv_f (by decide) (zv_b (a := y0.1) (b := y0.2) e1 (zv_ck ⟨zw_K44 w0, zw_N44 w0⟩ ?_))
      simp only [i0, nI_clamp (show E.1 < 2 ^ 31 by omega)]
      refine zv_p (zw_R44_13 w0) (zv_b (a := y1.1) (b := y1.2) e2 (zv_ck (zw_A53 w1 (by omega)) (zv_l (zv_ck ⟨zw_K44 w2, zw_N44 w2⟩ ?_))))
      simp only [i1', nI_clamp (show E.1 < 2 ^ 31 by omega)]
      refine zv_p (zw_R44_14 w2) (zv_b (a := y3.1) (b := y3.2) e3 (zv_ck (zw_A54 w3 (by omega)) (zv_l (zv_ck ⟨zw_K44 w4, zw_N44 w4⟩ (zv_p e5 (zv_ck ⟨zw_K44 w5, zw_N44 w5⟩ ?_))))))
      simp only [i5, nI_1]
      refine zv_l ⟨t, et, ct, fun g => ?_, fun j hj => ?_, f6.tr kt⟩
      · obtain ⟨q1, q2⟩ := ht g
        exact ⟨gx q1, q2⟩
      · rw [hJ j hj, sJ 52 j (by omega), if_neg (by omega), if_neg (by omega)]
end LM
