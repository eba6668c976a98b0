/-! Extensions: the reference. -/
abbrev zq_PT (a k : Nat) : Prop := zq_PS a k ∨ a = 52 ∧ 9 ≤ k ∧ k < 15
abbrev zq_PU (a k : Nat) : Prop := zq_PS a k ∨ a = 52 ∧ k < 15
def zq_fv (b a st : Bool) : Nat := (if b then 2 else 0) + (if a then 4 else 0) + (if st then 8 else 0)
def zq_XM (s : zh_S) (E : zq_Ex) : Prop := zh_J s 52 9 = E.1 ∧ zh_J s 52 10 = E.2.1 ∧ zh_J s 52 11 = E.2.2.1 ∧ zh_J s 52 12 = E.2.2.2.1 ∧ zh_J s 52 13 = lN E.2.2.2.2.1 ∧ zh_J s 52 14 = lN (zq_fv E.2.2.2.2.2.1 E.2.2.2.2.2.2.1 E.2.2.2.2.2.2.2)
theorem zq_F.pt {s t : zh_S} (f : zq_F zq_PS s t) : zq_F zq_PT s t := f.mo (fun _ _ h => Or.inl h)
theorem zq_F.pu {s t : zh_S} (f : zq_F zq_PS s t) : zq_F zq_PU s t := f.mo (fun _ _ h => Or.inl h)
theorem zq_F.ptu {s t : zh_S} (f : zq_F zq_PT s t) : zq_F zq_PU s t := f.mo (fun _ _ h => by rcases h with h | h; exact Or.inl h; exact Or.inr ⟨h.1, h.2.2⟩)
theorem zq_L.kU {s t : zh_S} {l : List Nat} (d : zq_dM s l) (f : zq_F zq_PU s t) : zq_dM t l := d.keep f (by omega) (fun j => by omega)
theorem zq_L.kT {s t : zh_S} {l : List Nat} (d : zq_dM s l) (f : zq_F zq_PT s t) : zq_dM t l := d.keep f (by omega) (fun j => by omega)
theorem zq_XM.kS {s t : zh_S} {E : zq_Ex} (h : zq_XM s E) (f : zq_F zq_PS s t) : zq_XM t E := by
  have g : ∀ k, zh_J t 52 k = zh_J s 52 k := fun k => (f.2 52 k (by omega)).2
  unfold zq_XM
  rw [g 9, g 10, g 11, g 12, g 13, g 14]
  exact h
theorem zq_fv_2 (b a st : Bool) : lN (zq_fv b a st) ||| (2 : Int64) = lN (zq_fv true a st) := by cases b <;> cases a <;> cases st <;> decide +kernel
theorem zq_fv_4 (b a st : Bool) : lN (zq_fv b a st) ||| (4 : Int64) = lN (zq_fv b true st) := by cases b <;> cases a <;> cases st <;> decide +kernel
theorem zq_fv_8 (b a st : Bool) : lN (zq_fv b a st) ||| (8 : Int64) = lN (zq_fv b a true) := by cases b <;> cases a <;> cases st <;> decide +kernel
theorem zq_rf_1 {l : List Nat} {e : Nat} {x : Nat ⊕ Nat} (h : zq_nxX l 1 e x = true) (g : zq_gd_ (zq_cur (zq_rfX l e x))) : zq_val (zq_rfX l e x) = 1 := by
  cases x with
  | inl f => cases h
  | inr p =>
    have h : zq_nx l 1 e p = true := h
    have e1 : zq_rfX l e (.inr p) = (match zq_op l 1 e p with
      | .inl f => .inl f
      | .inr (a, q) => if a - q = 1 ∧ l.getD q 0 = 255 then .inr (1, a) else .inl (4 + 16 * p)) := by show zq_rf l e p = _; unfold zq_rf; rw [if_pos h]; cases zq_op l 1 e p <;> rfl
    rw [e1] at g ⊢
    cases ho : zq_op l 1 e p with
    | inl f => rw [ho] at g; obtain ⟨q, g⟩ := g; cases g
    | inr aq =>
      rw [ho] at g
      obtain ⟨a, q⟩ := aq
      simp only [] at g ⊢
      by_cases hh : a - q = 1 ∧ l.getD q 0 = 255
      · rw [if_pos hh]; rfl
      · rw [if_neg hh] at g; obtain ⟨q, g⟩ := g; cases g
theorem zq_rf_0 {l : List Nat} {e : Nat} {x : Nat ⊕ Nat} (h : zq_nxX l 1 e x = false) : zq_cur (zq_rfX l e x) = x ∧ zq_val (zq_rfX l e x) = 0 := by
  cases x with
  | inl f => exact ⟨rfl, rfl⟩
  | inr p =>
    have h : zq_nx l 1 e p = false := h
    have e1 : zq_rfX l e (.inr p) = .inr (0, p) := by show zq_rf l e p = _; unfold zq_rf; rw [if_neg (by rw [h]; decide)]
    rw [e1]
    exact ⟨rfl, rfl⟩
section MX
variable {n : Nat} {s : zh_S} {l : List Nat} {e : Nat} {x : Nat ⊕ Nat} {i : Int32} {E : zq_Ex}
theorem zx_mbasic0 (hn : 300 ≤ n) (w : zq_w s) (d : zq_dM s l) (cu : zq_cu s 44 9 10 x) (hi : zq_en_ l x i e) (hE : zq_gd_ x → zq_XM s E) (hA : zq_gd_ x → E.2.2.2.2.2.2.1 = false) (O G V : Nat ⊕ (Nat × Nat)) (nx : Bool) (hO : O = zq_opX l 48 e x) (hG : G = zq_rfX l (zq_val O) (zq_cur O)) (hV : V = zq_riX l (zq_val O) (zq_cur G)) (hnx : nx = (decide (zq_val G = 1) && zq_nxX l 2 (zq_val O) (zq_cur G))) : ∃ t, zf_M_basic n s 44 i = some t ∧ zq_cu t 44 9 10 (zq_clX (zq_val O) (if nx then zq_cur V else zq_cur G)) ∧ (zq_gd_ (zq_clX (zq_val O) (if nx then zq_cur V else zq_cur G)) → zq_gd_ x ∧ zq_XM t (if nx then lN (zq_val V) else E.1, E.2.1, E.2.2.1, E.2.2.2.1, E.2.2.2.2.1, true, decide (zq_val G = 1), E.2.2.2.2.2.2.2)) ∧ zq_F zq_PT s t := by
  have hl := d.2.1
  obtain ⟨y0, e0, c0, v0, k0⟩ := zx_head n (tag := 48) w d cu hi (by decide)
  have g0 := @zq_op_g l 48 e x
  rw [← hO] at c0 v0 g0
  have w0 := k0.w w
  have d0 := d.kS k0
  have hst : zq_en_ l (zq_cur O) y0.1 (zq_val O) := zq_en_of (fun g => ⟨v0 g, by have := (g0 g).2.1; have := (hi.use (g0 g).1).2; omega⟩)
  rw [zf_M_basic]
  refine zv_ck ⟨zw_K44 w, zw_N44 w⟩ (zv_b (a := y0.1) (b := y0.2) e0 (zv_ck ⟨zw_K44 w0, zw_N44 w0⟩ ?_))
  cases hC : zq_cur O with
  | inl f =>
    rw [hC] at c0 hG
    have eG : G = .inl f := hG
    have en : nx = false := by rw [hnx, eG]; rfl
    subst en
    rw [eG]
    exact zv_f (zq_cu_ne c0) (zv_r ⟨c0, (fun ⟨p, q⟩ => by cases q), k0.pt⟩)
  | inr p0 =>
    have gO : zq_gd_ (zq_cur O) := ⟨p0, hC⟩
    have gx := (g0 gO).1
    obtain ⟨x1, x2, x3, x4, x5, x6⟩ := (hE gx).kS k0
    have h0 : zh_I y0.2 44 10 = nI 0 := by rw [hC] at c0; exact c0.1
    refine zv_t h0 (zv_p (zw_R44_11 w0) (zv_p (zw_R44_11 w0) (zv_ck (zw_A52 w0 (i := 14) (by decide)) (zv_ck (zw_A52 w0 (i := 14) (by decide)) ?_))))
    rw [show zh_J y0.2 52 ((14 : Int32).toNatClampNeg) ||| (2 : Int64) = lN (zq_fv true E.2.2.2.2.2.2.1 E.2.2.2.2.2.2.2) by rw [show zh_J y0.2 52 ((14 : Int32).toNatClampNeg) = zh_J y0.2 52 14 from rfl, x6, zq_fv_2]]
    have f1 : zq_F zq_PT s (zh_uJ y0.2 52 14 (lN (zq_fv true E.2.2.2.2.2.2.1 E.2.2.2.2.2.2.2))) := k0.pt.uJ (Or.inr ⟨rfl, by omega⟩) _
    have w1 := f1.w w
    have d1 := d.kT f1
    have c1 := c0.kj (c := 52) (k := 14) (lN (zq_fv true E.2.2.2.2.2.2.1 E.2.2.2.2.2.2.2))
    refine zv_l (zv_ck ⟨zw_K44 w1, zw_N44 w1⟩ (zv_p (zx_next n (tag := 1) w1 d1 c1 hst (by decide)) ?_))
    have fin : ∀ (t : zh_S) (X : Nat ⊕ Nat) (E' : zq_Ex), zq_F zq_PT s t → zq_cu t 44 9 10 X → (zq_gd_ X → zq_XM t E') → ∃ u, zb_M_basic_87 n t 44 y0.1 = some u ∧ zq_cu u 44 9 10 (zq_clX (zq_val O) X) ∧ (zq_gd_ (zq_clX (zq_val O) X) → zq_gd_ x ∧ zq_XM u E') ∧ zq_F zq_PT s u := by
      intro t X E' ft ct hX
      have wt := ft.w w
      obtain ⟨u, eu, cu', ku⟩ := zx_done n wt ct (zq_en_of (fun _ => hst.use gO)) hl
      rw [zb_M_basic_87]
      exact zv_ck ⟨zw_K44 wt, zw_N44 wt⟩ (zv_p eu (zv_r ⟨cu', fun g => ⟨gx, (hX (zq_cl_g g)).kS ku⟩, ft.tr ku.pt⟩))
    have X1 : zq_XM (zh_uJ y0.2 52 14 (lN (zq_fv true E.2.2.2.2.2.2.1 E.2.2.2.2.2.2.2))) (E.1, E.2.1, E.2.2.1, E.2.2.2.1, E.2.2.2.2.1, true, E.2.2.2.2.2.2.1, E.2.2.2.2.2.2.2) := by
      refine ⟨?_, ?_, ?_, ?_, ?_, ?_⟩
      · rw [zs_JJ, if_neg (by omega)]; exact x1
      · rw [zs_JJ, if_neg (by omega)]; exact x2
      · rw [zs_JJ, if_neg (by omega)]; exact x3
      · rw [zs_JJ, if_neg (by omega)]; exact x4
      · rw [zs_JJ, if_neg (by omega)]; exact x5
      · rw [zs_JJ, if_pos ⟨rfl, rfl⟩]
    cases hN : zq_nxX l 1 (zq_val O) (zq_cur O) with
    | false =>
      obtain ⟨z1, z2⟩ := zq_rf_0 hN
      rw [← hG] at z1 z2
      have en : nx = false := by rw [hnx, z2]; rfl
      subst en
      refine zv_t rfl ?_
      rw [z2]
      refine fin _ _ _ f1 (by show zq_cu _ 44 9 10 (zq_cur G); rw [z1]; exact c1) (fun _ => ?_)
      have X2 := X1
      conv at X2 => arg 2; rw [hA gx]
      exact X2
    | true =>
      obtain ⟨t2, e2, c2, k2⟩ := zx_truth n w1 d1 c1 hst hN
      have v2 := @zq_rf_1 l (zq_val O) (zq_cur O) hN
      rw [← hG] at c2 v2
      have f2 := f1.tr k2.pt
      have w2 := f2.w w
      obtain ⟨q1, q2, q3, q4, q5, q6⟩ := X1.kS k2
      refine zv_f (by decide) (zv_p e2 (zv_ck ⟨zw_K44 w2, zw_N44 w2⟩ (zv_p (zw_R44_11 w2) (zv_p (zw_R44_11 w2) (zv_ck (zw_A52 w2 (i := 14) (by decide)) (zv_ck (zw_A52 w2 (i := 14) (by decide)) ?_))))))
      rw [show zh_J t2 52 ((14 : Int32).toNatClampNeg) ||| (4 : Int64) = lN (zq_fv true true E.2.2.2.2.2.2.2) by rw [show zh_J t2 52 ((14 : Int32).toNatClampNeg) = zh_J t2 52 14 from rfl, q6, zq_fv_4]]
      have f3 : zq_F zq_PT s (zh_uJ t2 52 14 (lN (zq_fv true true E.2.2.2.2.2.2.2))) := f2.uJ (Or.inr ⟨rfl, by omega⟩) _
      have w3 := f3.w w
      have d3 := d.kT f3
      have c3 := c2.kj (c := 52) (k := 14) (lN (zq_fv true true E.2.2.2.2.2.2.2))
      have X3 : zq_XM (zh_uJ t2 52 14 (lN (zq_fv true true E.2.2.2.2.2.2.2))) (E.1, E.2.1, E.2.2.1, E.2.2.2.1, E.2.2.2.2.1, true, true, E.2.2.2.2.2.2.2) := by
        refine ⟨?_, ?_, ?_, ?_, ?_, ?_⟩
        · rw [zs_JJ, if_neg (by omega)]; exact q1
        · rw [zs_JJ, if_neg (by omega)]; exact q2
        · rw [zs_JJ, if_neg (by omega)]; exact q3
        · rw [zs_JJ, if_neg (by omega)]; exact q4
        · rw [zs_JJ, if_neg (by omega)]; exact q5
        · rw [zs_JJ, if_pos ⟨rfl, rfl⟩]
      have hst3 : zq_en_ l (zq_cur G) y0.1 (zq_val O) := zq_en_of (fun _ => hst.use gO)
      refine zv_l (zv_ck ⟨zw_K44 w3, zw_N44 w3⟩ (zv_p (zx_next n (tag := 2) w3 d3 c3 hst3 (by decide)) ?_))
      cases hM : zq_nxX l 2 (zq_val O) (zq_cur G) with
      | false =>
        have en : nx = false := by rw [hnx, hM, Bool.and_false]
        subst en
        refine zv_t rfl (fin _ (zq_cur G) _ f3 c3 (fun g => ?_))
        rw [decide_eq_true (v2 g)]
        exact X3
      | true =>
        have gG := zq_nx_gd hM
        have v1 := v2 gG
        have en : nx = true := by rw [hnx, hM, decide_eq_true v1]; rfl
        subst en
        obtain ⟨y5, e5, c5, v5, k5⟩ := zx_num hn w3 d3 c3 hst3
        have g5 := @zq_ri_g l (zq_val O) (zq_cur G)
        rw [← hV] at c5 v5 g5
        have f5 := f3.tr k5.pt
        have w5 := f5.w w
        refine zv_f (by decide) (zv_p (zw_R44_11 w3) (zv_b (a := y5.1) (b := y5.2) e5 (zv_ck (zw_A52 w5 (i := 9) (by decide)) (zv_l (fin _ (zq_cur V) _ (f5.uJ (Or.inr ⟨rfl, by decide⟩) _) (c5.kj _) (fun g => ?_))))))
        rw [decide_eq_true v1]
        obtain ⟨u1, u2, u3, u4, u5, u6⟩ := X3.kS k5
        refine ⟨?_, ?_, ?_, ?_, ?_, ?_⟩
        · rw [zs_JJ, if_pos ⟨rfl, rfl⟩]; exact v5 g
        · rw [zs_JJ, if_neg (by decide)]; exact u2
        · rw [zs_JJ, if_neg (by decide)]; exact u3
        · rw [zs_JJ, if_neg (by decide)]; exact u4
        · rw [zs_JJ, if_neg (by decide)]; exact u5
        · rw [zs_JJ, if_neg (by decide)]; exact u6
theorem zx_mbasic (hn : 300 ≤ n) (w : zq_w s) (d : zq_dM s l) (cu : zq_cu s 44 9 10 x) (hi : zq_en_ l x i e) (hE : zq_gd_ x → zq_XM s E) (hA : zq_gd_ x → E.2.2.2.2.2.2.1 = false) : ∃ t, zf_M_basic n s 44 i = some t ∧ zq_cu t 44 9 10 (zq_ba l e x).1 ∧ (zq_gd_ (zq_ba l e x).1 → zq_gd_ x ∧ zq_XM t (zq_baE l e x E)) ∧ zq_F zq_PT s t :=
  zx_mbasic0 hn w d cu hi hE hA _ _ _ _ rfl rfl rfl rfl
theorem zx_mrealm0 (hn : 300 ≤ n) (w : zq_w s) (d : zq_dM s l) (cu : zq_cu s 44 9 10 x) (hi : zq_en_ l x i e) (hE : zq_gd_ x → zq_XM s E) (O A B : Nat ⊕ (Nat × Nat)) (X1 X2 : Nat ⊕ Nat) (n1 n2 : Bool) (hO : O = zq_opX l 48 e x) (hX1 : X1 = if zq_pos (zq_cur O) = zq_val O then zq_fl 4 (zq_pos x) (zq_cur O) else zq_cur O) (hn1 : n1 = zq_nxX l 128 (zq_val O) X1) (hA : A = zq_rnX l 128 (zq_val O) X1) (hX2 : X2 = if n1 then zq_cur A else X1) (hn2 : n2 = zq_nxX l 129 (zq_val O) X2) (hB : B = zq_rnX l 129 (zq_val O) X2) :
    ∃ t, zf_M_realm n s 44 i = some t ∧ zq_cu t 44 9 10 (zq_clX (zq_val O) (if n2 then zq_cur B else X2)) ∧ (zq_gd_ (zq_clX (zq_val O) (if n2 then zq_cur B else X2)) → zq_gd_ x ∧ zq_XM t (E.1, E.2.1, if n1 then lN (zq_val A) else E.2.2.1, if n2 then lN (zq_val B) else E.2.2.2.1, E.2.2.2.2)) ∧ zq_F zq_PT s t := by
  have hl := d.2.1
  obtain ⟨y0, e0, c0, v0, k0⟩ := zx_head n (tag := 48) w d cu hi (by decide)
  have g0 := @zq_op_g l 48 e x
  rw [← hO] at c0 v0 g0
  have w0 := k0.w w
  have hst : zq_en_ l (zq_cur O) y0.1 (zq_val O) := zq_en_of (fun g => ⟨v0 g, by have := (g0 g).2.1; have := (hi.use (g0 g).1).2; omega⟩)
  have gX1 : zq_gd_ X1 → zq_gd_ (zq_cur O) := by
    rw [hX1]
    intro g
    split at g
    · exact absurd g zq_fl_g
    · exact g
  have st3 : ∀ (t : zh_S) (X : Nat ⊕ Nat) (E' : zq_Ex), zq_F zq_PT s t → zq_cu t 44 9 10 X → (zq_gd_ X → zq_gd_ (zq_cur O)) → (zq_gd_ X → zq_XM t E') → ∃ u, zb_M_realm_86 n t 44 y0.1 = some u ∧ zq_cu u 44 9 10 (zq_clX (zq_val O) X) ∧ (zq_gd_ (zq_clX (zq_val O) X) → zq_gd_ x ∧ zq_XM u E') ∧ zq_F zq_PT s u := by
    intro t X E' ft ct gX hX
    have wt := ft.w w
    obtain ⟨u, eu, cu', ku⟩ := zx_done n wt ct (zq_en_of (fun g => hst.use (gX g))) hl
    rw [zb_M_realm_86]
    refine zv_ck ⟨zw_K44 wt, zw_N44 wt⟩ (zv_p eu (zv_r ⟨cu', fun g => ?_, ft.tr ku.pt⟩))
    have gg := zq_cl_g g
    exact ⟨(g0 (gX gg)).1, (hX gg).kS ku⟩
  have st2 : ∀ (t : zh_S) (al : Int64), zq_F zq_PT s t → zq_cu t 44 9 10 X2 → (zq_gd_ X2 → zq_gd_ (zq_cur O)) → (zq_gd_ X2 → zq_XM t (E.1, E.2.1, al, E.2.2.2)) → ∃ u, zb_M_realm_60 n t 44 y0.1 = some u ∧ zq_cu u 44 9 10 (zq_clX (zq_val O) (if n2 then zq_cur B else X2)) ∧ (zq_gd_ (zq_clX (zq_val O) (if n2 then zq_cur B else X2)) → zq_gd_ x ∧ zq_XM u (E.1, E.2.1, al, if n2 then lN (zq_val B) else E.2.2.2.1, E.2.2.2.2)) ∧ zq_F zq_PT s u := by
    intro t al ft ct gX hX
    have wt := ft.w w
    have dt := d.kT ft
    have het : zq_en_ l X2 y0.1 (zq_val O) := zq_en_of (fun g => hst.use (gX g))
    rw [zb_M_realm_60]
    refine zv_ck ⟨zw_K44 wt, zw_N44 wt⟩ (zv_p (zx_next n (tag := 129) wt dt ct het (by decide)) ?_)
    rw [← hn2]
    cases n2 with
    | false => exact zv_t rfl (st3 t X2 (E.1, E.2.1, al, E.2.2.2.1, E.2.2.2.2) ft ct gX hX)
    | true =>
      obtain ⟨y1, e1, c1, v1, k1⟩ := zx_title hn (tag := 129) wt dt ct het (by decide)
      have g1 := @zq_rn_g l 129 (zq_val O) X2
      rw [← hB] at c1 v1 g1
      have f1 := ft.tr k1.pt
      have w1 := f1.w w
      refine zv_f (by decide) (zv_p (zw_R44_11 wt) (zv_b (a := y1.1) (b := y1.2) e1 (zv_ck (zw_A52 w1 (i := 12) (by decide)) (zv_l (st3 _ (zq_cur B) _ (f1.uJ (Or.inr ⟨rfl, by decide⟩) _) (c1.kj _) (fun g => gX (g1 g).1) (fun g => ?_))))))
      obtain ⟨u1, u2, u3, u4, u5, u6⟩ := (hX (g1 g).1).kS k1
      refine ⟨?_, ?_, ?_, ?_, ?_, ?_⟩
      · rw [zs_JJ, if_neg (by decide)]; exact u1
      · rw [zs_JJ, if_neg (by decide)]; exact u2
      · rw [zs_JJ, if_neg (by decide)]; exact u3
      · rw [zs_JJ, if_pos ⟨rfl, rfl⟩]; exact v1 g
      · rw [zs_JJ, if_neg (by decide)]; exact u5
      · rw [zs_JJ, if_neg (by decide)]; exact u6
  have st1 : ∀ (t : zh_S), zq_F zq_PS s t → zq_cu t 44 9 10 X1 → ∃ u, zb_M_realm_34 n t 44 y0.1 = some u ∧ zq_cu u 44 9 10 (zq_clX (zq_val O) (if n2 then zq_cur B else X2)) ∧ (zq_gd_ (zq_clX (zq_val O) (if n2 then zq_cur B else X2)) → zq_gd_ x ∧ zq_XM u (E.1, E.2.1, if n1 then lN (zq_val A) else E.2.2.1, if n2 then lN (zq_val B) else E.2.2.2.1, E.2.2.2.2)) ∧ zq_F zq_PT s u := by
    intro t ft ct
    have wt := ft.w w
    have dt := d.kS ft
    have het : zq_en_ l X1 y0.1 (zq_val O) := zq_en_of (fun g => hst.use (gX1 g))
    rw [zb_M_realm_34]
    refine zv_ck ⟨zw_K44 wt, zw_N44 wt⟩ (zv_p (zx_next n (tag := 128) wt dt ct het (by decide)) ?_)
    rw [← hn1]
    cases n1 with
    | false =>
      have hX2 : X2 = X1 := hX2
      refine zv_t rfl (st2 t E.2.2.1 ft.pt (by rw [hX2]; exact ct) (by rw [hX2]; exact gX1) ?_)
      rw [hX2]
      exact fun g => (hE (g0 (gX1 g)).1).kS ft
    | true =>
      have hX2 : X2 = zq_cur A := hX2
      obtain ⟨y1, e1, c1, v1, k1⟩ := zx_title hn (tag := 128) wt dt ct het (by decide)
      have g1 := @zq_rn_g l 128 (zq_val O) X1
      rw [← hA] at c1 v1 g1
      have f1 := ft.tr k1
      have w1 := f1.w w
      refine zv_f (by decide) (zv_p (zw_R44_11 wt) (zv_b (a := y1.1) (b := y1.2) e1 (zv_ck (zw_A52 w1 (i := 11) (by decide)) (zv_l (st2 _ (lN (zq_val A)) (f1.pt.uJ (Or.inr ⟨rfl, by decide⟩) _) (by rw [hX2]; exact c1.kj _) (by rw [hX2]; exact fun g => gX1 (g1 g).1) ?_)))))
      rw [hX2]
      intro g
      obtain ⟨u1, u2, u3, u4, u5, u6⟩ := (hE (g0 (gX1 (g1 g).1)).1).kS f1
      refine ⟨?_, ?_, ?_, ?_, ?_, ?_⟩
      · rw [zs_JJ, if_neg (by decide)]; exact u1
      · rw [zs_JJ, if_neg (by decide)]; exact u2
      · rw [zs_JJ, if_pos ⟨rfl, rfl⟩]; exact v1 g
      · rw [zs_JJ, if_neg (by decide)]; exact u4
      · rw [zs_JJ, if_neg (by decide)]; exact u5
      · rw [zs_JJ, if_neg (by decide)]; exact u6
  rw [zf_M_realm]
  refine zv_ck ⟨zw_K44 w, zw_N44 w⟩ (zv_l (zv_b (a := y0.1) (b := y0.2) e0 (zv_ck ⟨zw_K44 w0, zw_N44 w0⟩ ?_)))
  cases hC : zq_cur O with
  | inl f =>
    have eX : X1 = zq_cur O := by rw [hX1, hC]; split <;> rfl
    rw [hC] at c0
    exact zv_f (zq_cu_ne c0) (st1 y0.2 k0 (by rw [eX, hC]; exact c0))
  | inr p =>
    have g : zq_gd_ (zq_cur O) := ⟨p, hC⟩
    have q1 := zq_cu_pos c0 g
    have q2 := (g0 g).2.1
    have q3 := (hi.use (g0 g).1).2
    have h0 : zh_I y0.2 44 10 = nI 0 := by rw [hC] at c0; exact c0.1
    refine zv_t h0 ?_
    by_cases h : y0.1 = zh_I y0.2 44 9
    · obtain ⟨u, e2, g3, k2⟩ := zx_fails n (k := 4) (q := zq_pos x) (i := 4) (j := zh_I s 44 9) w0 c0 (by omega) (fun g => ⟨rfl, zq_cu_pos cu (g0 g).1⟩)
      have eX : X1 = zq_fl 4 (zq_pos x) (zq_cur O) := by
        rw [hX1]
        rw [q1.1, v0 g] at h
        rw [if_pos ((nI_eq (by omega) (by omega)).mp h.symm)]
      exact zv_t h (zv_p e2 (st1 u (k0.tr k2) (by rw [eX]; exact g3)))
    · have eX : X1 = zq_cur O := by
        rw [hX1]
        rw [q1.1, v0 g] at h
        rw [if_neg (fun q => h (by rw [q]))]
      exact zv_f h (st1 y0.2 k0 (by rw [eX]; exact c0))
theorem zx_mrealm (hn : 300 ≤ n) (w : zq_w s) (d : zq_dM s l) (cu : zq_cu s 44 9 10 x) (hi : zq_en_ l x i e) (hE : zq_gd_ x → zq_XM s E) : ∃ t, zf_M_realm n s 44 i = some t ∧ zq_cu t 44 9 10 (zq_re l e x).1 ∧ (zq_gd_ (zq_re l e x).1 → zq_gd_ x ∧ zq_XM t (zq_reE l e x E)) ∧ zq_F zq_PT s t :=
  zx_mrealm0 hn w d cu hi hE _ _ _ _ _ _ _ rfl rfl rfl rfl rfl rfl rfl
end MX
