/-! REALM, an opaque one, a whole extension, all extensions: the class. -/
def zq_re (l : List Nat) (e : Nat) (x : Nat ⊕ Nat) : (Nat ⊕ Nat) × Bool × Nat × Bool × Nat :=
  let O := zq_opX l 48 e x
  let X1 := if zq_pos (zq_cur O) = zq_val O then zq_fl 4 (zq_pos x) (zq_cur O) else zq_cur O
  let n1 := zq_nxX l 128 (zq_val O) X1
  let A := zq_rnX l 128 (zq_val O) X1
  let X2 := if n1 then zq_cur A else X1
  let n2 := zq_nxX l 129 (zq_val O) X2
  let B := zq_rnX l 129 (zq_val O) X2
  (zq_clX (zq_val O) (if n2 then zq_cur B else X2), n1, zq_val A, n2, zq_val B)
def zq_reE (l : List Nat) (e : Nat) (x : Nat ⊕ Nat) (E : zq_Ex) : zq_Ex := (E.1, E.2.1, if (zq_re l e x).2.1 then lN (zq_re l e x).2.2.1 else E.2.2.1, if (zq_re l e x).2.2.2.1 then lN (zq_re l e x).2.2.2.2 else E.2.2.2.1, E.2.2.2.2)
theorem zq_nx_gd {l : List Nat} {tag e : Nat} {x : Nat ⊕ Nat} (h : zq_nxX l tag e x = true) : zq_gd_ x := by
  cases x with
  | inl f => cases h
  | inr p => exact ⟨p, rfl⟩
section XW
variable {n : Nat} {s : zh_S} {r c : Nat} {l : List Nat} {e : Nat} {x : Nat ⊕ Nat} {i : Int32} {E : zq_Ex}
theorem zx_realm0 (hn : 300 ≤ n) (w : zq_w s) (d : zq_dV s l) (rd : zq_rd s r) (hc : 10 ≤ c ∧ c < 23) (cu : zq_cu s r 1 2 x) (hi : zq_en_ l x i e) (hE : zq_gd_ x → zq_XV s c E) (O A B : Nat ⊕ (Nat × Nat)) (X1 X2 : Nat ⊕ Nat) (n1 n2 : Bool) (hO : O = zq_opX l 48 e x) (hX1 : X1 = if zq_pos (zq_cur O) = zq_val O then zq_fl 4 (zq_pos x) (zq_cur O) else zq_cur O) (hn1 : n1 = zq_nxX l 128 (zq_val O) X1) (hA : A = zq_rnX l 128 (zq_val O) X1) (hX2 : X2 = if n1 then zq_cur A else X1) (hn2 : n2 = zq_nxX l 129 (zq_val O) X2) (hB : B = zq_rnX l 129 (zq_val O) X2) :
    ∃ t, zf_Reader_readRealm n s r c i = some t ∧ zq_cu t r 1 2 (zq_clX (zq_val O) (if n2 then zq_cur B else X2)) ∧ (zq_gd_ (zq_clX (zq_val O) (if n2 then zq_cur B else X2)) → zq_gd_ x ∧ zq_XV t c (E.1, E.2.1, if n1 then lN (zq_val A) else E.2.2.1, if n2 then lN (zq_val B) else E.2.2.2.1, E.2.2.2.2)) ∧ zq_F (zq_PX r c) s t := by
  have hr := rd.2.2
  have hl := d.2.1
  obtain ⟨y0, e0, c0, v0, k0⟩ := zx_open n (tag := 48) w d rd cu hi (by decide)
  have g0 := @zq_op_g l 48 e x
  rw [← hO] at c0 v0 g0
  have rd0 := k0.1.rd rd
  have hst : zq_en_ l (zq_cur O) y0.1 (zq_val O) := zq_en_of (fun g => ⟨v0 g, by have := (g0 g).2.1; have := (hi.use (g0 g).1).2; omega⟩)
  have gX1 : zq_gd_ X1 → zq_gd_ (zq_cur O) := by
    rw [hX1]
    intro g
    split at g
    · exact absurd g zq_fl_g
    · exact g
  have st3 : ∀ (t : zh_S) (X : Nat ⊕ Nat) (E' : zq_Ex), zq_F (zq_PX r c) s t → zq_cu t r 1 2 X → (zq_gd_ X → zq_gd_ (zq_cur O)) → (zq_gd_ X → zq_XV t c E') → ∃ u, zb_Reader_readRealm_80 n t r y0.1 = some u ∧ zq_cu u r 1 2 (zq_clX (zq_val O) X) ∧ (zq_gd_ (zq_clX (zq_val O) X) → zq_gd_ x ∧ zq_XV u c E') ∧ zq_F (zq_PX r c) s u := by
    intro t X E' ft ct gX hX
    have rdt := ft.1.rd rd
    obtain ⟨u, eu, cu', ku⟩ := zx_close n rdt ct (zq_en_of (fun g => hst.use (gX g))) hl
    rw [zb_Reader_readRealm_80]
    refine zv_ck rdt.1 (zv_p eu (zv_r ⟨cu', fun g => ?_, ft.tr ku.px⟩))
    have gg := zq_cl_g g
    exact ⟨(g0 (gX gg)).1, (hX gg).kR ku hr hc⟩
  have st2 : ∀ (t : zh_S) (al : Int64), zq_F (zq_PX r c) s t → zq_cu t r 1 2 X2 → (zq_gd_ X2 → zq_gd_ (zq_cur O)) → (zq_gd_ X2 → zq_XV t c (E.1, E.2.1, al, E.2.2.2)) → ∃ u, zb_Reader_readRealm_55 n t r c y0.1 = some u ∧ zq_cu u r 1 2 (zq_clX (zq_val O) (if n2 then zq_cur B else X2)) ∧ (zq_gd_ (zq_clX (zq_val O) (if n2 then zq_cur B else X2)) → zq_gd_ x ∧ zq_XV u c (E.1, E.2.1, al, if n2 then lN (zq_val B) else E.2.2.2.1, E.2.2.2.2)) ∧ zq_F (zq_PX r c) s u := by
    intro t al ft ct gX hX
    have rdt := ft.1.rd rd
    have wt := ft.w w
    have dt := d.kX ft hr hc
    have het : zq_en_ l X2 y0.1 (zq_val O) := zq_en_of (fun g => hst.use (gX g))
    rw [zb_Reader_readRealm_55]
    refine zv_ck rdt.1 (zv_p (zx_isNext n (tag := 129) wt dt rdt ct het (by decide)) ?_)
    rw [← hn2]
    cases n2 with
    | false => exact zv_t rfl (st3 t X2 (E.1, E.2.1, al, E.2.2.2.1, E.2.2.2.2) ft ct gX hX)
    | true =>
      have gg := zq_nx_gd hn2.symm
      obtain ⟨y1, e1, c1, v1, k1⟩ := zx_name hn (tag := 129) wt dt rdt ct het (by decide)
      have g1 := @zq_rn_g l 129 (zq_val O) X2
      rw [← hB] at c1 v1 g1
      have f1 := ft.tr k1.px
      refine zv_f (by decide) (zv_b (a := y1.1) (b := y1.2) e1 (zv_ck (zw_C (f1.w w) hc) (zv_l (st3 _ (zq_cur B) _ (f1.uJ (Or.inr ⟨rfl, by omega, by omega⟩) _) (c1.kj _) (fun g => gX (g1 g).1) (fun g => ?_)))))
      obtain ⟨⟨x1, x2, x3, x4⟩, x5, x6, x7, x8⟩ := (hX (g1 g).1).kR k1 hr hc
      refine ⟨⟨?_, ?_, ?_, ?_⟩, x5, x6, x7, x8⟩
      · rw [zs_JJ, if_neg (by omega)]; exact x1
      · rw [zs_JJ, if_neg (by omega)]; exact x2
      · rw [zs_JJ, if_neg (by omega)]; exact x3
      · rw [zs_JJ, if_pos ⟨rfl, rfl⟩]; exact v1 g
  have st1 : ∀ (t : zh_S), zq_F (zq_PR r) s t → zq_cu t r 1 2 X1 → ∃ u, zb_Reader_readRealm_30 n t r c y0.1 = some u ∧ zq_cu u r 1 2 (zq_clX (zq_val O) (if n2 then zq_cur B else X2)) ∧ (zq_gd_ (zq_clX (zq_val O) (if n2 then zq_cur B else X2)) → zq_gd_ x ∧ zq_XV u c (E.1, E.2.1, if n1 then lN (zq_val A) else E.2.2.1, if n2 then lN (zq_val B) else E.2.2.2.1, E.2.2.2.2)) ∧ zq_F (zq_PX r c) s u := by
    intro t ft ct
    have rdt := ft.1.rd rd
    have wt := ft.w w
    have dt := d.kR ft hr
    have het : zq_en_ l X1 y0.1 (zq_val O) := zq_en_of (fun g => hst.use (gX1 g))
    rw [zb_Reader_readRealm_30]
    refine zv_ck rdt.1 (zv_p (zx_isNext n (tag := 128) wt dt rdt ct het (by decide)) ?_)
    rw [← hn1]
    cases n1 with
    | false =>
      have hX2 : X2 = X1 := hX2
      refine zv_t rfl (st2 t E.2.2.1 ft.px (by rw [hX2]; exact ct) (by rw [hX2]; exact gX1) ?_)
      rw [hX2]
      exact fun g => (hE (g0 (gX1 g)).1).kR ft hr hc
    | true =>
      have hX2 : X2 = zq_cur A := hX2
      obtain ⟨y1, e1, c1, v1, k1⟩ := zx_name hn (tag := 128) wt dt rdt ct het (by decide)
      have g1 := @zq_rn_g l 128 (zq_val O) X1
      rw [← hA] at c1 v1 g1
      have f1 := ft.tr k1
      refine zv_f (by decide) (zv_b (a := y1.1) (b := y1.2) e1 (zv_ck (zw_C (f1.w w) hc) (zv_l (st2 _ (lN (zq_val A)) (f1.px.uJ (Or.inr ⟨rfl, by omega, by omega⟩) _) (by rw [hX2]; exact c1.kj _) (by rw [hX2]; exact fun g => gX1 (g1 g).1) ?_))))
      rw [hX2]
      intro g
      obtain ⟨⟨x1, x2, x3, x4⟩, x5, x6, x7, x8⟩ := (hE (g0 (gX1 (g1 g).1)).1).kR f1 hr hc
      refine ⟨⟨?_, ?_, ?_, ?_⟩, x5, x6, x7, x8⟩
      · rw [zs_JJ, if_neg (by omega)]; exact x1
      · rw [zs_JJ, if_neg (by omega)]; exact x2
      · rw [zs_JJ, if_pos ⟨rfl, rfl⟩]; exact v1 g
      · rw [zs_JJ, if_neg (by omega)]; exact x4
  rw [zf_Reader_readRealm]
  refine zv_ck rd.1 (zv_l (zv_b (a := y0.1) (b := y0.2) e0 (zv_ck rd0.1 ?_)))
  by_cases h : zh_I y0.2 r 1 = y0.1
  · obtain ⟨u, e2, g3, k2⟩ := zx_fail n (k := 4) (q := zq_pos x) (i := 4) (j := zh_I s r 1) rd0 c0 (by omega) (fun g => ⟨rfl, zq_cu_pos cu (g0 g).1⟩)
    have eX : X1 = zq_fl 4 (zq_pos x) (zq_cur O) := by
      rw [hX1]
      cases hC : zq_cur O with
      | inl f => split <;> rfl
      | inr p =>
        have g : zq_gd_ (zq_cur O) := ⟨p, hC⟩
        rw [(zq_cu_pos c0 g).1, v0 g, hC] at h
        have q1 := (zq_cu_pos c0 g).2
        have q2 := (g0 g).2.1
        have q3 := (hi.use (g0 g).1).2
        rw [hC] at q1
        rw [if_pos ((nI_eq (by omega) (by omega)).mp h)]
    exact zv_t h (zv_b (a := u.1) (b := u.2) e2 (st1 u.2 (k0.tr k2) (by rw [eX]; exact g3)))
  · have eX : X1 = zq_cur O := by
      rw [hX1]
      cases hC : zq_cur O with
      | inl f => split <;> rfl
      | inr p =>
        have g : zq_gd_ (zq_cur O) := ⟨p, hC⟩
        rw [(zq_cu_pos c0 g).1, v0 g, hC] at h
        rw [if_neg (fun q => h (by rw [q]))]
    exact zv_f h (st1 y0.2 k0 (by rw [eX]; exact c0))
theorem zx_realm (hn : 300 ≤ n) (w : zq_w s) (d : zq_dV s l) (rd : zq_rd s r) (hc : 10 ≤ c ∧ c < 23) (cu : zq_cu s r 1 2 x) (hi : zq_en_ l x i e) (hE : zq_gd_ x → zq_XV s c E) : ∃ t, zf_Reader_readRealm n s r c i = some t ∧ zq_cu t r 1 2 (zq_re l e x).1 ∧ (zq_gd_ (zq_re l e x).1 → zq_gd_ x ∧ zq_XV t c (zq_reE l e x E)) ∧ zq_F (zq_PX r c) s t :=
  zx_realm0 hn w d rd hc cu hi hE _ _ _ _ _ _ _ rfl rfl rfl rfl rfl rfl rfl
/-- an element that is passed over -/
def zq_sk (x : Nat ⊕ (Nat × Nat)) : Nat ⊕ Nat := match x with
  | .inl f => .inl f
  | .inr (a, _) => .inr a
theorem zq_sk_g {x : Nat ⊕ (Nat × Nat)} (h : zq_gd_ (zq_sk x)) : zq_gd_ (zq_cur x) := by
  cases x with
  | inl f => obtain ⟨p, h⟩ := h; cases h
  | inr a => exact ⟨a.2, rfl⟩
theorem zx_opaque (w : zq_w s) (d : zq_dV s l) (rd : zq_rd s r) (cu : zq_cu s r 1 2 x) (hi : zq_en_ l x i e) : ∃ t, zf_Reader_skipOpaque n s r i = some t ∧ zq_cu t r 1 2 (zq_sk (zq_opX l 4 e x)) ∧ zq_F (zq_PR r) s t := by
  have hr := rd.2.2
  have hl := d.2.1
  obtain ⟨y0, e0, c0, v0, k0⟩ := zx_open n (tag := 4) w d rd cu hi (by decide)
  have g0 := @zq_op_g l 4 e x
  have rd0 := k0.1.rd rd
  rw [zf_Reader_skipOpaque]
  refine zv_ck rd.1 (zv_b (a := y0.1) (b := y0.2) e0 (zv_ck rd0.1 ?_))
  cases hO : zq_opX l 4 e x with
  | inl f =>
    rw [hO] at c0
    exact zv_f (zq_cu_ne c0) (zv_r ⟨c0, k0⟩)
  | inr aq =>
    rw [hO] at c0 v0 g0
    have g : zq_gd_ (zq_cur (.inr aq)) := ⟨aq.2, rfl⟩
    have q2 := (g0 g).2.1
    have q3 := (hi.use (g0 g).1).2
    have q4 : aq.1 ≤ e := q2
    refine zv_t c0.1 (zv_l (zv_r ⟨⟨?_, ?_, by omega⟩, k0.uI ⟨rfl, Or.inl rfl⟩ _⟩))
    · rw [zs_II, if_neg (by omega)]; exact c0.1
    · rw [zs_II, if_pos ⟨rfl, rfl⟩]; exact v0 g
end XW
