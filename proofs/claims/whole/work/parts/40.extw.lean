/-! A whole extension, and all of them: the class. -/
/-- what an extension says by its id -/
def zq_eb (l : List Nat) (id to cr : Nat) (x : Nat ⊕ Nat) (E : zq_Ex) : (Nat ⊕ Nat) × zq_Ex :=
  if id = 1 then ((zq_ba l to x).1, zq_baE l to x E) else if id = 2 then ((zq_us l to x).1, zq_usE l to x E) else if id = 3 then ((zq_re l to x).1, zq_reE l to x E)
  else (zq_sk (zq_opX l 4 to x), (E.1, E.2.1, E.2.2.1, E.2.2.2.1, E.2.2.2.2.1, E.2.2.2.2.2.1, E.2.2.2.2.2.2.1, E.2.2.2.2.2.2.2 || decide (cr = 1)))
def zq_inc (E : zq_Ex) : zq_Ex := (E.1, E.2.1, E.2.2.1, E.2.2.2.1, E.2.2.2.2.1 + 1, E.2.2.2.2.2)
/-- bf: the id before, and 1; 0 without one -/
def zq_ext (l : List Nat) (e bf : Nat) (E : zq_Ex) (x : Nat ⊕ Nat) : (Nat ⊕ Nat) × Nat × zq_Ex :=
  let O := zq_opX l 48 e x
  let I := zq_riX l (zq_val O) (zq_cur O)
  let X2 := if bf ≤ zq_val I then zq_cur I else zq_fl 4 (zq_pos (zq_cur O)) (zq_cur I)
  let G := zq_rfX l (zq_val O) X2
  let r := zq_eb l (zq_val I) (zq_val O) (zq_val G) (zq_cur G) E
  (zq_clX (zq_val O) r.1, zq_val I, zq_inc r.2)
def zq_bf (bf : Nat) : Int64 := if bf = 0 then -1 else lN (bf - 1)
theorem zq_bf_lt {bf v : Nat} (hb : bf ≤ 2 ^ 63) (hv : v < 2 ^ 63) : (0 < lg_cmp (lN v) (zq_bf bf)) ↔ bf ≤ v := by
  rw [lg_cmp_gt]
  unfold zq_bf
  by_cases h : bf = 0
  · rw [if_pos h]
    constructor
    · intro _; omega
    · intro _
      rw [Int64.lt_iff_toInt_lt, pk_lT hv, show (-1 : Int64).toInt = -1 from rfl]
      omega
  · rw [if_neg h, pk_lLT (by omega) hv]
    omega
theorem zq_eb_f {l : List Nat} {id to cr f : Nat} {E : zq_Ex} : (zq_eb l id to cr (.inl f) E).1 = .inl f := by
  unfold zq_eb
  by_cases h1 : id = 1
  · rw [if_pos h1]; rfl
  rw [if_neg h1]
  by_cases h2 : id = 2
  · rw [if_pos h2]
    show (if 1 ≤ 0 ∧ 0 ≤ 7 then (.inl f : Nat ⊕ Nat) else .inl f) = .inl f
    split <;> rfl
  rw [if_neg h2]
  by_cases h3 : id = 3
  · rw [if_pos h3]; rfl
  rw [if_neg h3]; rfl
section XY
variable {n : Nat} {s : zh_S} {r c : Nat} {l : List Nat} {e : Nat} {x : Nat ⊕ Nat} {i : Int32} {E : zq_Ex}
theorem zx_ext0 (hn : 300 ≤ n) (w : zq_w s) (d : zq_dV s l) (rd : zq_rd s r) (hc : 10 ≤ c ∧ c < 23) (cu : zq_cu s r 1 2 x) (hi : zq_en_ l x i e) (hE : zq_gd_ x → zq_XV s c E) {bf : Nat} {jb : Int64} (hbf : bf ≤ 2 ^ 63) (hjb : zq_gd_ x → jb = zq_bf bf) (O I G : Nat ⊕ (Nat × Nat)) (X2 : Nat ⊕ Nat) (R : (Nat ⊕ Nat) × zq_Ex) (hO : O = zq_opX l 48 e x) (hI : I = zq_riX l (zq_val O) (zq_cur O)) (hX2 : X2 = if bf ≤ zq_val I then zq_cur I else zq_fl 4 (zq_pos (zq_cur O)) (zq_cur I)) (hG : G = zq_rfX l (zq_val O) X2) (hR : R = zq_eb l (zq_val I) (zq_val O) (zq_val G) (zq_cur G) E) :
    ∃ y, zf_Reader_readExtension n s r c jb i = some y ∧ zq_cu y.2 r 1 2 (zq_clX (zq_val O) R.1) ∧ (zq_gd_ (zq_clX (zq_val O) R.1) → zq_gd_ x ∧ y.1 = lN (zq_val I) ∧ zq_XV y.2 c (zq_inc R.2)) ∧ zq_F (zq_PX r c) s y.2 := by
  have hr := rd.2.2
  have hl := d.2.1
  obtain ⟨y0, e0, c0, v0, k0⟩ := zx_open n (tag := 48) w d rd cu hi (by decide)
  have g0 := @zq_op_g l 48 e x
  rw [← hO] at c0 v0 g0
  have rd0 := k0.1.rd rd
  have w0 := k0.w w
  have d0 := d.kR k0 hr
  have hst : zq_en_ l (zq_cur O) y0.1 (zq_val O) := zq_en_of (fun g => ⟨v0 g, by have := (g0 g).2.1; have := (hi.use (g0 g).1).2; omega⟩)
  obtain ⟨y1, e1, c1, v1, k1⟩ := zx_int hn w0 d0 rd0 c0 hst
  have g1 := @zq_ri_g l (zq_val O) (zq_cur O)
  have l63 := zq_ri_63 d.2.2.1 (zq_val O) (zq_cur O)
  rw [← hI] at c1 v1 g1 l63
  have f1 := k0.tr k1
  have rd1 := f1.1.rd rd
  have gX2 : zq_gd_ X2 → zq_gd_ (zq_cur I) := by
    rw [hX2]
    intro g
    split at g
    · exact g
    · exact absurd g zq_fl_g
  -- behind the value: one more, and the end
  have fin : ∀ (t : zh_S) (X : Nat ⊕ Nat) (E' : zq_Ex), zq_F (zq_PX r c) s t → zq_cu t r 1 2 X → (zq_gd_ X → zq_gd_ X2) → (zq_gd_ X → zq_XV t c E') → ∃ u, zb_Reader_readExtension_129 n t r c y0.1 y1.1 = some u ∧ zq_cu u.2 r 1 2 (zq_clX (zq_val O) X) ∧ (zq_gd_ (zq_clX (zq_val O) X) → zq_gd_ x ∧ u.1 = lN (zq_val I) ∧ zq_XV u.2 c (zq_inc E')) ∧ zq_F (zq_PX r c) s u.2 := by
    intro t X E' ft ct gX hX
    have wt := ft.w w
    have f2 : zq_F (zq_PX r c) s (zh_uI t c 14 (zh_I t c 14 + 1)) := ft.uI (Or.inr ⟨rfl, by omega, by omega⟩) _
    have rd2 := f2.1.rd rd
    obtain ⟨u, eu, cu', ku⟩ := zx_close n rd2 (ct.kc (c := c) (k := 14) (by omega) (zh_I t c 14 + 1)) (zq_en_of (fun g => hst.use (g1 (gX2 (gX g))))) hl
    rw [zb_Reader_readExtension_129]
    refine zv_ck (zw_C wt hc) (zv_l (zv_ck rd2.1 (zv_p eu (zv_r ⟨cu', fun g => ?_, f2.tr ku.px⟩))))
    have gg := zq_cl_g g
    have gi := gX2 (gX gg)
    refine ⟨(g0 (g1 gi)).1, v1 gi, ?_⟩
    have X3 : zq_XV (zh_uI t c 14 (zh_I t c 14 + 1)) c (zq_inc E') := by
      obtain ⟨⟨x1, x2, x3, x4⟩, x5, x6, x7, x8⟩ := hX gg
      refine ⟨⟨x1, x2, x3, x4⟩, ?_, ?_, ?_, ?_⟩
      · rw [zs_II, if_pos ⟨rfl, rfl⟩, x5, nI_1]; rfl
      · rw [zs_II, if_neg (by omega)]; exact x6
      · rw [zs_II, if_neg (by omega)]; exact x7
      · rw [zs_II, if_neg (by omega)]; exact x8
    exact X3.kR ku hr hc
  -- by the id
  have body : ∀ (t : zh_S), zq_F (zq_PR r) s t → zq_cu t r 1 2 X2 → ∃ u, zb_Reader_readExtension_39 n t r c y0.1 y1.1 = some u ∧ zq_cu u.2 r 1 2 (zq_clX (zq_val O) R.1) ∧ (zq_gd_ (zq_clX (zq_val O) R.1) → zq_gd_ x ∧ u.1 = lN (zq_val I) ∧ zq_XV u.2 c (zq_inc R.2)) ∧ zq_F (zq_PX r c) s u.2 := by
    intro t ft ct
    have rdt := ft.1.rd rd
    have wt := ft.w w
    have dt := d.kR ft hr
    have het : zq_en_ l X2 y0.1 (zq_val O) := zq_en_of (fun g => hst.use (g1 (gX2 g)))
    obtain ⟨y3, e3, c3, v3, b3, k3⟩ := zx_flag n wt dt rdt ct het
    have g3 := @zq_rf_g l (zq_val O) X2
    have le3 := zq_rf_le l (zq_val O) X2
    rw [← hG] at c3 v3 g3 le3
    have f3 := ft.tr k3
    have rd3 := f3.1.rd rd
    have w3 := f3.w w
    have d3 := d.kR f3 hr
    have he3 : zq_en_ l (zq_cur G) y0.1 (zq_val O) := zq_en_of (fun g => het.use (g3 g))
    have hE3 : zq_gd_ (zq_cur G) → zq_XV y3.2 c E := fun g => (hE (g0 (g1 (gX2 (g3 g)))).1).kR f3 hr hc
    -- the four kinds, from whatever cursor
    have kA := zx_basic hn w3 d3 rd3 hc c3 he3 hE3
    have kB := zx_usage hn w3 d3 rd3 hc c3 he3 hE3
    have kC := zx_realm hn w3 d3 rd3 hc c3 he3 hE3
    have kD := zx_opaque (n := n) w3 d3 rd3 c3 he3
    have gG : zq_gd_ (zq_cur G) → zq_gd_ X2 := g3
    -- what the code does with an opaque one
    have opq : ∀ (E0 : zq_Ex), (zq_gd_ (zq_cur G) → zq_XV y3.2 c E0) → ∃ u, (zk_p (zf_Reader_skipOpaque n y3.2 r y0.1) fun s_4 => if zh_oo s_4 c 0 then if (zh_I s_4 c 17) = 0 then if y3.1 = 0 then zb_Reader_readExtension_126 n s_4 r c y0.1 y1.1 c (0 : Int32) else zb_Reader_readExtension_121 n s_4 r c y0.1 y1.1 c else zb_Reader_readExtension_121 n s_4 r c y0.1 y1.1 c else none) = some u ∧ zq_cu u.2 r 1 2 (zq_clX (zq_val O) (zq_sk (zq_opX l 4 (zq_val O) (zq_cur G)))) ∧ (zq_gd_ (zq_clX (zq_val O) (zq_sk (zq_opX l 4 (zq_val O) (zq_cur G)))) → zq_gd_ x ∧ u.1 = lN (zq_val I) ∧ zq_XV u.2 c (zq_inc (E0.1, E0.2.1, E0.2.2.1, E0.2.2.2.1, E0.2.2.2.2.1, E0.2.2.2.2.2.1, E0.2.2.2.2.2.2.1, E0.2.2.2.2.2.2.2 || decide (zq_val G = 1)))) ∧ zq_F (zq_PX r c) s u.2 := by
      intro E0 hE0
      obtain ⟨t4, e4, c4, k4⟩ := kD
      have f4 := f3.tr k4
      have w4 := f4.w w
      have gS : zq_gd_ (zq_sk (zq_opX l 4 (zq_val O) (zq_cur G))) → zq_gd_ (zq_cur G) := fun g => (zq_op_g (zq_sk_g g)).1
      have put : ∀ v : Int32, (v = 0 ∨ v = 1) → (zq_gd_ (zq_cur G) → v = zq_bi (E0.2.2.2.2.2.2.2 || decide (zq_val G = 1))) → ∃ u, zb_Reader_readExtension_126 n t4 r c y0.1 y1.1 c v = some u ∧ zq_cu u.2 r 1 2 (zq_clX (zq_val O) (zq_sk (zq_opX l 4 (zq_val O) (zq_cur G)))) ∧ (zq_gd_ (zq_clX (zq_val O) (zq_sk (zq_opX l 4 (zq_val O) (zq_cur G)))) → zq_gd_ x ∧ u.1 = lN (zq_val I) ∧ zq_XV u.2 c (zq_inc (E0.1, E0.2.1, E0.2.2.1, E0.2.2.2.1, E0.2.2.2.2.1, E0.2.2.2.2.2.1, E0.2.2.2.2.2.2.1, E0.2.2.2.2.2.2.2 || decide (zq_val G = 1)))) ∧ zq_F (zq_PX r c) s u.2 := by
        intro v hv hvv
        rw [zb_Reader_readExtension_126]
        refine zv_ck (zw_C w4 hc) (zv_ck hv (zv_l (fin _ _ _ (f4.px.uI (Or.inr ⟨rfl, by omega, by omega⟩) _) (c4.kc (by omega) v) (fun g => g3 (gS g)) (fun g => ?_))))
        obtain ⟨⟨x1, x2, x3, x4⟩, x5, x6, x7, x8⟩ := (hE0 (gS g)).kR k4 hr hc
        refine ⟨⟨x1, x2, x3, x4⟩, ?_, ?_, ?_, ?_⟩
        · rw [zs_II, if_neg (by omega)]; exact x5
        · rw [zs_II, if_neg (by omega)]; exact x6
        · rw [zs_II, if_neg (by omega)]; exact x7
        · rw [zs_II, if_pos ⟨rfl, rfl⟩]; exact hvv (gS g)
      have h17 : zq_gd_ (zq_cur G) → zh_I t4 c 17 = zq_bi E0.2.2.2.2.2.2.2 := fun g => ((hE0 g).kR k4 hr hc).2.2.2.2
      refine zv_p e4 (zv_ck (zw_C w4 hc) ?_)
      by_cases h0 : zh_I t4 c 17 = 0
      · refine zv_t h0 ?_
        have es : zq_gd_ (zq_cur G) → E0.2.2.2.2.2.2.2 = false := fun g => by
          rw [h17 g] at h0
          cases hb : E0.2.2.2.2.2.2.2 with
          | false => rfl
          | true => rw [hb] at h0; exact absurd h0 (by decide)
        by_cases h1 : y3.1 = 0
        · refine zv_t h1 (put 0 (Or.inl rfl) (fun g => ?_))
          have : zq_val G ≠ 1 := fun q => by rw [v3 g, q] at h1; exact absurd h1 (by decide)
          rw [es g, decide_eq_false this]; rfl
        · refine zv_f h1 ?_
          rw [zb_Reader_readExtension_121]
          refine put 1 (Or.inr rfl) (fun g => ?_)
          have : zq_val G = 1 := by
            have h9 : zq_val G ≠ 0 := fun q => h1 (by rw [v3 g, q]; rfl)
            omega
          rw [decide_eq_true this, Bool.or_true]; rfl
      · refine zv_f h0 ?_
        rw [zb_Reader_readExtension_121]
        refine put 1 (Or.inr rfl) (fun g => ?_)
        have : E0.2.2.2.2.2.2.2 = true := by
          rw [h17 g] at h0
          cases hb : E0.2.2.2.2.2.2.2 with
          | true => rfl
          | false => rw [hb] at h0; exact absurd rfl h0
        rw [this, Bool.true_or]; rfl
    rw [zb_Reader_readExtension_39]
    refine zv_ck rdt.1 (zv_b (a := y3.1) (b := y3.2) e3 ?_)
    have post : ∀ (X : Nat ⊕ Nat) (E' : zq_Ex) (u : Int64 × zh_S), X = R.1 → (zq_gd_ X → E' = R.2) → zq_cu u.2 r 1 2 (zq_clX (zq_val O) X) ∧ (zq_gd_ (zq_clX (zq_val O) X) → zq_gd_ x ∧ u.1 = lN (zq_val I) ∧ zq_XV u.2 c (zq_inc E')) ∧ zq_F (zq_PX r c) s u.2 → zq_cu u.2 r 1 2 (zq_clX (zq_val O) R.1) ∧ (zq_gd_ (zq_clX (zq_val O) R.1) → zq_gd_ x ∧ u.1 = lN (zq_val I) ∧ zq_XV u.2 c (zq_inc R.2)) ∧ zq_F (zq_PX r c) s u.2 := by
      intro X E' u hX hE' h
      subst hX
      refine ⟨h.1, fun g => ?_, h.2.2⟩
      have q := h.2.1 g
      rw [hE' (zq_cl_g g)] at q
      exact q
    -- whether the branch is the one of the id, or there is a fault
    have Rf : ∀ f, zq_cur G = .inl f → R.1 = .inl f := fun f hf => by rw [hR, hf]; exact zq_eb_f
    have ngd : ∀ f, zq_cur G = .inl f → ¬ zq_gd_ (zq_cur G) := fun f hf ⟨p, hp⟩ => by rw [hf] at hp; cases hp
    by_cases b1 : lg_cmp y1.1 1 = 0
    · refine zv_t b1 (zv_ck rd3.1 ?_)
      obtain ⟨t5, e5, c5, h5, k5⟩ := kA
      obtain ⟨u, eu, hu⟩ := fin t5 _ _ (f3.px.tr k5) c5 (fun g => g3 (h5 g).1) (fun g => (h5 g).2)
      refine zv_p e5 ⟨u, eu, post _ _ u ?_ ?_ hu⟩
      · cases hC : zq_cur G with
        | inl f => rw [Rf f hC]; rfl
        | inr p =>
          have g : zq_gd_ (zq_cur G) := ⟨p, hC⟩
          rw [v1 (gX2 (g3 g)), lg_cmp_eq, zl_1, pk_lEQ l63 (by omega)] at b1
          rw [hR, ← hC]; unfold zq_eb; rw [if_pos b1]
      · intro gg
        have g := (h5 gg).1
        rw [v1 (gX2 (g3 g)), lg_cmp_eq, zl_1, pk_lEQ l63 (by omega)] at b1
        rw [hR]; unfold zq_eb; rw [if_pos b1]
    refine zv_f b1 ?_
    by_cases b2 : lg_cmp y1.1 2 = 0
    · refine zv_t b2 (zv_ck rd3.1 ?_)
      obtain ⟨t5, e5, c5, h5, k5⟩ := kB
      obtain ⟨u, eu, hu⟩ := fin t5 _ _ (f3.px.tr k5) c5 (fun g => g3 (h5 g).1) (fun g => (h5 g).2)
      refine zv_p e5 ⟨u, eu, post _ _ u ?_ ?_ hu⟩
      · cases hC : zq_cur G with
        | inl f =>
          rw [Rf f hC]
          show (if 1 ≤ 0 ∧ 0 ≤ 7 then (.inl f : Nat ⊕ Nat) else .inl f) = .inl f
          split <;> rfl
        | inr p =>
          have g : zq_gd_ (zq_cur G) := ⟨p, hC⟩
          rw [v1 (gX2 (g3 g)), lg_cmp_eq, zl_2, pk_lEQ l63 (by omega)] at b2
          rw [hR, ← hC]; unfold zq_eb; rw [if_neg (by omega), if_pos b2]
      · intro gg
        have g := (h5 gg).1
        rw [v1 (gX2 (g3 g)), lg_cmp_eq, zl_2, pk_lEQ l63 (by omega)] at b2
        rw [hR]; unfold zq_eb; rw [if_neg (by omega), if_pos b2]
    refine zv_f b2 ?_
    by_cases b3 : lg_cmp y1.1 3 = 0
    · refine zv_t b3 (zv_ck rd3.1 ?_)
      obtain ⟨t5, e5, c5, h5, k5⟩ := kC
      obtain ⟨u, eu, hu⟩ := fin t5 _ _ (f3.px.tr k5) c5 (fun g => g3 (h5 g).1) (fun g => (h5 g).2)
      refine zv_p e5 ⟨u, eu, post _ _ u ?_ ?_ hu⟩
      · cases hC : zq_cur G with
        | inl f => rw [Rf f hC]; rfl
        | inr p =>
          have g : zq_gd_ (zq_cur G) := ⟨p, hC⟩
          rw [v1 (gX2 (g3 g)), lg_cmp_eq, zl_3, pk_lEQ l63 (by omega)] at b3
          rw [hR, ← hC]; unfold zq_eb; rw [if_neg (by omega), if_neg (by omega), if_pos b3]
      · intro gg
        have g := (h5 gg).1
        rw [v1 (gX2 (g3 g)), lg_cmp_eq, zl_3, pk_lEQ l63 (by omega)] at b3
        rw [hR]; unfold zq_eb; rw [if_neg (by omega), if_neg (by omega), if_pos b3]
    refine zv_f b3 (zv_ck rd3.1 ?_)
    obtain ⟨u, eu, hu⟩ := opq E hE3
    have notid : zq_gd_ (zq_cur G) → ¬ zq_val I = 1 ∧ ¬ zq_val I = 2 ∧ ¬ zq_val I = 3 := fun g => by
      rw [v1 (gX2 (g3 g)), lg_cmp_eq, zl_1, pk_lEQ l63 (by omega)] at b1
      rw [v1 (gX2 (g3 g)), lg_cmp_eq, zl_2, pk_lEQ l63 (by omega)] at b2
      rw [v1 (gX2 (g3 g)), lg_cmp_eq, zl_3, pk_lEQ l63 (by omega)] at b3
      exact ⟨b1, b2, b3⟩
    refine ⟨u, eu, post _ _ u ?_ ?_ hu⟩
    · cases hC : zq_cur G with
      | inl f => rw [Rf f hC]; rfl
      | inr p =>
        obtain ⟨q1, q2, q3⟩ := notid ⟨p, hC⟩
        rw [hR, ← hC]; unfold zq_eb; rw [if_neg q1, if_neg q2, if_neg q3]
    · intro gg
      obtain ⟨q1, q2, q3⟩ := notid (zq_op_g (zq_sk_g gg)).1
      rw [hR]; unfold zq_eb; rw [if_neg q1, if_neg q2, if_neg q3]
  rw [zf_Reader_readExtension]
  refine zv_ck rd.1 (zv_b (a := y0.1) (b := y0.2) e0 (zv_ck rd0.1 (zv_l (zv_b (a := y1.1) (b := y1.2) e1 ?_))))
  by_cases h : 0 < lg_cmp y1.1 jb
  · have eX : X2 = zq_cur I := by
      rw [hX2]
      cases hC : zq_cur I with
      | inl f => split <;> rfl
      | inr p =>
        have g : zq_gd_ (zq_cur I) := ⟨p, hC⟩
        rw [v1 g, hjb (g0 (g1 g)).1, zq_bf_lt hbf l63] at h
        rw [if_pos h]
    exact zv_t h (body y1.2 f1 (by rw [eX]; exact c1))
  · obtain ⟨u, e2, g3, k2⟩ := zx_fail n (k := 4) (q := zq_pos (zq_cur O)) (i := 4) (j := zh_I y0.2 r 1) rd1 c1 (by omega) (fun g => ⟨rfl, zq_cu_pos c0 (g1 g)⟩)
    have eX : X2 = zq_fl 4 (zq_pos (zq_cur O)) (zq_cur I) := by
      rw [hX2]
      cases hC : zq_cur I with
      | inl f => split <;> rfl
      | inr p =>
        have g : zq_gd_ (zq_cur I) := ⟨p, hC⟩
        rw [v1 g, hjb (g0 (g1 g)).1, zq_bf_lt hbf l63] at h
        rw [if_neg h]
    exact zv_f h (zv_ck rd1.1 (zv_b (a := u.1) (b := u.2) e2 (body u.2 (f1.tr k2) (by rw [eX]; exact g3))))
theorem zx_ext (hn : 300 ≤ n) (w : zq_w s) (d : zq_dV s l) (rd : zq_rd s r) (hc : 10 ≤ c ∧ c < 23) (cu : zq_cu s r 1 2 x) (hi : zq_en_ l x i e) (hE : zq_gd_ x → zq_XV s c E) {bf : Nat} {jb : Int64} (hbf : bf ≤ 2 ^ 63) (hjb : zq_gd_ x → jb = zq_bf bf) : ∃ y, zf_Reader_readExtension n s r c jb i = some y ∧ zq_cu y.2 r 1 2 (zq_ext l e bf E x).1 ∧ (zq_gd_ (zq_ext l e bf E x).1 → zq_gd_ x ∧ y.1 = lN (zq_ext l e bf E x).2.1 ∧ zq_XV y.2 c (zq_ext l e bf E x).2.2) ∧ zq_F (zq_PX r c) s y.2 :=
  zx_ext0 hn w d rd hc cu hi hE hbf hjb _ _ _ _ _ rfl rfl rfl rfl rfl
end XY
