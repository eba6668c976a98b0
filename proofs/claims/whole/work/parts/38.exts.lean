/-! Extensions: what they say, and the class reads them so. -/
abbrev zq_Ex : Type := Int64 × Int64 × Int64 × Int64 × Nat × Bool × Bool × Bool
def zq_bi (b : Bool) : Int32 := if b then 1 else 0
/-- what a certificate of the class holds of its extensions: reach, usage, allowed, barred, how many, basic, authority, strange -/
def zq_XV (s : zh_S) (c : Nat) (E : zq_Ex) : Prop := (zh_J s c 10 = E.1 ∧ zh_J s c 11 = E.2.1 ∧ zh_J s c 12 = E.2.2.1 ∧ zh_J s c 13 = E.2.2.2.1) ∧ zh_I s c 14 = nI E.2.2.2.2.1 ∧ zh_I s c 15 = zq_bi E.2.2.2.2.2.1 ∧ zh_I s c 16 = zq_bi E.2.2.2.2.2.2.1 ∧ zh_I s c 17 = zq_bi E.2.2.2.2.2.2.2
abbrev zq_PX (r c : Nat) (a k : Nat) : Prop := zq_PR r a k ∨ a = c ∧ 10 ≤ k ∧ k ≤ 17
theorem zw_C {s : zh_S} (w : zq_w s) {c : Nat} (h : 10 ≤ c ∧ c < 23) : zh_oo s c 0 := by
  refine ⟨?_, w.1 c (by omega)⟩
  rw [w.2.1 c (by omega)]
  unfold zq_K
  rw [if_neg (by omega), if_pos h.2]
theorem zq_XV.kR {s t : zh_S} {c r : Nat} {E : zq_Ex} (h : zq_XV s c E) (f : zq_F (zq_PR r) s t) (hr : 62 ≤ r) (hc : 10 ≤ c ∧ c < 23) : zq_XV t c E := by
  have g : ∀ k, zh_I t c k = zh_I s c k ∧ zh_J t c k = zh_J s c k := fun k => f.2 c k (by omega)
  unfold zq_XV
  rw [(g 10).2, (g 11).2, (g 12).2, (g 13).2, (g 14).1, (g 15).1, (g 16).1, (g 17).1]
  exact h
theorem zq_F.px {s t : zh_S} {r c : Nat} (f : zq_F (zq_PR r) s t) : zq_F (zq_PX r c) s t := f.mo (fun _ _ h => Or.inl h)
theorem zq_L.kX {s t : zh_S} {l : List Nat} {r c : Nat} (d : zq_dV s l) (f : zq_F (zq_PX r c) s t) (hr : 62 ≤ r) (hc : 10 ≤ c ∧ c < 23) : zq_dV t l := d.keep f (by omega) (fun j => by omega)
theorem zq_cu.kc {s : zh_S} {r c k : Nat} {x : Nat ⊕ Nat} (h : zq_cu s r 1 2 x) (hne : r ≠ c) (v : Int32) : zq_cu (zh_uI s c k v) r 1 2 x := by
  cases x with
  | inl f => exact ⟨by rw [zs_II, if_neg (fun e => hne e.1)]; exact h.1, h.2⟩
  | inr p => exact ⟨by rw [zs_II, if_neg (fun e => hne e.1)]; exact h.1, by rw [zs_II, if_neg (fun e => hne e.1)]; exact h.2.1, h.2.2⟩
theorem zq_cu.kj {s : zh_S} {o kp kf c k : Nat} {x : Nat ⊕ Nat} (h : zq_cu s o kp kf x) (v : Int64) : zq_cu (zh_uJ s c k v) o kp kf x := by
  cases x with
  | inl f => exact h
  | inr p => exact h
theorem zq_rf_le (l : List Nat) (e : Nat) (x : Nat ⊕ Nat) : zq_val (zq_rfX l e x) ≤ 1 := by
  cases x with
  | inl f => exact Nat.zero_le _
  | inr p =>
    show zq_val (zq_rf l e p) ≤ 1
    unfold zq_rf
    split
    · cases zq_op l 1 e p with
      | inl f => exact Nat.zero_le _
      | inr aq =>
        obtain ⟨a, q⟩ := aq
        simp only []
        split
        · exact Nat.le_refl _
        · exact Nat.zero_le _
    · exact Nat.zero_le _
theorem zq_en_of {l : List Nat} {x : Nat ⊕ Nat} {i : Int32} {e : Nat} (h : zq_gd_ x → i = nI e ∧ e ≤ l.length) : zq_en_ l x i e := fun p hp => h ⟨p, hp⟩
theorem zq_en_.use {l : List Nat} {x : Nat ⊕ Nat} {i : Int32} {e : Nat} (h : zq_en_ l x i e) (g : zq_gd_ x) : i = nI e ∧ e ≤ l.length := by
  obtain ⟨p, hp⟩ := g; exact h p hp
/-- BASIC -/
def zq_ba (l : List Nat) (e : Nat) (x : Nat ⊕ Nat) : (Nat ⊕ Nat) × Nat × Bool × Nat :=
  let O := zq_opX l 48 e x
  let G := zq_rfX l (zq_val O) (zq_cur O)
  let nx := decide (zq_val G = 1) && zq_nxX l 2 (zq_val O) (zq_cur G)
  let V := zq_riX l (zq_val O) (zq_cur G)
  (zq_clX (zq_val O) (if nx then zq_cur V else zq_cur G), zq_val G, nx, zq_val V)
def zq_baE (l : List Nat) (e : Nat) (x : Nat ⊕ Nat) (E : zq_Ex) : zq_Ex := (if (zq_ba l e x).2.2.1 then lN (zq_ba l e x).2.2.2 else E.1, E.2.1, E.2.2.1, E.2.2.2.1, E.2.2.2.2.1, true, decide ((zq_ba l e x).2.1 = 1), E.2.2.2.2.2.2.2)
section XV
variable {n : Nat} {s : zh_S} {r c : Nat} {l : List Nat} {e : Nat} {x : Nat ⊕ Nat} {i : Int32} {E : zq_Ex}
theorem zx_basic0 (hn : 300 ≤ n) (w : zq_w s) (d : zq_dV s l) (rd : zq_rd s r) (hc : 10 ≤ c ∧ c < 23) (cu : zq_cu s r 1 2 x) (hi : zq_en_ l x i e) (hE : zq_gd_ x → zq_XV s c E) (O G V : Nat ⊕ (Nat × Nat)) (nx : Bool) (hO : O = zq_opX l 48 e x) (hG : G = zq_rfX l (zq_val O) (zq_cur O)) (hV : V = zq_riX l (zq_val O) (zq_cur G)) (hnx : nx = (decide (zq_val G = 1) && zq_nxX l 2 (zq_val O) (zq_cur G))) : ∃ t, zf_Reader_readBasic n s r c i = some t ∧ zq_cu t r 1 2 (zq_clX (zq_val O) (if nx then zq_cur V else zq_cur G)) ∧ (zq_gd_ (zq_clX (zq_val O) (if nx then zq_cur V else zq_cur G)) → zq_gd_ x ∧ zq_XV t c (if nx then lN (zq_val V) else E.1, E.2.1, E.2.2.1, E.2.2.2.1, E.2.2.2.2.1, true, decide (zq_val G = 1), E.2.2.2.2.2.2.2)) ∧ zq_F (zq_PX r c) s t := by
  have hr := rd.2.2
  have hl := d.2.1
  obtain ⟨y0, e0, c0, v0, k0⟩ := zx_open n (tag := 48) w d rd cu hi (by decide)
  have g0 := @zq_op_g l 48 e x
  rw [← hO] at c0 v0 g0
  have w0 := k0.w w
  have rd0 := k0.1.rd rd
  have d0 := d.kR k0 hr
  -- basic is noted
  have f1 : zq_F (zq_PX r c) s (zh_uI y0.2 c 15 1) := k0.px.uI (Or.inr ⟨rfl, by omega, by omega⟩) _
  have w1 := f1.w w
  have rd1 := f1.1.rd rd
  have d1 := d.kX f1 hr hc
  have c1 := c0.kc (c := c) (k := 15) (by omega) 1
  have hst : zq_en_ l (zq_cur O) y0.1 (zq_val O) := zq_en_of (fun g => ⟨v0 g, by have := (g0 g).2.1; have := (hi.use (g0 g).1).2; omega⟩)
  obtain ⟨y2, e2, c2, v2, b2, k2⟩ := zx_flag n w1 d1 rd1 c1 hst
  have g2 := @zq_rf_g l (zq_val O) (zq_cur O)
  have le2 := zq_rf_le l (zq_val O) (zq_cur O)
  rw [← hG] at c2 v2 g2 le2
  have f2 := f1.tr k2.px
  have f3 : zq_F (zq_PX r c) s (zh_uI y2.2 c 16 y2.1) := f2.uI (Or.inr ⟨rfl, by omega, by omega⟩) _
  have w2 := f2.w w
  have w3 := f3.w w
  have rd3 := f3.1.rd rd
  have d3 := d.kX f3 hr hc
  have c3 := c2.kc (c := c) (k := 16) (by omega) y2.1
  have h16 : zh_I (zh_uI y2.2 c 16 y2.1) c 16 = y2.1 := by rw [zs_II, if_pos ⟨rfl, rfl⟩]
  have hst3 : zq_en_ l (zq_cur G) y0.1 (zq_val O) := zq_en_of (fun g => hst.use (g2 g))
  -- the record, so far
  have rec3 : zq_gd_ (zq_cur G) → zq_gd_ x ∧ zq_XV (zh_uI y2.2 c 16 y2.1) c (E.1, E.2.1, E.2.2.1, E.2.2.2.1, E.2.2.2.2.1, true, decide (zq_val G = 1), E.2.2.2.2.2.2.2) := by
    intro g
    have gx := (g0 (g2 g)).1
    have X0 := (hE gx).kR k0 hr hc
    refine ⟨gx, ?_⟩
    have q2 : ∀ k, zh_I y2.2 c k = zh_I (zh_uI y0.2 c 15 1) c k ∧ zh_J y2.2 c k = zh_J (zh_uI y0.2 c 15 1) c k := fun k => k2.2 c k (by omega)
    have vv : y2.1 = zq_bi (decide (zq_val G = 1)) := by
      rw [v2 g]
      unfold zq_bi
      by_cases h : zq_val G = 1
      · rw [h]; rfl
      · have : zq_val G = 0 := by omega
        rw [this]; rfl
    obtain ⟨⟨x1, x2, x3, x4⟩, x5, x6, x7, x8⟩ := X0
    refine ⟨⟨?_, ?_, ?_, ?_⟩, ?_, ?_, ?_, ?_⟩
    · rw [zs_JI, (q2 10).2, zs_JI]; exact x1
    · rw [zs_JI, (q2 11).2, zs_JI]; exact x2
    · rw [zs_JI, (q2 12).2, zs_JI]; exact x3
    · rw [zs_JI, (q2 13).2, zs_JI]; exact x4
    · rw [zs_II, if_neg (by omega), (q2 14).1, zs_II, if_neg (by omega)]; exact x5
    · rw [zs_II, if_neg (by omega), (q2 15).1, zs_II, if_pos ⟨rfl, rfl⟩]; rfl
    · rw [h16]; exact vv
    · rw [zs_II, if_neg (by omega), (q2 17).1, zs_II, if_neg (by omega)]; exact x8
  have fin : ∀ (t : zh_S) (X : Nat ⊕ Nat) (E' : zq_Ex), zq_F (zq_PX r c) s t → zq_cu t r 1 2 X → (zq_gd_ X → zq_gd_ (zq_cur G)) → (zq_gd_ X → zq_XV t c E') → ∃ u, zb_Reader_readBasic_47 n t r y0.1 = some u ∧ zq_cu u r 1 2 (zq_clX (zq_val O) X) ∧ (zq_gd_ (zq_clX (zq_val O) X) → zq_gd_ x ∧ zq_XV u c E') ∧ zq_F (zq_PX r c) s u := by
    intro t X E' ft ct gX hX
    have rdt := ft.1.rd rd
    obtain ⟨u, eu, cu', ku⟩ := zx_close n rdt ct (zq_en_of (fun g => hst3.use (gX g))) hl
    rw [zb_Reader_readBasic_47]
    refine zv_ck rdt.1 (zv_p eu (zv_r ⟨cu', fun g => ?_, ft.tr ku.px⟩))
    have gg := zq_cl_g g
    exact ⟨(rec3 (gX gg)).1, (hX gg).kR ku hr hc⟩
  rw [zf_Reader_readBasic]
  refine zv_ck rd.1 (zv_b (a := y0.1) (b := y0.2) e0 (zv_ck (zw_C w0 hc) (zv_l (zv_ck rd1.1 (zv_b (a := y2.1) (b := y2.2) e2 (zv_ck (zw_C w2 hc) (zv_ck b2 (zv_l ?_))))))))
  try dsimp only
  rw [h16]
  by_cases a0 : y2.1 = 0
  · refine zv_t a0 ?_
    have nx0 : zq_gd_ (zq_cur G) → (decide (zq_val G = 1) && zq_nxX l 2 (zq_val O) (zq_cur G)) = false := fun g => by
      rw [v2 g] at a0
      have : zq_val G ≠ 1 := fun h => by rw [h] at a0; exact absurd a0 (by decide)
      simp [this]
    have nx' : (decide (zq_val G = 1) && zq_nxX l 2 (zq_val O) (zq_cur G)) = false := by
      cases hG : zq_cur G with
      | inl f => simp [zq_nxX]
      | inr p => rw [← hG]; exact nx0 ⟨p, hG⟩
    have hn0 : nx = false := hnx.trans nx'
    subst hn0
    exact fin _ _ _ f3 c3 (fun g => g) (fun g => (rec3 g).2)
  · refine zv_f a0 (zv_ck rd3.1 (zv_p (zx_isNext n (tag := 2) w3 d3 rd3 c3 hst3 (by decide)) ?_))
    have hy1 : y2.1 = 1 := by rcases b2 with h | h
                              · exact absurd h a0
                              · exact h
    cases hN : zq_nxX l 2 (zq_val O) (zq_cur G) with
    | false =>
      have hn0 : nx = false := by rw [hnx, hN, Bool.and_false]
      subst hn0
      exact zv_t rfl (fin _ _ _ f3 c3 (fun g => g) (fun g => (rec3 g).2))
    | true =>
      have gG : zq_gd_ (zq_cur G) := by
        cases hG : zq_cur G with
        | inl f => rw [hG] at hN; cases hN
        | inr p => exact ⟨p, rfl⟩
      have v1 : zq_val G = 1 := by
        have := v2 gG
        rw [hy1] at this
        have h9 := (nI_eq (a := 1) (b := zq_val G) (by omega) (by omega)).mp this
        omega
      have hn0 : nx = true := by rw [hnx, hN, decide_eq_true v1, Bool.true_and]
      subst hn0
      obtain ⟨y5, e5, c5, v5, k5⟩ := zx_int hn w3 d3 rd3 c3 hst3
      have g5 := @zq_ri_g l (zq_val O) (zq_cur G)
      rw [← hV] at c5 v5 g5
      have f5 := f3.tr k5.px
      have w5 := f5.w w
      refine zv_f (by decide) (zv_b (a := y5.1) (b := y5.2) e5 (zv_ck (zw_C w5 hc) (zv_l (fin _ _ _ (f5.uJ (Or.inr ⟨rfl, by omega, by omega⟩) _) (c5.kj _) g5 (fun g => ?_)))))
      have X3 := (rec3 (g5 g)).2.kR k5 hr hc
      obtain ⟨⟨x1, x2, x3, x4⟩, x5, x6, x7, x8⟩ := X3
      refine ⟨⟨?_, ?_, ?_, ?_⟩, x5, x6, x7, x8⟩
      · rw [zs_JJ, if_pos ⟨rfl, rfl⟩]; exact v5 g
      · rw [zs_JJ, if_neg (by omega)]; exact x2
      · rw [zs_JJ, if_neg (by omega)]; exact x3
      · rw [zs_JJ, if_neg (by omega)]; exact x4
theorem zx_basic (hn : 300 ≤ n) (w : zq_w s) (d : zq_dV s l) (rd : zq_rd s r) (hc : 10 ≤ c ∧ c < 23) (cu : zq_cu s r 1 2 x) (hi : zq_en_ l x i e) (hE : zq_gd_ x → zq_XV s c E) : ∃ t, zf_Reader_readBasic n s r c i = some t ∧ zq_cu t r 1 2 (zq_ba l e x).1 ∧ (zq_gd_ (zq_ba l e x).1 → zq_gd_ x ∧ zq_XV t c (zq_baE l e x E)) ∧ zq_F (zq_PX r c) s t :=
  zx_basic0 hn w d rd hc cu hi hE _ _ _ _ rfl rfl rfl rfl
/-- USAGE -/
def zq_us (l : List Nat) (e : Nat) (x : Nat ⊕ Nat) : (Nat ⊕ Nat) × Nat :=
  let V := zq_riX l e x
  (if 1 ≤ zq_val V ∧ zq_val V ≤ 7 then zq_cur V else zq_fl 4 (zq_pos x) (zq_cur V), zq_val V)
def zq_usE (l : List Nat) (e : Nat) (x : Nat ⊕ Nat) (E : zq_Ex) : zq_Ex := (E.1, lN (zq_us l e x).2, E.2.2)
theorem zq_fl_g {k q : Nat} {x : Nat ⊕ Nat} : ¬ zq_gd_ (zq_fl k q x) := fun ⟨p, h⟩ => by
  cases x with
  | inl f => cases h
  | inr q => cases h
theorem zq_ri_63 {l : List Nat} (hb : ∀ b ∈ l, b < 256) (e : Nat) (x : Nat ⊕ Nat) : zq_val (zq_riX l e x) < 2 ^ 63 := by
  cases x with
  | inl f => exact Nat.two_pow_pos 63
  | inr p =>
    show zq_val (zq_ri l e p) < 2 ^ 63
    unfold zq_ri
    cases zq_op l 2 e p with
    | inl f => exact Nat.two_pow_pos 63
    | inr aq =>
      obtain ⟨a, q⟩ := aq
      simp only []
      by_cases h : zq_ig l a q = true
      · rw [if_pos h]; exact zq_va_63 hb h
      · rw [if_neg h]; exact Nat.two_pow_pos 63
theorem zq_cu_pos {s : zh_S} {o kp kf : Nat} {x : Nat ⊕ Nat} (h : zq_cu s o kp kf x) (g : zq_gd_ x) : zh_I s o kp = nI (zq_pos x) ∧ zq_pos x ≤ 200 := by
  obtain ⟨p, rfl⟩ := g
  exact ⟨h.2.1, h.2.2⟩
theorem zx_usage (hn : 300 ≤ n) (w : zq_w s) (d : zq_dV s l) (rd : zq_rd s r) (hc : 10 ≤ c ∧ c < 23) (cu : zq_cu s r 1 2 x) (hi : zq_en_ l x i e) (hE : zq_gd_ x → zq_XV s c E) : ∃ t, zf_Reader_readUsage n s r c i = some t ∧ zq_cu t r 1 2 (zq_us l e x).1 ∧ (zq_gd_ (zq_us l e x).1 → zq_gd_ x ∧ zq_XV t c (zq_usE l e x E)) ∧ zq_F (zq_PX r c) s t := by
  have hr := rd.2.2
  have hl := d.2.1
  unfold zq_usE zq_us
  dsimp only
  obtain ⟨y0, e0, c0, v0, k0⟩ := zx_int hn w d rd cu hi
  have g0 := @zq_ri_g l e x
  have l63 := zq_ri_63 d.2.2.1 e x
  generalize zq_riX l e x = V at c0 v0 g0 l63 ⊢
  have w0 := k0.w w
  have rd0 := k0.1.rd rd
  have fin : ∀ (t : zh_S) (X : Nat ⊕ Nat), zq_F (zq_PR r) s t → zq_cu t r 1 2 X → (zq_gd_ X → zq_gd_ (zq_cur V)) → ∃ u, zb_Reader_readUsage_35 n t c y0.1 = some u ∧ zq_cu u r 1 2 X ∧ (zq_gd_ X → zq_gd_ x ∧ zq_XV u c (E.1, lN (zq_val V), E.2.2)) ∧ zq_F (zq_PX r c) s u := by
    intro t X ft ct gX
    rw [zb_Reader_readUsage_35]
    refine zv_ck (zw_C (ft.w w) hc) (zv_l (zv_r ⟨ct.kj _, fun g => ⟨g0 (gX g), ?_⟩, ft.px.uJ (Or.inr ⟨rfl, by omega, by omega⟩) _⟩))
    have X0 := (hE (g0 (gX g))).kR ft hr hc
    obtain ⟨⟨x1, x2, x3, x4⟩, x5, x6, x7, x8⟩ := X0
    refine ⟨⟨?_, ?_, ?_, ?_⟩, x5, x6, x7, x8⟩
    · rw [zs_JJ, if_neg (by omega)]; exact x1
    · rw [zs_JJ, if_pos ⟨rfl, rfl⟩]; exact v0 (gX g)
    · rw [zs_JJ, if_neg (by omega)]; exact x3
    · rw [zs_JJ, if_neg (by omega)]; exact x4
  have bad : ¬ (zq_gd_ (zq_cur V) ∧ (1 ≤ zq_val V ∧ zq_val V ≤ 7)) → ∃ u, zb_Reader_readUsage_28 n y0.2 r c (zh_I s r 1) y0.1 = some u ∧ zq_cu u r 1 2 (if 1 ≤ zq_val V ∧ zq_val V ≤ 7 then zq_cur V else zq_fl 4 (zq_pos x) (zq_cur V)) ∧ (zq_gd_ (if 1 ≤ zq_val V ∧ zq_val V ≤ 7 then zq_cur V else zq_fl 4 (zq_pos x) (zq_cur V)) → zq_gd_ x ∧ zq_XV u c (E.1, lN (zq_val V), E.2.2)) ∧ zq_F (zq_PX r c) s u := by
    intro hb
    obtain ⟨u, e2, g3, k2⟩ := zx_fail n (k := 4) (q := zq_pos x) (i := 4) (j := zh_I s r 1) rd0 c0 (by omega) (fun g => ⟨rfl, zq_cu_pos cu (g0 g)⟩)
    have eX : (if 1 ≤ zq_val V ∧ zq_val V ≤ 7 then zq_cur V else zq_fl 4 (zq_pos x) (zq_cur V)) = zq_fl 4 (zq_pos x) (zq_cur V) := by
      by_cases h : 1 ≤ zq_val V ∧ zq_val V ≤ 7
      · rw [if_pos h]
        cases hV : zq_cur V with
        | inl f => rfl
        | inr p => exact absurd ⟨⟨p, hV⟩, h⟩ hb
      · rw [if_neg h]
    rw [eX, zb_Reader_readUsage_28]
    exact zv_ck rd0.1 (zv_b (a := u.1) (b := u.2) e2 (fin u.2 _ (k0.tr k2) g3 (fun g => absurd g zq_fl_g)))
  rw [zf_Reader_readUsage]
  refine zv_ck rd.1 (zv_l (zv_b (a := y0.1) (b := y0.2) e0 ?_))
  by_cases h1 : lg_cmp y0.1 1 < 0
  · refine zv_t h1 (bad (fun g => ?_))
    rw [v0 g.1, lg_cmp_lt, zl_1, pk_lLT l63 (by omega)] at h1
    omega
  · refine zv_f h1 ?_
    by_cases h2 : lg_cmp y0.1 7 ≤ 0
    · refine zv_t h2 ?_
      have eX : (if 1 ≤ zq_val V ∧ zq_val V ≤ 7 then zq_cur V else zq_fl 4 (zq_pos x) (zq_cur V)) = zq_cur V := by
        cases hV : zq_cur V with
        | inl f => split <;> rfl
        | inr p =>
          have g : zq_gd_ (zq_cur V) := ⟨p, hV⟩
          rw [v0 g, lg_cmp_lt, zl_1, pk_lLT l63 (by omega)] at h1
          rw [v0 g, lg_cmp_le, zl_7, pk_lLE l63 (by omega)] at h2
          rw [if_pos (by omega)]
      rw [eX]
      exact fin y0.2 _ k0 c0 (fun g => g)
    · refine zv_f h2 (bad (fun g => ?_))
      rw [v0 g.1, lg_cmp_le, zl_7, pk_lLE l63 (by omega)] at h2
      omega
end XV
