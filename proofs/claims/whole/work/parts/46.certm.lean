/-! The reference reads a certificate. -/
def zq_CM (s : zh_S) (C : zq_Ce) : Prop := (∀ k, k < 8 → zh_J s 52 k = lN (C.1 k)) ∧ zh_J s 52 8 = C.2.2.toInt64 ∧ zq_XM s C.2.1
theorem zx_masg {s y : zh_S} (k : zq_F zq_PS s y) (sl : Nat) (v : Int64) : ∀ j, zh_J (zh_uJ y 52 sl v) 52 j = if j = sl then v else zh_J s 52 j := by
  intro j
  rw [zs_JJ]
  by_cases h : j = sl
  · rw [if_pos h, if_pos ⟨rfl, h⟩]
  · rw [if_neg h, if_neg (fun e => h e.2)]; exact (k.2 52 j (by omega)).2
theorem zq_XM.of {s t : zh_S} {E : zq_Ex} (h : zq_XM s E) (hJ : ∀ j, 9 ≤ j → j ≤ 14 → zh_J t 52 j = zh_J s 52 j) : zq_XM t E := by
  unfold zq_XM
  rw [hJ 9 (by omega) (by omega), hJ 10 (by omega) (by omega), hJ 11 (by omega) (by omega), hJ 12 (by omega) (by omega), hJ 13 (by omega) (by omega), hJ 14 (by omega) (by omega)]
  exact h
section MC
variable {n : Nat} {l : List Nat}
/-- the end of a reading: signature, ends (227 and 183 are alike) -/
theorem zx_m227 (hn : 300 ≤ n) {s : zh_S} {x : Nat ⊕ Nat} {i : Int32} {wh : Nat} (w : zq_w s) (d : zq_dM s l) (cu : zq_cu s 44 9 10 x) (hi : zq_en_ l x i wh) : ∃ t, zb_M_readCertificate_227 n s 44 i = some t ∧ zq_cu t 44 9 10 (zq_sgn l wh x).1 ∧ (zq_gd_ (zq_sgn l wh x).1 → zq_gd_ x ∧ zh_J t 52 7 = lN (zq_sgn l wh x).2 ∧ ∀ k, k ≠ 7 → zh_J t 52 k = zh_J s 52 k) ∧ zq_F zq_PU s t := by
  have hl := d.2.1
  obtain ⟨y, e2, c2, v2, k2⟩ := zx_num hn w d cu hi
  have g2 := @zq_ri_g l wh x
  have w2 := k2.w w
  have f3 : zq_F zq_PU s (zh_uJ y.2 52 7 y.1) := k2.pu.uJ (Or.inr ⟨rfl, by omega⟩) _
  have w3 := f3.w w
  obtain ⟨t4, e4, c4, k4⟩ := zx_done n w3 (c2.kj (c := 52) (k := 7) y.1) (zq_en_of (fun g => hi.use (g2 g))) hl
  have f4 := f3.tr k4.pu
  have w4 := f4.w w
  have d4 := d.kU f4
  obtain ⟨t5, e5, c5, k5⟩ := zx_done n (e := l.length) (i := zh_I t4 44 1) w4 c4 (zq_en_of (fun _ => ⟨d4.1, Nat.le_refl _⟩)) hl
  rw [zb_M_readCertificate_227]
  refine zv_ck ⟨zw_K44 w, zw_N44 w⟩ (zv_p (zw_R44_11 w) (zv_b (a := y.1) (b := y.2) e2 (zv_ck (zw_A52 w2 (i := 7) (by decide)) (zv_l (zv_ck ⟨zw_K44 w3, zw_N44 w3⟩ (zv_p e4 (zv_ck ⟨zw_K44 w4, zw_N44 w4⟩ (zv_p e5 (zv_r ⟨c5, fun g => ?_, f4.tr k5.pu⟩)))))))))
  have gg := zq_cl_g (zq_cl_g g)
  have aJ := zx_masg k2 7 y.1
  have bJ : ∀ k, zh_J t5 52 k = zh_J (zh_uJ y.2 52 7 y.1) 52 k := fun k => ((k5.2 52 k (by omega)).2).trans (k4.2 52 k (by omega)).2
  exact ⟨g2 gg, by rw [bJ, aJ, if_pos rfl]; exact v2 gg, fun k hk => by rw [bJ, aJ, if_neg hk]⟩
theorem zx_m200 (hn : 300 ≤ n) {s : zh_S} {x : Nat ⊕ Nat} {i1 i2 i3 : Int32} {st wh b : Nat} (w : zq_w s) (d : zq_dM s l) (cu : zq_cu s 44 9 10 x) (h1 : zq_gd_ x → i1 = nI wh ∧ wh ≤ l.length) (h2 : zq_gd_ x → i2 = nI st ∧ st ≤ 200) (h3 : zq_gd_ x → i3 = nI b ∧ b ≤ l.length) (hp : zq_gd_ (zq_clX b x) → zq_pos (zq_clX b x) = b) : ∃ t, zb_M_readCertificate_200 n s 44 i1 i2 i3 i3 = some t ∧ zq_cu t 44 9 10 (zq_sgn l wh (zq_clX b x)).1 ∧ (zq_gd_ (zq_sgn l wh (zq_clX b x)).1 → zq_gd_ x ∧ zh_J t 52 7 = lN (zq_sgn l wh (zq_clX b x)).2 ∧ zh_J t 52 8 = (zq_h l st (zq_pos (zq_clX b x))).toInt64 ∧ ∀ k, k ≠ 7 → k ≠ 8 → zh_J t 52 k = zh_J s 52 k) ∧ zq_F zq_PU s t := by
  have hl := d.2.1
  obtain ⟨u, eu, cu7, ku⟩ := zx_done n w cu (zq_en_of h3) hl
  have wu := ku.w w
  have du := d.kS ku
  have g7 := @zq_cl_g b x
  rw [zb_M_readCertificate_200]
  refine zv_ck ⟨zw_K44 w, zw_N44 w⟩ (zv_p eu (zv_ck ⟨zw_K44 wu, zw_N44 wu⟩ ?_))
  cases hC : zq_clX b x with
  | inl f =>
    rw [hC] at cu7
    obtain ⟨t, et, ct, ht, kt⟩ := zx_m227 (l := l) (wh := wh) (i := i1) hn wu du cu7 (zq_en_of (fun ⟨p, q⟩ => by cases q))
    refine zv_f (zq_cu_ne cu7) ⟨t, et, ct, fun g => ?_, ku.pu.tr kt⟩
    obtain ⟨p, q⟩ := (ht g).1
    cases q
  | inr p =>
    have g : zq_gd_ (zq_clX b x) := ⟨p, hC⟩
    have gx := g7 g
    have hpp := hp g
    have h0 : zh_I u 44 10 = nI 0 := by rw [hC] at cu7; exact cu7.1
    obtain ⟨rfl, hst⟩ := h2 gx
    obtain ⟨rfl, hb⟩ := h3 gx
    have f1 : zq_F zq_PU s (zh_uJ u 52 8 (zq_h l st b).toInt64) := ku.pu.uJ (Or.inr ⟨rfl, by omega⟩) _
    have w1 := f1.w w
    have d1 := d.kU f1
    rw [hC] at hpp
    have hpb : p = b := hpp
    obtain ⟨t, et, ct, ht, kt⟩ := zx_m227 (l := l) (wh := wh) (i := i1) hn w1 d1 (cu7.kj (c := 52) (k := 8) (zq_h l st b).toInt64) (zq_en_of (fun _ => h1 gx))
    refine zv_t h0 (zv_p (zw_R44_11 wu) (zv_p (zp_mhash hn wu du hb hst) (zv_ck (zw_A52 wu (i := 8) (by decide)) (zv_l ⟨t, et, by rw [hC] at ct; exact ct, fun gt => ?_, f1.tr kt⟩))))
    rw [hC] at ht
    obtain ⟨-, q1, q2⟩ := ht gt
    have aJ := zx_masg ku 8 (zq_h l st b).toInt64
    refine ⟨gx, q1, ?_, fun k k7 k8 => ?_⟩
    · rw [q2 8 (by decide), aJ, if_pos rfl]
      show _ = (zq_h l st p).toInt64
      rw [hpb]
    · rw [q2 k k7, aJ, if_neg k8]
/-- the loop over the extensions -/
theorem zx_mlo (hn : 300 ≤ n) {i1 i2 i3 i5 : Int32} {e wh st b : Nat} : ∀ (k f : Nat) (s : zh_S) (bf : Nat) (jb : Int64) (E : zq_Ex) (x : Nat ⊕ Nat), zq_w s → zq_dM s l → zq_cu s 44 9 10 x → zq_en_ l x i5 e → (zq_gd_ x → zq_XM s E) → bf ≤ 2 ^ 63 → (zq_gd_ x → jb = zq_bf bf) → (zq_gd_ x → bf ≤ 1 → E.2.2.2.2.2.2.1 = false) → (zq_gd_ x → e ≤ zq_pos x + 2 * k) → k < f → (zq_gd_ x → i1 = nI wh ∧ wh ≤ l.length) → (zq_gd_ x → i2 = nI st ∧ st ≤ 200) → (zq_gd_ x → i3 = nI b ∧ b ≤ l.length) → (zq_gd_ (zq_clX b (zq_clX e (zq_lo l e k bf E x).1)) → zq_pos (zq_clX b (zq_clX e (zq_lo l e k bf E x).1)) = b) →
    ∃ t, zl_M_readCertificate_170 n f s 44 i1 i2 i3 i3 i5 jb = some t ∧ zq_cu t 44 9 10 (zq_sgn l wh (zq_clX b (zq_clX e (zq_lo l e k bf E x).1))).1 ∧ (zq_gd_ (zq_sgn l wh (zq_clX b (zq_clX e (zq_lo l e k bf E x).1))).1 → zq_gd_ x ∧ zh_J t 52 7 = lN (zq_sgn l wh (zq_clX b (zq_clX e (zq_lo l e k bf E x).1))).2 ∧ zh_J t 52 8 = (zq_h l st (zq_pos (zq_clX b (zq_clX e (zq_lo l e k bf E x).1)))).toInt64 ∧ zq_XM t (zq_lo l e k bf E x).2 ∧ ∀ j, j < 7 → zh_J t 52 j = zh_J s 52 j) ∧ zq_F zq_PU s t := by
  have stop : ∀ (f : Nat) (s : zh_S) (jb : Int64) (E : zq_Ex) (x : Nat ⊕ Nat), 0 < f → zq_w s → zq_dM s l → zq_cu s 44 9 10 x → zq_en_ l x i5 e → (zq_gd_ x → zq_XM s E) → zq_nxX l 48 e x = false → (zq_gd_ x → i1 = nI wh ∧ wh ≤ l.length) → (zq_gd_ x → i2 = nI st ∧ st ≤ 200) → (zq_gd_ x → i3 = nI b ∧ b ≤ l.length) → (zq_gd_ (zq_clX b (zq_clX e x)) → zq_pos (zq_clX b (zq_clX e x)) = b) → ∃ t, zl_M_readCertificate_170 n f s 44 i1 i2 i3 i3 i5 jb = some t ∧ zq_cu t 44 9 10 (zq_sgn l wh (zq_clX b (zq_clX e x))).1 ∧ (zq_gd_ (zq_sgn l wh (zq_clX b (zq_clX e x))).1 → zq_gd_ x ∧ zh_J t 52 7 = lN (zq_sgn l wh (zq_clX b (zq_clX e x))).2 ∧ zh_J t 52 8 = (zq_h l st (zq_pos (zq_clX b (zq_clX e x)))).toInt64 ∧ zq_XM t E ∧ ∀ j, j < 7 → zh_J t 52 j = zh_J s 52 j) ∧ zq_F zq_PU s t := by
    intro f s jb E x hf w d cu hi hE hN h1 h2 h3 hp
    obtain ⟨f, rfl⟩ : ∃ q, f = q + 1 := ⟨f - 1, by omega⟩
    obtain ⟨u, eu, cu', ku⟩ := zx_done n w cu hi d.2.1
    have ge := @zq_cl_g e x
    obtain ⟨t, et, ct, ht, kt⟩ := zx_m200 (l := l) (st := st) hn (ku.w w) (d.kS ku) cu' (fun g => h1 (ge g)) (fun g => h2 (ge g)) (fun g => h3 (ge g)) hp
    rw [zl_M_readCertificate_170]
    refine zv_ck ⟨zw_K44 w, zw_N44 w⟩ (zv_p (zx_next n (tag := 48) w d cu hi (by decide)) ?_)
    rw [hN]
    refine zv_t rfl (zv_p eu ⟨t, et, ct, fun g => ?_, ku.pu.tr kt⟩)
    obtain ⟨q1, q2, q3, q4⟩ := ht g
    have uJ : ∀ j, zh_J u 52 j = zh_J s 52 j := fun j => (ku.2 52 j (by omega)).2
    exact ⟨ge q1, q2, q3, ((hE (ge q1)).kS ku).of (fun j h1 h2 => q4 j (by omega) (by omega)), fun j hj => (q4 j (by omega) (by omega)).trans (uJ j)⟩
  intro k
  induction k with
  | zero =>
    intro f s bf jb E x w d cu hi hE hbf hjb hA hpos hf h1 h2 h3 hp
    refine stop f s jb E x (by omega) w d cu hi hE ?_ h1 h2 h3 hp
    cases x with
    | inl f => rfl
    | inr p =>
      have := hpos ⟨p, rfl⟩
      have : e ≤ p := this
      show decide _ = false
      exact decide_eq_false (by omega)
  | succ k ih =>
    intro f s bf jb E x w d cu hi hE hbf hjb hA hpos hf h1 h2 h3 hp
    cases hN : zq_nxX l 48 e x with
    | false =>
      have e0 : zq_lo l e (k + 1) bf E x = (x, E) := by rw [zq_lo, hN]; rfl
      rw [e0] at hp ⊢
      exact stop f s jb E x (by omega) w d cu hi hE hN h1 h2 h3 hp
    | true =>
      have e0 : zq_lo l e (k + 1) bf E x = zq_lo l e k ((zq_ext l e bf E x).2.1 + 1) (zq_ext l e bf E x).2.2 (zq_ext l e bf E x).1 := by rw [zq_lo, hN]; rfl
      rw [e0] at hp ⊢
      obtain ⟨f, rfl⟩ : ∃ q, f = q + 1 := ⟨f - 1, by omega⟩
      obtain ⟨y, e1, c1, g1, k1⟩ := zx_mext hn w d cu hi hE hbf hjb hA
      have l63 := zq_ext_63 d.2.2.1 e bf E x
      obtain ⟨t, et, ct, ht, kt⟩ := ih f y.2 ((zq_ext l e bf E x).2.1 + 1) y.1 (zq_ext l e bf E x).2.2 (zq_ext l e bf E x).1 (k1.w w) (d.kT k1) c1 (zq_en_of (fun g => hi.use (g1 g).1)) (fun g => (g1 g).2.2.1) (by omega) (fun g => by rw [zq_bf_s]; exact (g1 g).2.1) (fun g => (g1 g).2.2.2) (fun g => by have := (zq_ext_b g).2.1; have := hpos (g1 g).1; omega) (by omega) (fun g => h1 (g1 g).1) (fun g => h2 (g1 g).1) (fun g => h3 (g1 g).1) hp
      rw [zl_M_readCertificate_170]
      refine zv_ck ⟨zw_K44 w, zw_N44 w⟩ (zv_p (zx_next n (tag := 48) w d cu hi (by decide)) ?_)
      rw [hN]
      refine zv_f (by decide) (zv_b (a := y.1) (b := y.2) e1 ⟨t, et, ct, fun g => ?_, k1.ptu.tr kt⟩)
      obtain ⟨q1, q2, q3, q4, q5⟩ := ht g
      exact ⟨(g1 q1).1, q2, q3, q4, fun j hj => (q5 j hj).trans (k1.2 52 j (by omega)).2⟩
end MC
