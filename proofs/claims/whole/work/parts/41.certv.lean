/-! All extensions, the signature, a whole certificate: the class. -/
def zq_lo (l : List Nat) (e : Nat) : Nat → Nat → zq_Ex → (Nat ⊕ Nat) → (Nat ⊕ Nat) × zq_Ex
  | 0, _, E, x => (x, E)
  | k + 1, bf, E, x => if zq_nxX l 48 e x then zq_lo l e k ((zq_ext l e bf E x).2.1 + 1) (zq_ext l e bf E x).2.2 (zq_ext l e bf E x).1 else (x, E)
def zq_exs (l : List Nat) (e : Nat) (E : zq_Ex) (x : Nat ⊕ Nat) : (Nat ⊕ Nat) × zq_Ex :=
  let O := zq_opX l 48 e x
  let r := zq_ext l (zq_val O) 0 E (zq_cur O)
  let q := zq_lo l (zq_val O) 199 (r.2.1 + 1) r.2.2 r.1
  (zq_clX (zq_val O) q.1, q.2)
theorem zq_ext_63 {l : List Nat} (hb : ∀ b ∈ l, b < 256) (e bf : Nat) (E : zq_Ex) (x : Nat ⊕ Nat) : (zq_ext l e bf E x).2.1 < 2 ^ 63 := zq_ri_63 hb _ _
theorem zq_bf_s (v : Nat) : zq_bf (v + 1) = lN v := by
  unfold zq_bf; rw [if_neg (by omega)]; rfl
section XZ
variable {n : Nat} {r c : Nat} {l : List Nat}
theorem zx_lo (hn : 300 ≤ n) (hc : 10 ≤ c ∧ c < 23) {e : Nat} {i : Int32} : ∀ (k f : Nat) (s : zh_S) (bf : Nat) (jb : Int64) (E : zq_Ex) (x : Nat ⊕ Nat), zq_w s → zq_dV s l → zq_rd s r → zq_cu s r 1 2 x → zq_en_ l x i e → (zq_gd_ x → zq_XV s c E) → bf ≤ 2 ^ 63 → (zq_gd_ x → jb = zq_bf bf) → k ≤ 199 → k < f →
    ∃ t, zl_Reader_readExtensions_16 n f s r c i jb (nI (200 - k)) = some t ∧ zq_cu t r 1 2 (zq_clX e (zq_lo l e k bf E x).1) ∧ (zq_gd_ (zq_clX e (zq_lo l e k bf E x).1) → zq_gd_ x ∧ zq_XV t c (zq_lo l e k bf E x).2) ∧ zq_F (zq_PX r c) s t := by
  have stop : ∀ (s : zh_S) (E : zq_Ex) (x : Nat ⊕ Nat), zq_dV s l → zq_rd s r → zq_cu s r 1 2 x → zq_en_ l x i e → (zq_gd_ x → zq_XV s c E) → ∃ t, zb_Reader_readExtensions_55 n s r i = some t ∧ zq_cu t r 1 2 (zq_clX e x) ∧ (zq_gd_ (zq_clX e x) → zq_gd_ x ∧ zq_XV t c E) ∧ zq_F (zq_PX r c) s t := by
    intro s E x d rd cu hi hE
    obtain ⟨u, eu, cu', ku⟩ := zx_close n rd cu hi d.2.1
    rw [zb_Reader_readExtensions_55]
    exact zv_ck rd.1 (zv_p eu (zv_r ⟨cu', fun g => ⟨zq_cl_g g, (hE (zq_cl_g g)).kR ku rd.2.2 hc⟩, ku.px⟩))
  intro k
  induction k with
  | zero =>
    intro f s bf jb E x w d rd cu hi hE hbf hjb hk hf
    obtain ⟨f, rfl⟩ : ∃ q, f = q + 1 := ⟨f - 1, by omega⟩
    rw [zl_Reader_readExtensions_16, zq_lo]
    exact zv_t (show (200 : Int32) ≤ nI 200 by decide) (stop s E x d rd cu hi hE)
  | succ k ih =>
    intro f s bf jb E x w d rd cu hi hE hbf hjb hk hf
    obtain ⟨f, rfl⟩ : ∃ q, f = q + 1 := ⟨f - 1, by omega⟩
    rw [zl_Reader_readExtensions_16, zq_lo]
    refine zv_f (nI_ge (b := 200) (by omega) (by omega)) (zv_f (nI_ne0 (by omega) (by omega)) (zv_ck rd.1 (zv_p (zx_isNext n (tag := 48) w d rd cu hi (by decide)) ?_)))
    cases hN : zq_nxX l 48 e x with
    | false => exact zv_t rfl (stop s E x d rd cu hi hE)
    | true =>
      obtain ⟨y, e1, c1, h1, k1⟩ := zx_ext hn w d rd hc cu hi hE hbf hjb
      have l63 := zq_ext_63 d.2.2.1 e bf E x
      obtain ⟨t, e2, c2, h2, k2⟩ := ih f y.2 ((zq_ext l e bf E x).2.1 + 1) y.1 (zq_ext l e bf E x).2.2 (zq_ext l e bf E x).1 (k1.w w) (d.kX k1 rd.2.2 hc) (k1.1.rd rd) c1 (zq_en_of (fun g => hi.use (h1 g).1)) (fun g => (h1 g).2.2) (by omega) (fun g => by rw [zq_bf_s]; exact (h1 g).2.1) (by omega) (by omega)
      refine zv_f (by decide) ?_
      rw [zb_Reader_readExtensions_39]
      refine zv_ck rd.1 (zv_b (a := y.1) (b := y.2) e1 (zv_l ⟨t, ?_, c2, fun g => ⟨(h1 (h2 g).1).1, (h2 g).2⟩, k1.tr k2⟩))
      show zl_Reader_readExtensions_16 n f y.2 r c i y.1 (nI (200 - (k + 1)) + 1) = some t
      rw [nI_1, show 200 - (k + 1) + 1 = 200 - k by omega]
      exact e2
theorem zx_exs (hn : 300 ≤ n) (hc : 10 ≤ c ∧ c < 23) {e : Nat} {i : Int32} {s : zh_S} {E : zq_Ex} {x : Nat ⊕ Nat} (w : zq_w s) (d : zq_dV s l) (rd : zq_rd s r) (cu : zq_cu s r 1 2 x) (hi : zq_en_ l x i e) (hE : zq_gd_ x → zq_XV s c E) : ∃ t, zf_Reader_readExtensions n s r c i = some t ∧ zq_cu t r 1 2 (zq_exs l e E x).1 ∧ (zq_gd_ (zq_exs l e E x).1 → zq_gd_ x ∧ zq_XV t c (zq_exs l e E x).2) ∧ zq_F (zq_PX r c) s t := by
  have hr := rd.2.2
  obtain ⟨y0, e0, c0, v0, k0⟩ := zx_open n (tag := 48) w d rd cu hi (by decide)
  have g0 := @zq_op_g l 48 e x
  have w0 := k0.w w
  have rd0 := k0.1.rd rd
  have d0 := d.kR k0 hr
  have hst : zq_en_ l (zq_cur (zq_opX l 48 e x)) y0.1 (zq_val (zq_opX l 48 e x)) := zq_en_of (fun g => ⟨v0 g, by have := (g0 g).2.1; have := (hi.use (g0 g).1).2; omega⟩)
  obtain ⟨y, e1, c1, h1, k1⟩ := zx_ext hn w0 d0 rd0 hc c0 hst (E := E) (fun g => (hE (g0 g).1).kR k0 hr hc) (bf := 0) (jb := -1) (by omega) (fun _ => rfl)
  have l63 := zq_ext_63 d.2.2.1 (zq_val (zq_opX l 48 e x)) 0 E (zq_cur (zq_opX l 48 e x))
  obtain ⟨t, e2, c2, h2, k2⟩ := zx_lo (c := c) hn hc 199 (n - 1) y.2 ((zq_ext l (zq_val (zq_opX l 48 e x)) 0 E (zq_cur (zq_opX l 48 e x))).2.1 + 1) y.1 (zq_ext l (zq_val (zq_opX l 48 e x)) 0 E (zq_cur (zq_opX l 48 e x))).2.2 (zq_ext l (zq_val (zq_opX l 48 e x)) 0 E (zq_cur (zq_opX l 48 e x))).1 (k1.w w0) (d0.kX k1 hr hc) (k1.1.rd rd0) c1 (zq_en_of (fun g => hst.use (h1 g).1)) (fun g => (h1 g).2.2) (by omega) (fun g => by rw [zq_bf_s]; exact (h1 g).2.1) (by omega) (by omega)
  rw [zf_Reader_readExtensions]
  refine zv_ck rd.1 (zv_b (a := y0.1) (b := y0.2) e0 ?_)
  obtain ⟨m, rfl⟩ : ∃ m, n = m + 1 := ⟨n - 1, by omega⟩
  rw [zl_Reader_readExtensions_16]
  refine zv_f (by decide) (zv_t rfl ?_)
  rw [zb_Reader_readExtensions_39]
  exact zv_ck rd0.1 (zv_b (a := y.1) (b := y.2) e1 (zv_l ⟨t, e2, c2, fun g => ⟨(g0 (h1 (h2 g).1).1).1, (h2 g).2⟩, (k0.px.tr k1).tr k2⟩))
end XZ
/-- the signature: hash of the body, number, ends -/
def zq_sgn (l : List Nat) (whole : Nat) (x : Nat ⊕ Nat) : (Nat ⊕ Nat) × Nat :=
  let V := zq_riX l whole x
  (zq_clX l.length (zq_clX whole (zq_cur V)), zq_val V)
/-- a certificate: its numbers, its extensions, its hash -/
abbrev zq_Ce : Type := (Nat → Nat) × zq_Ex × Int32
def zq_rc (l : List Nat) : (Nat ⊕ Nat) × zq_Ce :=
  let R0 := zq_opX l 48 l.length (.inr 0)
  let R1 := zq_opX l 48 (zq_val R0) (zq_cur R0)
  let b := zq_val R1
  let V0 := zq_riX l b (zq_cur R1)
  let V1 := zq_rnX l 19 b (zq_cur V0)
  let V2 := zq_riX l b (zq_cur V1)
  let V3 := zq_riX l b (zq_cur V2)
  let V4 := zq_rnX l 19 b (zq_cur V3)
  let V5 := zq_riX l b (zq_cur V4)
  let V6 := zq_riX l b (zq_cur V5)
  let E0 : zq_Ex := (-1, 0, 0, 0, 0, false, false, false)
  let q := if zq_nxX l 48 b (zq_cur V6) then zq_exs l b E0 (zq_cur V6) else (zq_cur V6, E0)
  let X7 := zq_clX b q.1
  let S := zq_sgn l (zq_val R0) X7
  (S.1, (fun k => [zq_val V0, zq_val V1, zq_val V2, zq_val V3, zq_val V4, zq_val V5, zq_val V6, S.2].getD k 0, q.2, zq_h l (zq_pos (zq_cur R0)) (zq_pos X7)))
