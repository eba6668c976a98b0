/-! Lists of revoked ones: what is read, and the class reads it so. -/
def zq_up (f : Nat → Nat) (k v : Nat) : Nat → Nat := fun j => if j = k then v else f j
abbrev zq_Le : Type := Nat × (Nat → Nat) × (Nat → Nat)
/-- an entry -/
def zq_le (l : List Nat) (e : Nat) (x : Nat ⊕ Nat) : (Nat ⊕ Nat) × Nat × Nat :=
  let O := zq_opX l 48 e x
  let S := zq_riX l (zq_val O) (zq_cur O)
  let D := zq_riX l (zq_val O) (zq_cur S)
  (zq_clX (zq_val O) (zq_cur D), zq_val S, zq_val D)
def zq_ll (l : List Nat) (e : Nat) : Nat → zq_Le → (Nat ⊕ Nat) → (Nat ⊕ Nat) × zq_Le
  | 0, E, x => (x, E)
  | k + 1, E, x => if zq_nxX l 48 e x then zq_ll l e k (E.1 + 1, zq_up E.2.1 E.1 (zq_le l e x).2.1, zq_up E.2.2 E.1 (zq_le l e x).2.2) (zq_le l e x).1 else (x, E)
theorem zq_le_g {l : List Nat} {e : Nat} {x : Nat ⊕ Nat} (h : zq_gd_ (zq_le l e x).1) : zq_gd_ x ∧ zq_pos (zq_le l e x).1 ≤ e := by
  have hx : (zq_le l e x).1 = zq_clX (zq_val (zq_opX l 48 e x)) (zq_cur (zq_riX l (zq_val (zq_opX l 48 e x)) (zq_cur (zq_riX l (zq_val (zq_opX l 48 e x)) (zq_cur (zq_opX l 48 e x)))))) := rfl
  rw [hx] at h ⊢
  have c := zq_cl_b h
  have g1 := zq_cl_g h
  have g2 := zq_ri_g g1
  have g3 := zq_ri_g g2
  have b1 := zq_ri_b g1
  have b3 := zq_op_b g3
  rw [c.1]
  exact ⟨(zq_op_g g3).1, by omega⟩
theorem zq_ll_g {l : List Nat} {e : Nat} : ∀ (k : Nat) (E : zq_Le) (x : Nat ⊕ Nat), zq_gd_ (zq_ll l e k E x).1 → zq_gd_ x ∧ (zq_pos x ≤ e → zq_pos (zq_ll l e k E x).1 ≤ e) := by
  intro k
  induction k with
  | zero => intro E x h; exact ⟨h, fun g => g⟩
  | succ k ih =>
    intro E x h
    rw [zq_ll] at h ⊢
    by_cases c : zq_nxX l 48 e x = true
    · rw [if_pos c] at h ⊢
      obtain ⟨h1, h2⟩ := ih _ _ h
      obtain ⟨h3, h4⟩ := zq_le_g h1
      exact ⟨h3, fun _ => h2 h4⟩
    · rw [if_neg c] at h ⊢
      exact ⟨h, fun g => g⟩
abbrev zq_PL (r L : Nat) (a k : Nat) : Prop := zq_PR r a k ∨ a = L ∧ (k ≤ 4 ∨ k = 8) ∨ a = L + 1 ∨ a = L + 2
abbrev zq_lid (L : Nat) : Prop := 23 ≤ L ∧ L < 44 ∧ (L - 23) % 3 = 0
theorem zq_F.pl {s t : zh_S} {r L : Nat} (f : zq_F (zq_PR r) s t) : zq_F (zq_PL r L) s t := f.mo (fun _ _ h => Or.inl h)
theorem zq_L.kL {s t : zh_S} {l : List Nat} {r L : Nat} (d : zq_dV s l) (f : zq_F (zq_PL r L) s t) (hr : 62 ≤ r) (hL : zq_lid L) : zq_dV t l := d.keep f (by omega) (fun j => by omega)
theorem zw_L {s : zh_S} (w : zq_w s) {L : Nat} (h : zq_lid L) : zh_oo s L 3 := by
  refine ⟨?_, w.1 L (by omega)⟩
  rw [w.2.1 L (by omega)]
  unfold zq_K
  rw [if_neg (by omega), if_neg (by omega), if_pos (by omega), if_pos h.2.2]
theorem zw_L6 {s : zh_S} (w : zq_w s) {L : Nat} (h : zq_lid L) : zh_R s L 6 = some (L + 1) ∧ zh_R s L 7 = some (L + 2) := by
  have e6 : zq_R L 6 = some (L + 1) := by
    unfold zq_R
    rw [if_neg (by omega), if_neg (by omega), if_pos h, if_pos rfl]
  have e7 : zq_R L 7 = some (L + 2) := by
    unfold zq_R
    rw [if_neg (by omega), if_neg (by omega), if_pos h, if_neg (by omega), if_pos rfl]
  exact ⟨by rw [w.2.2 L 6 (by rw [e6]; rfl), e6], by rw [w.2.2 L 7 (by rw [e7]; rfl), e7]⟩
theorem zw_LA {s : zh_S} (w : zq_w s) {L j k : Nat} (h : zq_lid L) (hj : j = 1 ∨ j = 2) (hk : k < 4) : zh_oa s (L + j) 1 (nI k) := by
  have e : zh_K s (L + j) = (1, 4) := by
    rw [w.2.1 (L + j) (by omega)]
    unfold zq_K
    rw [if_neg (by omega), if_neg (by omega), if_pos (by omega), if_neg (by omega)]
  exact ⟨by rw [e], w.1 _ (by omega), nI_pos (by omega), by rw [e, nI_clamp (by omega)]; exact hk⟩
def zq_LV (s : zh_S) (L : Nat) (E : zq_Le) : Prop := ∀ t, t < E.1 → zh_J s (L + 1) t = lN (E.2.1 t) ∧ zh_J s (L + 2) t = lN (E.2.2 t)
section LL
variable {n : Nat} {r L : Nat} {l : List Nat}
theorem zx_sigR (hn : 300 ≤ n) (hL : zq_lid L) {s : zh_S} {x : Nat ⊕ Nat} {i j : Int32} {st wh : Nat} (w : zq_w s) (d : zq_dV s l) (rd : zq_rd s r) (cu : zq_cu s r 1 2 x) (hi : zq_en_ l x i wh) (hj : zq_gd_ x → j = nI st ∧ st ≤ 200 ∧ zq_pos x ≤ l.length) : ∃ t, zf_Reader_readSignature_R n s r L j i = some t ∧ zq_cu t r 1 2 (zq_sgn l wh x).1 ∧ (zq_gd_ (zq_sgn l wh x).1 → zq_gd_ x ∧ zh_I t L 4 = zq_h l st (zq_pos x) ∧ zh_J t L 3 = lN (zq_sgn l wh x).2) ∧ (∀ a k, ¬ (a = L ∧ k = 3) → a < 62 → zh_J t a k = zh_J s a k) ∧ (∀ a k, ¬ (a = L ∧ k = 4) → a < 62 → zh_I t a k = zh_I s a k) ∧ zq_F (zq_PL r L) s t := by
  have hr := rd.2.2
  have hl := d.2.1
  rw [zf_Reader_readSignature_R]
  refine zv_ck rd.1 ?_
  cases x with
  | inl f => exact zv_f (zq_cu_ne cu) (zv_r ⟨cu, (fun ⟨p, q⟩ => by cases q), fun _ _ _ _ => rfl, fun _ _ _ _ => rfl, zq_F.rf⟩)
  | inr p =>
    obtain ⟨rfl, hs2, hp2⟩ := hj ⟨p, rfl⟩
    have hp3 : p ≤ l.length := hp2
    refine zv_t cu.1 (zv_p rd.2.1 (zv_ck ⟨zw_K1 w, zw_N1 w⟩ (zv_p (a := zq_h l st p) ?_ ?_)))
    · show zf_Draft_hash n s 1 (nI st) (zh_I s r 1) = _
      rw [cu.2.1]; exact zp_hash hn w d hp3 hs2
    have f1 : zq_F (zq_PL r L) s (zh_uI s L 4 (zq_h l st p)) := zq_F.rf.uI (Or.inr (Or.inl ⟨rfl, by omega⟩)) _
    have w1 := f1.w w
    have rd1 := f1.1.rd rd
    have d1 := d.kL f1 hr hL
    obtain ⟨y, e2, c2, v2, k2⟩ := zx_int hn w1 d1 rd1 (cu.kc (c := L) (k := 4) (by omega) (zq_h l st p)) hi
    have g2 := @zq_ri_g l wh (.inr p)
    have f2 := f1.tr k2.pl
    have w2 := f2.w w
    have f3 : zq_F (zq_PL r L) s (zh_uJ y.2 L 3 y.1) := f2.uJ (Or.inr (Or.inl ⟨rfl, by omega⟩)) _
    have rd3 := f3.1.rd rd
    obtain ⟨t4, e4, c4, k4⟩ := zx_close n rd3 (c2.kj (c := L) (k := 3) y.1) (zq_en_of (fun g => hi.use (g2 g))) hl
    have f4 := f3.tr k4.pl
    have rd4 := f4.1.rd rd
    have w4 := f4.w w
    have d4 := d.kL f4 hr hL
    obtain ⟨t5, e5, c5, k5⟩ := zx_close n (e := l.length) (i := zh_I t4 1 1) rd4 c4 (zq_en_of (fun _ => ⟨d4.1, Nat.le_refl _⟩)) hl
    have bJ : ∀ a k, a < 62 → zh_J t5 a k = zh_J (zh_uJ y.2 L 3 y.1) a k := fun a k ha => ((k5.2 a k (by omega)).2).trans (k4.2 a k (by omega)).2
    have bI : ∀ a k, a < 62 → zh_I t5 a k = zh_I y.2 a k := fun a k ha => ((k5.2 a k (by omega)).1).trans (k4.2 a k (by omega)).1
    refine zv_ck (zw_L w hL) (zv_l (zv_b (a := y.1) (b := y.2) e2 (zv_ck (zw_L w2 hL) (zv_l (zv_ck rd3.1 (zv_p e4 (zv_ck rd4.1 (zv_p rd4.2.1 (zv_ck ⟨zw_K1 w4, zw_N1 w4⟩ (zv_p e5 (zv_r ⟨c5, fun g => ?_, fun a k h1 h2 => ?_, fun a k h1 h2 => ?_, f4.tr k5.pl⟩)))))))))))
    · have gg := zq_cl_g (zq_cl_g g)
      refine ⟨⟨p, rfl⟩, ?_, ?_⟩
      · rw [bI L 4 (by omega), (k2.2 L 4 (by omega)).1, zs_II, if_pos ⟨rfl, rfl⟩]; rfl
      · rw [bJ L 3 (by omega), zs_JJ, if_pos ⟨rfl, rfl⟩]; exact v2 gg
    · rw [bJ a k h2, zs_JJ, if_neg h1, (k2.2 a k (by omega)).2]; rfl
    · rw [bI a k h2, (k2.2 a k (by omega)).1, zs_II, if_neg h1]
theorem zx_ll (hn : 300 ≤ n) (hL : zq_lid L) {i2 i3 i4 i5 : Int32} {e wh st b : Nat} : ∀ (k f : Nat) (s : zh_S) (E : zq_Le) (x : Nat ⊕ Nat), zq_w s → zq_dV s l → zq_rd s r → zq_cu s r 1 2 x → zq_en_ l x i5 e → (zq_gd_ x → zq_LV s L E) → zh_I s L 8 = nI E.1 → E.1 + k = 4 → k < f → (zq_gd_ x → i2 = nI wh ∧ wh ≤ l.length) → (zq_gd_ x → i3 = nI st ∧ st ≤ 200) → (zq_gd_ x → i4 = nI b ∧ b ≤ l.length ∧ e ≤ b ∧ zq_pos x ≤ e) →
    ∃ y, zl_Reader_readList_78 n f s r L i2 i3 i4 i5 (nI E.1) = some y ∧ y.1 = zh_I y.2 r 2 ∧ zq_cu y.2 r 1 2 (zq_sgn l wh (zq_clX b (zq_clX e (zq_ll l e k E x).1))).1 ∧ (zq_gd_ (zq_sgn l wh (zq_clX b (zq_clX e (zq_ll l e k E x).1))).1 → zq_gd_ x ∧ zq_pos (zq_clX b (zq_clX e (zq_ll l e k E x).1)) = b ∧ zh_J y.2 L 3 = lN (zq_sgn l wh (zq_clX b (zq_clX e (zq_ll l e k E x).1))).2 ∧ zh_I y.2 L 4 = zq_h l st (zq_pos (zq_clX b (zq_clX e (zq_ll l e k E x).1))) ∧ zh_I y.2 L 8 = nI (zq_ll l e k E x).2.1 ∧ zq_LV y.2 L (zq_ll l e k E x).2) ∧ (∀ j, j < 3 → zh_J y.2 L j = zh_J s L j) ∧ zq_F (zq_PL r L) s y.2 := by
  have stop : ∀ (s : zh_S) (E : zq_Le) (x : Nat ⊕ Nat), zq_w s → zq_dV s l → zq_rd s r → zq_cu s r 1 2 x → zq_en_ l x i5 e → (zq_gd_ x → zq_LV s L E) → zh_I s L 8 = nI E.1 → (zq_gd_ x → i2 = nI wh ∧ wh ≤ l.length) → (zq_gd_ x → i3 = nI st ∧ st ≤ 200) → (zq_gd_ x → i4 = nI b ∧ b ≤ l.length ∧ e ≤ b ∧ zq_pos x ≤ e) → ∃ y, zb_Reader_readList_153 n s r L i2 i3 i4 i5 = some y ∧ y.1 = zh_I y.2 r 2 ∧ zq_cu y.2 r 1 2 (zq_sgn l wh (zq_clX b (zq_clX e x))).1 ∧ (zq_gd_ (zq_sgn l wh (zq_clX b (zq_clX e x))).1 → zq_gd_ x ∧ zq_pos (zq_clX b (zq_clX e x)) = b ∧ zh_J y.2 L 3 = lN (zq_sgn l wh (zq_clX b (zq_clX e x))).2 ∧ zh_I y.2 L 4 = zq_h l st (zq_pos (zq_clX b (zq_clX e x))) ∧ zh_I y.2 L 8 = nI E.1 ∧ zq_LV y.2 L E) ∧ (∀ j, j < 3 → zh_J y.2 L j = zh_J s L j) ∧ zq_F (zq_PL r L) s y.2 := by
    intro s E x w d rd cu hi hE h8 h2 h3 h4
    have hr := rd.2.2
    have hl := d.2.1
    obtain ⟨u, eu, cu1, ku⟩ := zx_close n rd cu hi hl
    have ge := @zq_cl_g e x
    have rdu := ku.1.rd rd
    obtain ⟨v, ev, cv, kv⟩ := zx_close n (e := b) (i := i4) (l := l) rdu cu1 (zq_en_of (fun g => ⟨(h4 (ge g)).1, (h4 (ge g)).2.1⟩)) hl
    have gb := @zq_cl_g b (zq_clX e x)
    have kuv := ku.tr kv
    have rdv := kuv.1.rd rd
    have hpb : zq_gd_ (zq_clX b (zq_clX e x)) → zq_pos (zq_clX b (zq_clX e x)) = b := fun g => by
      have c1 := zq_cl_b g
      have c2 := zq_cl_b (gb g)
      rw [c1.1]
      have q1 := c1.2
      rw [c2.1] at q1 ⊢
      have := (h4 (ge (gb g))).2.2
      omega
    obtain ⟨t, et, ct, ht, hJ, hI, kt⟩ := zx_sigR (st := st) (wh := wh) hn hL (kuv.w w) (d.kR kuv hr) rdv cv (zq_en_of (fun g => h2 (ge (gb g)))) (fun g => ⟨(h3 (ge (gb g))).1, (h3 (ge (gb g))).2, by rw [hpb g]; exact (h4 (ge (gb g))).2.1⟩)
    have ft := kuv.pl.tr kt
    have uJ : ∀ a k, a < 62 → zh_J v a k = zh_J s a k := fun a k ha => (kuv.2 a k (by omega)).2
    have uI : ∀ a k, a < 62 → zh_I v a k = zh_I s a k := fun a k ha => (kuv.2 a k (by omega)).1
    rw [zb_Reader_readList_153]
    refine zv_ck rd.1 (zv_p eu (zv_ck rdu.1 (zv_p ev (zv_ck rdv.1 (zv_p et (zv_ck (ft.1.rd rd).1 (zv_r ⟨rfl, ct, fun g => ?_, fun j hj => ?_, ft⟩)))))))
    · obtain ⟨q1, q2, q3⟩ := ht g
      refine ⟨ge (gb q1), hpb q1, q3, q2, ?_, fun t' ht' => ?_⟩
      · rw [hI L 8 (by omega) (by omega), uI L 8 (by omega)]; exact h8
      · rw [hJ (L + 1) t' (by omega) (by omega), hJ (L + 2) t' (by omega) (by omega), uJ (L + 1) t' (by omega), uJ (L + 2) t' (by omega)]
        exact hE (ge (gb q1)) t' ht'
    · rw [hJ L j (by omega) (by omega), uJ L j (by omega)]
  intro k
  induction k with
  | zero =>
    intro f s E x w d rd cu hi hE h8 hk hf h2 h3 h4
    obtain ⟨f, rfl⟩ : ∃ q, f = q + 1 := ⟨f - 1, by omega⟩
    rw [zl_Reader_readList_78]
    exact zv_t (nI_le (a := 4) (by omega) (by omega)) (stop s E x w d rd cu hi hE h8 h2 h3 h4)
  | succ k ih =>
    intro f s E x w d rd cu hi hE h8 hk hf h2 h3 h4
    obtain ⟨f, rfl⟩ : ∃ q, f = q + 1 := ⟨f - 1, by omega⟩
    have hr := rd.2.2
    have hl := d.2.1
    rw [zl_Reader_readList_78]
    refine zv_f (nI_ge (b := 4) (by omega) (by omega)) (zv_ck rd.1 (zv_p (zx_isNext n (tag := 48) w d rd cu hi (by decide)) ?_))
    cases hN : zq_nxX l 48 e x with
    | false =>
      have e0 : zq_ll l e (k + 1) E x = (x, E) := by rw [zq_ll, hN]; rfl
      rw [e0]
      exact zv_t rfl (stop s E x w d rd cu hi hE h8 h2 h3 h4)
    | true =>
      have e0 : zq_ll l e (k + 1) E x = zq_ll l e k (E.1 + 1, zq_up E.2.1 E.1 (zq_le l e x).2.1, zq_up E.2.2 E.1 (zq_le l e x).2.2) (zq_le l e x).1 := by rw [zq_ll, hN]; rfl
      rw [e0]
      obtain ⟨y0, e1, c0, v0, k0⟩ := zx_open n (tag := 48) w d rd cu hi (by decide)
      have g0 := @zq_op_g l 48 e x
      have f0 := k0.pl (L := L)
      have hst : zq_en_ l (zq_cur (zq_opX l 48 e x)) y0.1 (zq_val (zq_opX l 48 e x)) := zq_en_of (fun g => ⟨v0 g, by have := (g0 g).2.1; have := (hi.use (g0 g).1).2; omega⟩)
      have w0 := f0.w w
      have rd0 := f0.1.rd rd
      obtain ⟨y1, e2, c1, v1, k1⟩ := zx_int hn w0 (d.kL f0 hr hL) rd0 c0 hst
      have g1 := @zq_ri_g l (zq_val (zq_opX l 48 e x)) (zq_cur (zq_opX l 48 e x))
      have f1 := f0.tr (k1.pl (L := L))
      have w1 := f1.w w
      have f2 : zq_F (zq_PL r L) s (zh_uJ y1.2 (L + 1) E.1 y1.1) := f1.uJ (Or.inr (Or.inr (Or.inl rfl))) _
      have w2 := f2.w w
      have rd2 := f2.1.rd rd
      have c2 := c1.kj (c := L + 1) (k := E.1) y1.1
      obtain ⟨y3, e3, c3, v3, k3⟩ := zx_int hn w2 (d.kL f2 hr hL) rd2 c2 (zq_en_of (fun g => hst.use (g1 g)))
      have g3 := @zq_ri_g l (zq_val (zq_opX l 48 e x)) (zq_cur (zq_riX l (zq_val (zq_opX l 48 e x)) (zq_cur (zq_opX l 48 e x))))
      have f3 := f2.tr (k3.pl (L := L))
      have w3 := f3.w w
      have f4 : zq_F (zq_PL r L) s (zh_uJ y3.2 (L + 2) E.1 y3.1) := f3.uJ (Or.inr (Or.inr (Or.inr rfl))) _
      have w4 := f4.w w
      have i8 : zh_I (zh_uJ y3.2 (L + 2) E.1 y3.1) L 8 = nI E.1 := by
        show zh_I y3.2 L 8 = _
        rw [(k3.2 L 8 (by omega)).1]
        show zh_I y1.2 L 8 = _
        rw [(k1.2 L 8 (by omega)).1, (k0.2 L 8 (by omega)).1]; exact h8
      have f5 : zq_F (zq_PL r L) s (zh_uI (zh_uJ y3.2 (L + 2) E.1 y3.1) L 8 (nI (E.1 + 1))) := f4.uI (Or.inr (Or.inl ⟨rfl, Or.inr rfl⟩)) _
      have rd5 := f5.1.rd rd
      have c5 := (c3.kj (c := L + 2) (k := E.1) y3.1).kc (c := L) (k := 8) (by omega) (nI (E.1 + 1))
      obtain ⟨t6, e6, c6, k6⟩ := zx_close n rd5 c5 (zq_en_of (fun g => hst.use (g1 (g3 g)))) hl
      have f6 := f5.tr (k6.pl (L := L))
      have gl : zq_gd_ (zq_le l e x).1 → zq_gd_ (zq_cur (zq_riX l (zq_val (zq_opX l 48 e x)) (zq_cur (zq_riX l (zq_val (zq_opX l 48 e x)) (zq_cur (zq_opX l 48 e x)))))) := fun g => zq_cl_g g
      have gx : zq_gd_ (zq_le l e x).1 → zq_gd_ x := fun g => (zq_le_g g).1
      have sJ : ∀ a j, a < 62 → zh_J t6 a j = if a = L + 2 ∧ j = E.1 then y3.1 else if a = L + 1 ∧ j = E.1 then y1.1 else zh_J s a j := fun a j ha => by
        rw [(k6.2 a j (by omega)).2]
        show zh_J (zh_uJ y3.2 (L + 2) E.1 y3.1) a j = _
        rw [zs_JJ]
        by_cases q1 : a = L + 2 ∧ j = E.1
        · rw [if_pos q1, if_pos q1]
        · rw [if_neg q1, if_neg q1, (k3.2 a j (by omega)).2, zs_JJ]
          by_cases q2 : a = L + 1 ∧ j = E.1
          · rw [if_pos q2, if_pos q2]
          · rw [if_neg q2, if_neg q2, (k1.2 a j (by omega)).2, (k0.2 a j (by omega)).2]
      have LV6 : zq_gd_ (zq_le l e x).1 → zq_LV t6 L (E.1 + 1, zq_up E.2.1 E.1 (zq_le l e x).2.1, zq_up E.2.2 E.1 (zq_le l e x).2.2) := fun g t' ht' => by
        have ht' : t' < E.1 + 1 := ht'
        refine ⟨?_, ?_⟩
        · show _ = lN (zq_up E.2.1 E.1 (zq_le l e x).2.1 t')
          rw [sJ (L + 1) t' (by omega), if_neg (by omega)]
          unfold zq_up
          by_cases q : t' = E.1
          · rw [if_pos (show L + 1 = L + 1 ∧ t' = E.1 from ⟨rfl, q⟩), if_pos q]; exact v1 (g3 (gl g))
          · rw [if_neg (show ¬ (L + 1 = L + 1 ∧ t' = E.1) from fun h => q h.2), if_neg q]; exact (hE (gx g) t' (by omega)).1
        · show _ = lN (zq_up E.2.2 E.1 (zq_le l e x).2.2 t')
          rw [sJ (L + 2) t' (by omega)]
          unfold zq_up
          by_cases q : t' = E.1
          · rw [if_pos (show L + 2 = L + 2 ∧ t' = E.1 from ⟨rfl, q⟩), if_pos q]; exact v3 (gl g)
          · rw [if_neg (show ¬ (L + 2 = L + 2 ∧ t' = E.1) from fun h => q h.2), if_neg (show ¬ (L + 2 = L + 1 ∧ t' = E.1) from fun h => q h.2), if_neg q]; exact (hE (gx g) t' (by omega)).2
      obtain ⟨y, ey, hy1, cy, hy, hyJ, ky⟩ := ih f t6 (E.1 + 1, zq_up E.2.1 E.1 (zq_le l e x).2.1, zq_up E.2.2 E.1 (zq_le l e x).2.2) (zq_le l e x).1 (f6.w w) (d.kL f6 hr hL) (f6.1.rd rd) c6 (zq_en_of (fun g => hi.use (gx g))) LV6 (by rw [(k6.2 L 8 (by omega)).1, zs_II, if_pos ⟨rfl, rfl⟩]) (by show E.1 + 1 + k = 4; omega) (by omega) (fun g => h2 (gx g)) (fun g => h3 (gx g)) (fun g => ⟨(h4 (gx g)).1, (h4 (gx g)).2.1, (h4 (gx g)).2.2.1, (zq_le_g g).2⟩)
      refine zv_f (by decide) (zv_b (a := y0.1) (b := y0.2) e1 (zv_ck (zw_L w0 hL) (zv_p (zw_L6 w0 hL).1 (zv_ck rd0.1 (zv_b (a := y1.1) (b := y1.2) e2 (zv_ck (zw_LA w1 hL (Or.inl rfl) (by omega)) ?_))))))
      simp only [nI_clamp (show E.1 < 2 ^ 31 by omega)]
      refine zv_l (zv_ck (zw_L w2 hL) (zv_p (zw_L6 w2 hL).2 (zv_ck rd2.1 (zv_b (a := y3.1) (b := y3.2) e3 (zv_ck (zw_LA w3 hL (Or.inr rfl) (by omega)) (zv_l (zv_ck (zw_L w4 hL) ?_)))))))
      rw [i8, nI_1]
      refine zv_l (zv_ck rd5.1 (zv_p e6 (zv_l ⟨y, ey, hy1, cy, fun g => ?_, fun j hj => ?_, f6.tr ky⟩)))
      · obtain ⟨q1, q2⟩ := hy g
        exact ⟨gx q1, q2⟩
      · rw [hyJ j hj, sJ L j (by omega), if_neg (by omega), if_neg (by omega)]
end LL
