/-! Steps from any cursor: a fault stays, and nothing more is read. -/
def zq_cur (x : Nat ⊕ (Nat × Nat)) : Nat ⊕ Nat := match x with
  | .inl f => .inl f
  | .inr (_, p) => .inr p
def zq_val (x : Nat ⊕ (Nat × Nat)) : Nat := match x with
  | .inl _ => 0
  | .inr (v, _) => v
def zq_pos (x : Nat ⊕ Nat) : Nat := match x with
  | .inl _ => 0
  | .inr p => p
def zq_gd_ (x : Nat ⊕ Nat) : Prop := ∃ p, x = .inr p
def zq_opX (l : List Nat) (tag e : Nat) (x : Nat ⊕ Nat) : Nat ⊕ (Nat × Nat) := match x with
  | .inl f => .inl f
  | .inr p => zq_op l tag e p
def zq_riX (l : List Nat) (e : Nat) (x : Nat ⊕ Nat) : Nat ⊕ (Nat × Nat) := match x with
  | .inl f => .inl f
  | .inr p => zq_ri l e p
def zq_rnX (l : List Nat) (tag e : Nat) (x : Nat ⊕ Nat) : Nat ⊕ (Nat × Nat) := match x with
  | .inl f => .inl f
  | .inr p => zq_rn l tag e p
def zq_clX (e : Nat) (x : Nat ⊕ Nat) : Nat ⊕ Nat := match x with
  | .inl f => .inl f
  | .inr p => zq_cl e p
def zq_nxX (l : List Nat) (tag e : Nat) (x : Nat ⊕ Nat) : Bool := match x with
  | .inl _ => false
  | .inr p => zq_nx l tag e p
/-- a TRUE that may be missing -/
def zq_rf (l : List Nat) (e p : Nat) : Nat ⊕ (Nat × Nat) := if zq_nx l 1 e p then (match zq_op l 1 e p with
  | .inl f => .inl f
  | .inr (a, q) => if a - q = 1 ∧ l.getD q 0 = 255 then .inr (1, a) else .inl (4 + 16 * p)) else .inr (0, p)
def zq_rfX (l : List Nat) (e : Nat) (x : Nat ⊕ Nat) : Nat ⊕ (Nat × Nat) := match x with
  | .inl f => .inl f
  | .inr p => zq_rf l e p
/-- the end that a step is given is a place of the draft, if there is no fault -/
def zq_en_ (l : List Nat) (x : Nat ⊕ Nat) (i : Int32) (e : Nat) : Prop := ∀ p, x = .inr p → i = nI e ∧ e ≤ l.length
theorem zq_op_g {l : List Nat} {tag e : Nat} {x : Nat ⊕ Nat} (h : zq_gd_ (zq_cur (zq_opX l tag e x))) : zq_gd_ x ∧ zq_val (zq_opX l tag e x) ≤ e ∧ zq_pos (zq_cur (zq_opX l tag e x)) ≤ zq_val (zq_opX l tag e x) := by
  obtain ⟨p, h⟩ := h
  cases x with
  | inl f => cases h
  | inr q =>
    refine ⟨⟨q, rfl⟩, ?_⟩
    simp only [zq_opX] at h ⊢
    cases ho : zq_op l tag e q with
    | inl f => rw [ho] at h; cases h
    | inr aq =>
      have := zq_op_le ho
      exact ⟨this.2.2, this.2.1⟩
theorem zq_ri_g {l : List Nat} {e : Nat} {x : Nat ⊕ Nat} (h : zq_gd_ (zq_cur (zq_riX l e x))) : zq_gd_ x := by
  obtain ⟨p, h⟩ := h
  cases x with
  | inl f => cases h
  | inr q => exact ⟨q, rfl⟩
theorem zq_rn_g {l : List Nat} {tag e : Nat} {x : Nat ⊕ Nat} (h : zq_gd_ (zq_cur (zq_rnX l tag e x))) : zq_gd_ x ∧ zq_nm (zq_val (zq_rnX l tag e x)) = true := by
  obtain ⟨p, h⟩ := h
  cases x with
  | inl f => cases h
  | inr q =>
    refine ⟨⟨q, rfl⟩, ?_⟩
    simp only [zq_rnX, zq_rn] at h ⊢
    cases ho : zq_op l tag e q with
    | inl f => rw [ho] at h; cases h
    | inr aq =>
      rw [ho] at h
      obtain ⟨a, b⟩ := aq
      simp only [] at h ⊢
      by_cases c : a - b ≤ 8 ∧ zq_nm (zq_nv l (a - b) b) = true
      · rw [if_pos c]; exact c.2
      · rw [if_neg c] at h; cases h
theorem zq_cl_g {e : Nat} {x : Nat ⊕ Nat} (h : zq_gd_ (zq_clX e x)) : zq_gd_ x := by
  obtain ⟨p, h⟩ := h
  cases x with
  | inl f => cases h
  | inr q => exact ⟨q, rfl⟩
theorem zq_rf_g {l : List Nat} {e : Nat} {x : Nat ⊕ Nat} (h : zq_gd_ (zq_cur (zq_rfX l e x))) : zq_gd_ x := by
  obtain ⟨p, h⟩ := h
  cases x with
  | inl f => cases h
  | inr q => exact ⟨q, rfl⟩
theorem zq_po_cur {o kp kf : Nat} {x : Nat ⊕ (Nat × Nat)} {y : Int32 × zh_S} (h : zq_po o kp kf x y) : zq_cu y.2 o kp kf (zq_cur x) ∧ (zq_gd_ (zq_cur x) → y.1 = nI (zq_val x)) := by
  cases x with
  | inl f => exact ⟨h, fun ⟨p, q⟩ => by cases q⟩
  | inr v => exact ⟨h.2, fun _ => h.1⟩
theorem zq_pv_cur {o kp kf : Nat} {x : Nat ⊕ (Nat × Nat)} {y : Int64 × zh_S} (h : zq_pv o kp kf x y) : zq_cu y.2 o kp kf (zq_cur x) ∧ (zq_gd_ (zq_cur x) → y.1 = lN (zq_val x)) := by
  cases x with
  | inl f => exact ⟨h, fun ⟨p, q⟩ => by cases q⟩
  | inr v => exact ⟨h.2, fun _ => h.1⟩
section RX
variable {n : Nat} {s : zh_S} {r : Nat} {l : List Nat} {tag e : Nat} {x : Nat ⊕ Nat} {i : Int32}
theorem zx_open (n : Nat) (w : zq_w s) (d : zq_dV s l) (rd : zq_rd s r) (c : zq_cu s r 1 2 x) (hi : zq_en_ l x i e) (ht : tag < 256) : ∃ y, zf_Reader_open n s r (nI tag) i = some y ∧ zq_cu y.2 r 1 2 (zq_cur (zq_opX l tag e x)) ∧ (zq_gd_ (zq_cur (zq_opX l tag e x)) → y.1 = nI (zq_val (zq_opX l tag e x))) ∧ zq_F (zq_PR r) s y.2 := by
  cases x with
  | inl f =>
    obtain ⟨z, e1⟩ := zp_open1 n rd c (nI tag) i
    exact ⟨_, e1, c, (fun ⟨p, q⟩ => by cases q), zq_F.rf⟩
  | inr p =>
    obtain ⟨rfl, he⟩ := hi p rfl
    obtain ⟨y, e1, g1, k1⟩ := zp_open n w d rd c he ht
    exact ⟨y, e1, (zq_po_cur g1).1, (zq_po_cur g1).2, k1⟩
theorem zx_head (n : Nat) (w : zq_w s) (d : zq_dM s l) (c : zq_cu s 44 9 10 x) (hi : zq_en_ l x i e) (ht : tag < 256) : ∃ y, zf_M_head n s 44 (nI tag) i = some y ∧ zq_cu y.2 44 9 10 (zq_cur (zq_opX l tag e x)) ∧ (zq_gd_ (zq_cur (zq_opX l tag e x)) → y.1 = nI (zq_val (zq_opX l tag e x))) ∧ zq_F zq_PS s y.2 := by
  cases x with
  | inl f => exact ⟨_, zp_head1 n w c (nI tag) i, c, (fun ⟨p, q⟩ => by cases q), zq_F.rf⟩
  | inr p =>
    obtain ⟨rfl, he⟩ := hi p rfl
    obtain ⟨y, e1, g1, k1⟩ := zp_head n w d c he ht
    exact ⟨y, e1, (zq_po_cur g1).1, (zq_po_cur g1).2, k1⟩
theorem zx_int (hn : 300 ≤ n) (w : zq_w s) (d : zq_dV s l) (rd : zq_rd s r) (c : zq_cu s r 1 2 x) (hi : zq_en_ l x i e) : ∃ y, zf_Reader_readInteger n s r i = some y ∧ zq_cu y.2 r 1 2 (zq_cur (zq_riX l e x)) ∧ (zq_gd_ (zq_cur (zq_riX l e x)) → y.1 = lN (zq_val (zq_riX l e x))) ∧ zq_F (zq_PR r) s y.2 := by
  cases x with
  | inl f => exact ⟨_, zp_rint1 n rd c i, c, (fun ⟨p, q⟩ => by cases q), zq_F.rf⟩
  | inr p =>
    obtain ⟨rfl, he⟩ := hi p rfl
    obtain ⟨y, e1, g1, k1⟩ := zp_rint hn w d rd c he
    exact ⟨y, e1, (zq_pv_cur g1).1, (zq_pv_cur g1).2, k1⟩
theorem zx_num (hn : 300 ≤ n) (w : zq_w s) (d : zq_dM s l) (c : zq_cu s 44 9 10 x) (hi : zq_en_ l x i e) : ∃ y, zf_M_number n s 44 i = some y ∧ zq_cu y.2 44 9 10 (zq_cur (zq_riX l e x)) ∧ (zq_gd_ (zq_cur (zq_riX l e x)) → y.1 = lN (zq_val (zq_riX l e x))) ∧ zq_F zq_PS s y.2 := by
  cases x with
  | inl f => exact ⟨_, zp_num1 n w c i, c, (fun ⟨p, q⟩ => by cases q), zq_F.rf⟩
  | inr p =>
    obtain ⟨rfl, he⟩ := hi p rfl
    obtain ⟨y, e1, g1, k1⟩ := zp_num hn w d c he
    exact ⟨y, e1, (zq_pv_cur g1).1, (zq_pv_cur g1).2, k1⟩
theorem zx_name (hn : 300 ≤ n) (w : zq_w s) (d : zq_dV s l) (rd : zq_rd s r) (c : zq_cu s r 1 2 x) (hi : zq_en_ l x i e) (ht : tag < 256) : ∃ y, zf_Reader_readName n s r (nI tag) i = some y ∧ zq_cu y.2 r 1 2 (zq_cur (zq_rnX l tag e x)) ∧ (zq_gd_ (zq_cur (zq_rnX l tag e x)) → y.1 = lN (zq_val (zq_rnX l tag e x))) ∧ zq_F (zq_PR r) s y.2 := by
  cases x with
  | inl f => exact ⟨_, zp_rname1 n rd c (nI tag) i, c, (fun ⟨p, q⟩ => by cases q), zq_F.rf⟩
  | inr p =>
    obtain ⟨rfl, he⟩ := hi p rfl
    obtain ⟨y, e1, g1, k1⟩ := zp_rname hn w d rd c he ht
    exact ⟨y, e1, (zq_pv_cur g1).1, (zq_pv_cur g1).2, k1⟩
theorem zx_title (hn : 300 ≤ n) (w : zq_w s) (d : zq_dM s l) (c : zq_cu s 44 9 10 x) (hi : zq_en_ l x i e) (ht : tag < 256) : ∃ y, zf_M_title n s 44 (nI tag) i = some y ∧ zq_cu y.2 44 9 10 (zq_cur (zq_rnX l tag e x)) ∧ (zq_gd_ (zq_cur (zq_rnX l tag e x)) → y.1 = lN (zq_val (zq_rnX l tag e x))) ∧ zq_F zq_PS s y.2 := by
  cases x with
  | inl f => exact ⟨_, zp_title1 n w c (nI tag) i, c, (fun ⟨p, q⟩ => by cases q), zq_F.rf⟩
  | inr p =>
    obtain ⟨rfl, he⟩ := hi p rfl
    obtain ⟨y, e1, g1, k1⟩ := zp_title hn w d c he ht
    exact ⟨y, e1, (zq_pv_cur g1).1, (zq_pv_cur g1).2, k1⟩
theorem zx_close (n : Nat) (rd : zq_rd s r) (c : zq_cu s r 1 2 x) (hi : zq_en_ l x i e) (hl : l.length ≤ 200) : ∃ t, zf_Reader_close n s r i = some t ∧ zq_cu t r 1 2 (zq_clX e x) ∧ zq_F (zq_PR r) s t := by
  cases x with
  | inl f => exact ⟨s, zp_close1 n rd c i, c, zq_F.rf⟩
  | inr p =>
    obtain ⟨rfl, he⟩ := hi p rfl
    exact zp_close n rd c (by omega)
theorem zx_done (n : Nat) (w : zq_w s) (c : zq_cu s 44 9 10 x) (hi : zq_en_ l x i e) (hl : l.length ≤ 200) : ∃ t, zf_M_done n s 44 i = some t ∧ zq_cu t 44 9 10 (zq_clX e x) ∧ zq_F zq_PS s t := by
  cases x with
  | inl f => exact ⟨s, zp_done1 n w c i, c, zq_F.rf⟩
  | inr p =>
    obtain ⟨rfl, he⟩ := hi p rfl
    exact zp_done n w c (by omega)
theorem zx_isNext (n : Nat) (w : zq_w s) (d : zq_dV s l) (rd : zq_rd s r) (c : zq_cu s r 1 2 x) (hi : zq_en_ l x i e) (ht : tag < 256) : zf_Reader_isNext n s r (nI tag) i = some (if zq_nxX l tag e x then 1 else 0) := by
  cases x with
  | inl f => exact zp_isNext1 n rd c _ _
  | inr p =>
    obtain ⟨rfl, he⟩ := hi p rfl
    exact zp_isNext n w d rd c he ht
theorem zx_next (n : Nat) (w : zq_w s) (d : zq_dM s l) (c : zq_cu s 44 9 10 x) (hi : zq_en_ l x i e) (ht : tag < 256) : zf_M_next n s 44 (nI tag) i = some (if zq_nxX l tag e x then 1 else 0) := by
  cases x with
  | inl f => exact zp_next1 n w c _ _
  | inr p =>
    obtain ⟨rfl, he⟩ := hi p rfl
    exact zp_next n w d c he ht
/-- a fault is told, unless there is one -/
def zq_fl (k place : Nat) (x : Nat ⊕ Nat) : Nat ⊕ Nat := match x with
  | .inl f => .inl f
  | .inr _ => .inl (k + 16 * place)
theorem zx_fail (n : Nat) {k q : Nat} {i j : Int32} (rd : zq_rd s r) (c : zq_cu s r 1 2 x) (hk : 0 < k ∧ k ≤ 5) (h : zq_gd_ x → i = nI k ∧ j = nI q ∧ q ≤ 200) : ∃ y, zf_Reader_fail n s r i j = some y ∧ zq_cu y.2 r 1 2 (zq_fl k q x) ∧ zq_F (zq_PR r) s y.2 := by
  cases x with
  | inl f => exact ⟨_, zp_fail1 n rd c _ _, c, zq_F.rf⟩
  | inr p =>
    obtain ⟨rfl, rfl, hq⟩ := h ⟨p, rfl⟩
    obtain ⟨u, e1, g1, k1⟩ := zp_fail n rd c.1 hk.1 hk.2 hq
    exact ⟨_, e1, g1, k1⟩
theorem zx_flag (n : Nat) (w : zq_w s) (d : zq_dV s l) (rd : zq_rd s r) (c : zq_cu s r 1 2 x) (hi : zq_en_ l x i e) : ∃ y, zf_Reader_readFlag n s r i = some y ∧ zq_cu y.2 r 1 2 (zq_cur (zq_rfX l e x)) ∧ (zq_gd_ (zq_cur (zq_rfX l e x)) → y.1 = nI (zq_val (zq_rfX l e x))) ∧ (y.1 = 0 ∨ y.1 = 1) ∧ zq_F (zq_PR r) s y.2 := by
  rw [zf_Reader_readFlag]
  refine zv_ck rd.1 (zv_p (zx_isNext n (tag := 1) w d rd c hi (by decide)) ?_)
  cases x with
  | inl f => exact zv_t rfl (zv_r ⟨c, (fun ⟨p, q⟩ => by cases q), Or.inl rfl, zq_F.rf⟩)
  | inr p =>
    obtain ⟨rfl, he⟩ := hi p rfl
    have hl := d.2.1
    have hr := rd.2.2
    by_cases b : zq_nx l 1 e p = true
    rotate_left 1
    · have eR : zq_rfX l e (.inr p) = .inr (0, p) := by show zq_rf l e p = _; unfold zq_rf; rw [if_neg b]
      rw [eR]
      exact zv_t (if_neg b) (zv_r ⟨c, fun _ => rfl, Or.inl rfl, zq_F.rf⟩)
    have eR : zq_rfX l e (.inr p) = (match zq_op l 1 e p with
      | .inl f => .inl f
      | .inr (a, q) => if a - q = 1 ∧ l.getD q 0 = 255 then .inr (1, a) else .inl (4 + 16 * p)) := by show zq_rf l e p = _; unfold zq_rf; rw [if_pos b]
    rw [eR, c.2.1]
    obtain ⟨y, e1, g1, k1⟩ := zp_open n (tag := 1) w d rd c he (by decide)
    have w1 := k1.w w
    have rd1 := k1.1.rd rd
    have d1 := d.kR k1 rd.2.2
    refine zv_f (fun h => absurd ((if_pos b).symm.trans h) (by decide)) (zv_l (zv_b (a := y.1) (b := y.2) e1 (zv_ck rd1.1 ?_)))
    cases ho : zq_op l 1 e p with
    | inl f =>
      rw [ho] at g1
      exact zv_f (zq_cu_ne (kp := 1) g1) (zv_r ⟨g1, (fun ⟨p, q⟩ => by cases q), Or.inl rfl, k1⟩)
    | inr aq =>
      obtain ⟨a, q⟩ := aq
      rw [ho] at g1
      obtain ⟨g1, g2⟩ := g1
      have hle := zq_op_le ho
      have bd := zq_bd d.2.2.1 q
      have bad : ¬ (a - q = 1 ∧ l.getD q 0 = 255) → ∃ z, zb_Reader_readFlag_60 n y.2 r (nI p) (nI a) = some z ∧ zq_cu z.2 r 1 2 (zq_cur (if a - q = 1 ∧ l.getD q 0 = 255 then .inr (1, a) else .inl (4 + 16 * p))) ∧ (zq_gd_ (zq_cur (if a - q = 1 ∧ l.getD q 0 = 255 then .inr (1, a) else .inl (4 + 16 * p))) → z.1 = nI (zq_val (if a - q = 1 ∧ l.getD q 0 = 255 then .inr (1, a) else .inl (4 + 16 * p)))) ∧ (z.1 = 0 ∨ z.1 = 1) ∧ zq_F (zq_PR r) s z.2 := by
        intro hb
        obtain ⟨u, e2, g3, k2⟩ := zp_fail n rd1 g2.1 (k := 4) (q := p) (by omega) (by omega) c.2.2
        rw [if_neg hb, zb_Reader_readFlag_60]
        refine zv_ck rd1.1 (zv_b e2 ?_)
        rw [zb_Reader_readFlag_67]
        refine zv_ck (k2.1.rd rd1).1 (zv_l (zv_r ⟨⟨?_, g3.2⟩, (fun ⟨p, q⟩ => by cases q), Or.inr rfl, (k1.tr k2).uI ⟨rfl, Or.inl rfl⟩ _⟩))
        rw [zs_II, if_neg (by omega)]; exact g3.1
      refine zv_t g2.1 ?_
      try dsimp only
      rw [g1, g2.2.1, zi_sub (by omega)]
      by_cases c1 : a - q = 1
      rotate_left 1
      · exact zv_f (fun h => c1 ((nI_eq (b := 1) (by omega) (by omega)).mp h)) (bad (fun h => c1 h.1))
      refine zv_t (by rw [c1]; rfl) (zv_p rd1.2.1 (zv_ck ⟨zw_K1 w1, zw_N1 w1⟩ (zv_p (zw_R1_0 w1) (zv_ck (zw_A2 w1 (by omega)) ?_))))
      try dsimp only
      rw [nI_clamp (by omega), d1.2.2.2 q (by omega)]
      by_cases c2 : l.getD q 0 = 255
      rotate_left 1
      · exact zv_f (fun h => c2 ((nI_eq (b := 255) (by omega) (by omega)).mp h)) (bad (fun h => c2 h.2))
      rw [if_pos (show a - q = 1 ∧ l.getD q 0 = 255 from ⟨c1, c2⟩)]
      refine zv_t (by rw [c2]; rfl) ?_
      rw [zb_Reader_readFlag_67]
      refine zv_ck rd1.1 (zv_l (zv_r ⟨⟨?_, ?_, by omega⟩, fun _ => rfl, Or.inr rfl, k1.uI ⟨rfl, Or.inl rfl⟩ _⟩))
      · rw [zs_II, if_neg (by omega)]; exact g2.1
      · rw [zs_II, if_pos ⟨rfl, rfl⟩]
/-- the reference: a TRUE that is there -/
theorem zx_truth (n : Nat) (w : zq_w s) (d : zq_dM s l) (c : zq_cu s 44 9 10 x) (hi : zq_en_ l x i e) (hx : zq_nxX l 1 e x = true) : ∃ t, zf_M_truth n s 44 i = some t ∧ zq_cu t 44 9 10 (zq_cur (zq_rfX l e x)) ∧ zq_F zq_PS s t := by
  cases x with
  | inl f => cases hx
  | inr p =>
    obtain ⟨rfl, he⟩ := hi p rfl
    have hl := d.2.1
    simp only [zq_nxX] at hx
    simp only [zq_rfX, zq_rf]
    rw [if_pos hx, zf_M_truth, c.2.1]
    obtain ⟨y, e1, g1, k1⟩ := zp_head n (tag := 1) w d c he (by decide)
    have w1 := k1.w w
    have d1 := d.kS k1
    refine zv_ck ⟨zw_K44 w, zw_N44 w⟩ (zv_l (zv_b (a := y.1) (b := y.2) e1 (zv_ck ⟨zw_K44 w1, zw_N44 w1⟩ ?_)))
    cases ho : zq_op l 1 e p with
    | inl f =>
      rw [ho] at g1
      refine zv_f (zq_cu_ne (kp := 9) g1) ?_
      rw [zb_M_truth_50]
      refine zv_ck ⟨zw_K44 w1, zw_N44 w1⟩ (zv_f (zq_cu_ne (kp := 9) g1) ?_)
      rw [zb_M_truth_66]
      refine zv_ck ⟨zw_K44 w1, zw_N44 w1⟩ (zv_l (zv_r ⟨⟨?_, (show zq_cu y.2 44 9 10 (.inl f) from g1).2⟩, k1.uI ⟨rfl, Or.inl rfl⟩ _⟩))
      rw [zs_II, if_neg (by omega)]; exact (show zq_cu y.2 44 9 10 (.inl f) from g1).1
    | inr aq =>
      obtain ⟨a, q⟩ := aq
      rw [ho] at g1
      obtain ⟨g1, g2⟩ := g1
      have hle := zq_op_le ho
      have bd := zq_bd d.2.2.1 q
      have bad : ¬ (a - q = 1 ∧ l.getD q 0 = 255) → ∃ z, zb_M_truth_44 n y.2 44 (nI p) (nI a) = some z ∧ zq_cu z 44 9 10 (zq_cur (if a - q = 1 ∧ l.getD q 0 = 255 then .inr (1, a) else .inl (4 + 16 * p))) ∧ zq_F zq_PS s z := by
        intro hb
        obtain ⟨u, e2, g3, k2⟩ := zp_fails n w1 g2.1 (k := 4) (q := p) (by omega) (by omega) c.2.2
        have wu := k2.w w1
        rw [if_neg hb, zb_M_truth_44]
        refine zv_ck ⟨zw_K44 w1, zw_N44 w1⟩ (zv_p e2 ?_)
        rw [zb_M_truth_50]
        refine zv_ck ⟨zw_K44 wu, zw_N44 wu⟩ (zv_f (zq_cu_ne g3) ?_)
        rw [zb_M_truth_66]
        refine zv_ck ⟨zw_K44 wu, zw_N44 wu⟩ (zv_l (zv_r ⟨⟨?_, g3.2⟩, (k1.tr k2).uI ⟨rfl, Or.inl rfl⟩ _⟩))
        rw [zs_II, if_neg (by omega)]; exact g3.1
      refine zv_t g2.1 ?_
      try dsimp only
      rw [g1, g2.2.1, zi_sub (by omega)]
      by_cases c1 : a - q = 1
      rotate_left 1
      · exact zv_f (fun h => c1 ((nI_eq (b := 1) (by omega) (by omega)).mp h)) (bad (fun h => c1 h.1))
      refine zv_t (by rw [c1]; rfl) (zv_p (zw_R44_0 w1) (zv_ck (zw_A45 w1 (by omega)) ?_))
      try dsimp only
      rw [nI_clamp (by omega), d1.2.2.2 q (by omega)]
      by_cases c2 : l.getD q 0 = 255
      rotate_left 1
      · exact zv_f (fun h => c2 ((nI_eq (b := 255) (by omega) (by omega)).mp h)) (bad (fun h => c2 h.2))
      rw [if_pos (show a - q = 1 ∧ l.getD q 0 = 255 from ⟨c1, c2⟩)]
      refine zv_t (by rw [c2]; rfl) ?_
      rw [zb_M_truth_50]
      refine zv_ck ⟨zw_K44 w1, zw_N44 w1⟩ (zv_t g2.1 ?_)
      rw [zb_M_truth_66]
      refine zv_ck ⟨zw_K44 w1, zw_N44 w1⟩ (zv_l (zv_r ⟨⟨?_, ?_, by omega⟩, k1.uI ⟨rfl, Or.inl rfl⟩ _⟩))
      · rw [zs_II, if_neg (by omega)]; exact g2.1
      · rw [zs_II, if_pos ⟨rfl, rfl⟩]
theorem zx_fails (n : Nat) {k q : Nat} {i j : Int32} (w : zq_w s) (c : zq_cu s 44 9 10 x) (hk : 0 < k ∧ k ≤ 5) (h : zq_gd_ x → i = nI k ∧ j = nI q ∧ q ≤ 200) : ∃ t, zf_M_fails n s 44 i j = some t ∧ zq_cu t 44 9 10 (zq_fl k q x) ∧ zq_F zq_PS s t := by
  cases x with
  | inl f =>
    refine ⟨zh_uI s 44 10 (zh_I s 44 10), ?_, ⟨by rw [zs_II, if_pos ⟨rfl, rfl⟩]; exact c.1, c.2⟩, zq_F.rf.uI ⟨rfl, Or.inr rfl⟩ _⟩
    rw [zf_M_fails, if_pos ⟨zw_K44 w, zw_N44 w⟩, if_neg (zq_cu_ne c), zb_M_fails_21, if_pos ⟨zw_K44 w, zw_N44 w⟩]
    rfl
  | inr p =>
    obtain ⟨rfl, rfl, hq⟩ := h ⟨p, rfl⟩
    exact zp_fails n w c.1 hk.1 hk.2 hq
end RX
