/-! Places only go forward, and stay within the end. -/
theorem zq_op_b {l : List Nat} {tag e : Nat} {x : Nat ⊕ Nat} (h : zq_gd_ (zq_cur (zq_opX l tag e x))) : zq_pos x + 2 ≤ zq_pos (zq_cur (zq_opX l tag e x)) ∧ zq_pos (zq_cur (zq_opX l tag e x)) ≤ zq_val (zq_opX l tag e x) ∧ zq_val (zq_opX l tag e x) ≤ e := by
  cases x with
  | inl f => obtain ⟨p, h⟩ := h; cases h
  | inr q =>
    simp only [zq_opX] at h ⊢
    cases ho : zq_op l tag e q with
    | inl f => rw [ho] at h; obtain ⟨p, h⟩ := h; cases h
    | inr aq => exact zq_op_le ho
theorem zq_ri_b {l : List Nat} {e : Nat} {x : Nat ⊕ Nat} (h : zq_gd_ (zq_cur (zq_riX l e x))) : zq_pos x + 2 ≤ zq_pos (zq_cur (zq_riX l e x)) ∧ zq_pos (zq_cur (zq_riX l e x)) ≤ e := by
  cases x with
  | inl f => obtain ⟨p, h⟩ := h; cases h
  | inr q =>
    simp only [zq_riX, zq_ri] at h ⊢
    cases ho : zq_op l 2 e q with
    | inl f => rw [ho] at h; obtain ⟨p, h⟩ := h; cases h
    | inr aq =>
      rw [ho] at h
      obtain ⟨a, b⟩ := aq
      have := zq_op_le ho
      simp only [] at h ⊢
      by_cases c : zq_ig l a b = true
      · rw [if_pos c]
        show q + 2 ≤ a ∧ a ≤ e
        omega
      · rw [if_neg c] at h; obtain ⟨p, h⟩ := h; cases h
theorem zq_rn_b {l : List Nat} {tag e : Nat} {x : Nat ⊕ Nat} (h : zq_gd_ (zq_cur (zq_rnX l tag e x))) : zq_pos x + 2 ≤ zq_pos (zq_cur (zq_rnX l tag e x)) ∧ zq_pos (zq_cur (zq_rnX l tag e x)) ≤ e := by
  cases x with
  | inl f => obtain ⟨p, h⟩ := h; cases h
  | inr q =>
    simp only [zq_rnX, zq_rn] at h ⊢
    cases ho : zq_op l tag e q with
    | inl f => rw [ho] at h; obtain ⟨p, h⟩ := h; cases h
    | inr aq =>
      rw [ho] at h
      obtain ⟨a, b⟩ := aq
      have := zq_op_le ho
      simp only [] at h ⊢
      by_cases c : a - b ≤ 8 ∧ zq_nm (zq_nv l (a - b) b) = true
      · rw [if_pos c]
        show q + 2 ≤ a ∧ a ≤ e
        omega
      · rw [if_neg c] at h; obtain ⟨p, h⟩ := h; cases h
theorem zq_rf_b {l : List Nat} {e : Nat} {x : Nat ⊕ Nat} (h : zq_gd_ (zq_cur (zq_rfX l e x))) (he : zq_pos x ≤ e) : zq_pos x ≤ zq_pos (zq_cur (zq_rfX l e x)) ∧ zq_pos (zq_cur (zq_rfX l e x)) ≤ e := by
  cases hN : zq_nxX l 1 e x with
  | false => rw [(zq_rf_0 hN).1]; exact ⟨Nat.le_refl _, he⟩
  | true =>
    cases x with
    | inl f => cases hN
    | inr p =>
      have hN : zq_nx l 1 e p = true := hN
      have e1 : zq_rfX l e (.inr p) = (match zq_op l 1 e p with
        | .inl f => .inl f
        | .inr (a, q) => if a - q = 1 ∧ l.getD q 0 = 255 then .inr (1, a) else .inl (4 + 16 * p)) := by show zq_rf l e p = _; unfold zq_rf; rw [if_pos hN]; cases zq_op l 1 e p <;> rfl
      rw [e1] at h ⊢
      cases ho : zq_op l 1 e p with
      | inl f => rw [ho] at h; obtain ⟨q, h⟩ := h; cases h
      | inr aq =>
        rw [ho] at h
        obtain ⟨a, q⟩ := aq
        have := zq_op_le ho
        simp only [] at h ⊢
        by_cases hh : a - q = 1 ∧ l.getD q 0 = 255
        · rw [if_pos hh]
          show p ≤ a ∧ a ≤ e
          omega
        · rw [if_neg hh] at h; obtain ⟨q, h⟩ := h; cases h
theorem zq_cl_b {e : Nat} {x : Nat ⊕ Nat} (h : zq_gd_ (zq_clX e x)) : zq_clX e x = x ∧ e ≤ zq_pos x := by
  cases x with
  | inl f => obtain ⟨p, h⟩ := h; cases h
  | inr q =>
    simp only [zq_clX, zq_cl] at h ⊢
    by_cases c : q < e
    · rw [if_pos c] at h; obtain ⟨p, h⟩ := h; cases h
    · rw [if_neg c]
      exact ⟨rfl, by show e ≤ q; omega⟩
theorem zq_sk_b {l : List Nat} {e : Nat} {x : Nat ⊕ Nat} (h : zq_gd_ (zq_sk (zq_opX l 4 e x))) : zq_pos x ≤ zq_pos (zq_sk (zq_opX l 4 e x)) ∧ zq_pos (zq_sk (zq_opX l 4 e x)) ≤ e := by
  have b := zq_op_b (zq_sk_g h)
  cases ho : zq_opX l 4 e x with
  | inl f => rw [ho] at h; obtain ⟨p, h⟩ := h; cases h
  | inr aq =>
    rw [ho] at b
    have b1 : zq_pos x + 2 ≤ aq.2 := b.1
    have b2 : aq.2 ≤ aq.1 := b.2.1
    have b3 : aq.1 ≤ e := b.2.2
    show zq_pos x ≤ aq.1 ∧ aq.1 ≤ e
    omega
theorem zq_ba_b {l : List Nat} {e : Nat} {x : Nat ⊕ Nat} (h : zq_gd_ (zq_ba l e x).1) : zq_pos x ≤ zq_pos (zq_ba l e x).1 ∧ zq_pos (zq_ba l e x).1 ≤ e := by
  have key : ∀ (O G V : Nat ⊕ (Nat × Nat)) (nx : Bool), O = zq_opX l 48 e x → G = zq_rfX l (zq_val O) (zq_cur O) → V = zq_riX l (zq_val O) (zq_cur G) → zq_gd_ (zq_clX (zq_val O) (if nx then zq_cur V else zq_cur G)) → zq_pos x ≤ zq_pos (zq_clX (zq_val O) (if nx then zq_cur V else zq_cur G)) ∧ zq_pos (zq_clX (zq_val O) (if nx then zq_cur V else zq_cur G)) ≤ e := by
    intro O G V nx hO hG hV g
    have bO := @zq_op_b l 48 e x
    rw [← hO] at bO
    have bG := @zq_rf_b l (zq_val O) (zq_cur O)
    have gG := @zq_rf_g l (zq_val O) (zq_cur O)
    rw [← hG] at bG gG
    have bV := @zq_ri_b l (zq_val O) (zq_cur G)
    have gV := @zq_ri_g l (zq_val O) (zq_cur G)
    rw [← hV] at bV gV
    have c := zq_cl_b g
    have gg := zq_cl_g g
    rw [c.1]
    cases nx with
    | false =>
      have gg : zq_gd_ (zq_cur G) := gg
      have q1 := bO (gG gg)
      have q2 := bG gg (by omega)
      show zq_pos x ≤ zq_pos (zq_cur G) ∧ zq_pos (zq_cur G) ≤ e
      omega
    | true =>
      have gg : zq_gd_ (zq_cur V) := gg
      have q0 := gV gg
      have q1 := bO (gG q0)
      have q2 := bG q0 (by omega)
      have q3 := bV gg
      show zq_pos x ≤ zq_pos (zq_cur V) ∧ zq_pos (zq_cur V) ≤ e
      omega
  exact key _ _ _ _ rfl rfl rfl h
theorem zq_us_b {l : List Nat} {e : Nat} {x : Nat ⊕ Nat} (h : zq_gd_ (zq_us l e x).1) : zq_pos x ≤ zq_pos (zq_us l e x).1 ∧ zq_pos (zq_us l e x).1 ≤ e := by
  have hus : (zq_us l e x).1 = if 1 ≤ zq_val (zq_riX l e x) ∧ zq_val (zq_riX l e x) ≤ 7 then zq_cur (zq_riX l e x) else zq_fl 4 (zq_pos x) (zq_cur (zq_riX l e x)) := rfl
  rw [hus] at h ⊢
  by_cases c : 1 ≤ zq_val (zq_riX l e x) ∧ zq_val (zq_riX l e x) ≤ 7
  · rw [if_pos c] at h ⊢
    have := zq_ri_b h
    omega
  · rw [if_neg c] at h; exact absurd h zq_fl_g
theorem zq_re_b {l : List Nat} {e : Nat} {x : Nat ⊕ Nat} (h : zq_gd_ (zq_re l e x).1) : zq_pos x ≤ zq_pos (zq_re l e x).1 ∧ zq_pos (zq_re l e x).1 ≤ e := by
  have key : ∀ (O A B : Nat ⊕ (Nat × Nat)) (X1 X2 : Nat ⊕ Nat) (n1 n2 : Bool), O = zq_opX l 48 e x → (X1 = if zq_pos (zq_cur O) = zq_val O then zq_fl 4 (zq_pos x) (zq_cur O) else zq_cur O) → A = zq_rnX l 128 (zq_val O) X1 → (X2 = if n1 then zq_cur A else X1) → B = zq_rnX l 129 (zq_val O) X2 → zq_gd_ (zq_clX (zq_val O) (if n2 then zq_cur B else X2)) → zq_pos x ≤ zq_pos (zq_clX (zq_val O) (if n2 then zq_cur B else X2)) ∧ zq_pos (zq_clX (zq_val O) (if n2 then zq_cur B else X2)) ≤ e := by
    intro O A B X1 X2 n1 n2 hO hX1 hA hX2 hB g
    have bO := @zq_op_b l 48 e x
    rw [← hO] at bO
    have b1 : zq_gd_ X1 → zq_pos x ≤ zq_pos X1 ∧ zq_pos X1 ≤ zq_val O ∧ zq_val O ≤ e := by
      rw [hX1]
      intro g
      split at g
      · exact absurd g zq_fl_g
      · rename_i hne
        rw [if_neg hne]
        have := bO g
        omega
    have bA := @zq_rn_b l 128 (zq_val O) X1
    have gA := @zq_rn_g l 128 (zq_val O) X1
    rw [← hA] at bA gA
    have b2 : zq_gd_ X2 → zq_pos x ≤ zq_pos X2 ∧ zq_pos X2 ≤ zq_val O ∧ zq_val O ≤ e := by
      rw [hX2]
      cases n1 with
      | false => exact b1
      | true =>
        intro g
        have g : zq_gd_ (zq_cur A) := g
        have q1 := b1 (gA g).1
        have q2 := bA g
        show zq_pos x ≤ zq_pos (zq_cur A) ∧ zq_pos (zq_cur A) ≤ zq_val O ∧ zq_val O ≤ e
        omega
    have bB := @zq_rn_b l 129 (zq_val O) X2
    have gB := @zq_rn_g l 129 (zq_val O) X2
    rw [← hB] at bB gB
    have c := zq_cl_b g
    have gg := zq_cl_g g
    rw [c.1]
    cases n2 with
    | false =>
      have q1 := b2 gg
      show zq_pos x ≤ zq_pos X2 ∧ zq_pos X2 ≤ e
      omega
    | true =>
      have gg : zq_gd_ (zq_cur B) := gg
      have q1 := b2 (gB gg).1
      have q2 := bB gg
      show zq_pos x ≤ zq_pos (zq_cur B) ∧ zq_pos (zq_cur B) ≤ e
      omega
  exact key _ _ _ _ _ _ _ rfl rfl rfl rfl rfl h
theorem zq_eb_b {l : List Nat} {id to cr : Nat} {x : Nat ⊕ Nat} {E : zq_Ex} (h : zq_gd_ (zq_eb l id to cr x E).1) : zq_gd_ x ∧ zq_pos x ≤ zq_pos (zq_eb l id to cr x E).1 ∧ zq_pos (zq_eb l id to cr x E).1 ≤ to := by
  refine ⟨?_, ?_⟩
  · cases x with
    | inl f => rw [zq_eb_f] at h; obtain ⟨p, h⟩ := h; cases h
    | inr p => exact ⟨p, rfl⟩
  · unfold zq_eb at h ⊢
    by_cases h1 : id = 1
    · rw [if_pos h1] at h ⊢; exact zq_ba_b h
    rw [if_neg h1] at h ⊢
    by_cases h2 : id = 2
    · rw [if_pos h2] at h ⊢; exact zq_us_b h
    rw [if_neg h2] at h ⊢
    by_cases h3 : id = 3
    · rw [if_pos h3] at h ⊢; exact zq_re_b h
    rw [if_neg h3] at h ⊢
    exact zq_sk_b h
theorem zq_ext_b {l : List Nat} {e bf : Nat} {E : zq_Ex} {x : Nat ⊕ Nat} (h : zq_gd_ (zq_ext l e bf E x).1) : zq_gd_ x ∧ zq_pos x + 2 ≤ zq_pos (zq_ext l e bf E x).1 ∧ zq_pos (zq_ext l e bf E x).1 ≤ e := by
  have key : ∀ (O I G : Nat ⊕ (Nat × Nat)) (X2 : Nat ⊕ Nat) (R : (Nat ⊕ Nat) × zq_Ex), O = zq_opX l 48 e x → I = zq_riX l (zq_val O) (zq_cur O) → (X2 = if bf ≤ zq_val I then zq_cur I else zq_fl 4 (zq_pos (zq_cur O)) (zq_cur I)) → G = zq_rfX l (zq_val O) X2 → R = zq_eb l (zq_val I) (zq_val O) (zq_val G) (zq_cur G) E → zq_gd_ (zq_clX (zq_val O) R.1) → zq_gd_ x ∧ zq_pos x + 2 ≤ zq_pos (zq_clX (zq_val O) R.1) ∧ zq_pos (zq_clX (zq_val O) R.1) ≤ e := by
    intro O I G X2 R hO hI hX2 hG hR g
    have bO := @zq_op_b l 48 e x
    have gO := @zq_op_g l 48 e x
    rw [← hO] at bO gO
    have bI := @zq_ri_b l (zq_val O) (zq_cur O)
    have gI := @zq_ri_g l (zq_val O) (zq_cur O)
    rw [← hI] at bI gI
    have b2 : zq_gd_ X2 → zq_gd_ (zq_cur I) ∧ X2 = zq_cur I := by
      rw [hX2]
      intro g
      split at g
      · rename_i hh; rw [if_pos hh]; exact ⟨g, rfl⟩
      · exact absurd g zq_fl_g
    have bG := @zq_rf_b l (zq_val O) X2
    have gG := @zq_rf_g l (zq_val O) X2
    rw [← hG] at bG gG
    have c := zq_cl_b g
    have gg := zq_cl_g g
    rw [c.1]
    rw [hR] at gg ⊢
    obtain ⟨q0, q1, q2⟩ := zq_eb_b gg
    have q3 := gG q0
    obtain ⟨q4, q5⟩ := b2 q3
    have q6 := bI q4
    have q7 := gI q4
    have q8 := bO q7
    have q9 := bG q0 (by rw [q5]; exact q6.2)
    rw [q5] at q9
    exact ⟨(gO q7).1, by omega, by omega⟩
  exact key _ _ _ _ _ rfl rfl rfl rfl rfl h
theorem zq_lo_b {l : List Nat} {e : Nat} : ∀ (k bf : Nat) (E : zq_Ex) (x : Nat ⊕ Nat), zq_gd_ (zq_lo l e k bf E x).1 → zq_gd_ x ∧ (zq_pos x ≤ e → zq_pos x ≤ zq_pos (zq_lo l e k bf E x).1 ∧ zq_pos (zq_lo l e k bf E x).1 ≤ e) := by
  intro k
  induction k with
  | zero => intro bf E x h; exact ⟨h, fun he => ⟨Nat.le_refl _, he⟩⟩
  | succ k ih =>
    intro bf E x h
    rw [zq_lo] at h ⊢
    by_cases c : zq_nxX l 48 e x = true
    · rw [if_pos c] at h ⊢
      obtain ⟨h1, h2⟩ := ih _ _ _ h
      obtain ⟨h3, h4, h5⟩ := zq_ext_b h1
      refine ⟨h3, fun he => ?_⟩
      have := h2 h5
      omega
    · rw [if_neg c] at h ⊢
      exact ⟨h, fun he => ⟨Nat.le_refl _, he⟩⟩
theorem zq_exs_b {l : List Nat} {e : Nat} {E : zq_Ex} {x : Nat ⊕ Nat} (h : zq_gd_ (zq_exs l e E x).1) : zq_gd_ x ∧ zq_pos x ≤ zq_pos (zq_exs l e E x).1 ∧ zq_pos (zq_exs l e E x).1 ≤ e := by
  have hx : (zq_exs l e E x).1 = zq_clX (zq_val (zq_opX l 48 e x)) (zq_lo l (zq_val (zq_opX l 48 e x)) 199 ((zq_ext l (zq_val (zq_opX l 48 e x)) 0 E (zq_cur (zq_opX l 48 e x))).2.1 + 1) (zq_ext l (zq_val (zq_opX l 48 e x)) 0 E (zq_cur (zq_opX l 48 e x))).2.2 (zq_ext l (zq_val (zq_opX l 48 e x)) 0 E (zq_cur (zq_opX l 48 e x))).1).1 := rfl
  rw [hx] at h ⊢
  have c := zq_cl_b h
  have gg := zq_cl_g h
  rw [c.1]
  obtain ⟨h1, h2⟩ := zq_lo_b _ _ _ _ gg
  obtain ⟨h3, h4, h5⟩ := zq_ext_b h1
  have h6 := zq_op_b h3
  have h7 := zq_op_g h3
  have h8 := h2 h5
  exact ⟨h7.1, by omega, by omega⟩
/-- the body ends where it says -/
theorem zq_X7_pos {l : List Nat} {b e : Nat} {x X7 : Nat ⊕ Nat} {E0 : zq_Ex} {q : (Nat ⊕ Nat) × zq_Ex} (hq : q = if zq_nxX l 48 b x then zq_exs l b E0 x else (x, E0)) (h7 : X7 = zq_clX b q.1) (g : zq_gd_ X7) (hx : zq_gd_ x → zq_pos x ≤ b) : zq_gd_ x ∧ zq_pos X7 = b := by
  rw [h7] at g
  have c := zq_cl_b g
  have gg := zq_cl_g g
  rw [h7, c.1]
  cases hN : zq_nxX l 48 b x with
  | false =>
    rw [hN] at hq
    have hq : q = (x, E0) := hq
    rw [hq] at gg c ⊢
    have := hx gg
    exact ⟨gg, by have c2 : b ≤ zq_pos x := c.2; show zq_pos x = b; omega⟩
  | true =>
    rw [hN] at hq
    have hq : q = zq_exs l b E0 x := hq
    rw [hq] at gg c ⊢
    have := zq_exs_b gg
    exact ⟨this.1, by omega⟩
