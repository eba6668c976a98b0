/-! What is read without a fault is a certificate. -/
theorem zq_in_lN {x : Nat} (h : zq_nm x = true) : zq_in (lN x) = true := by
  have h2 : x < 2 ^ 40 := by
    unfold zq_nm at h
    rw [Bool.and_eq_true, decide_eq_true_eq] at h
    exact h.1.2
  unfold zq_in
  rw [zn_tn (by omega), h, Bool.and_true, decide_eq_true_eq, show (0 : Int64) = lN 0 from rfl, pk_lLT (by omega) (by decide)]
  omega
def zq_eo (m : Nat) (E : zq_Ex) : Prop := (E.1 = -1 ∨ ¬ E.1 < 0) ∧ (E.2.2.1 = 0 ∨ zq_in E.2.2.1 = true) ∧ (E.2.2.2.1 = 0 ∨ zq_in E.2.2.2.1 = true) ∧ E.2.2.2.2.1 ≤ m
section OK
variable {l : List Nat}
theorem zq_ba_o (hb : ∀ b ∈ l, b < 256) {e m : Nat} {x : Nat ⊕ Nat} {E : zq_Ex} (o : zq_eo m E) : zq_eo m (zq_baE l e x E) := by
  refine ⟨?_, o.2.1, o.2.2.1, o.2.2.2⟩
  show (if (zq_ba l e x).2.2.1 then lN (zq_ba l e x).2.2.2 else E.1) = -1 ∨ ¬ (if (zq_ba l e x).2.2.1 then lN (zq_ba l e x).2.2.2 else E.1) < 0
  split
  · have h63 : (zq_ba l e x).2.2.2 < 2 ^ 63 := zq_ri_63 hb _ _
    refine Or.inr ?_
    rw [show (0 : Int64) = lN 0 from rfl, pk_lLT h63 (by decide)]
    omega
  · exact o.1
theorem zq_re_o {e m : Nat} {x : Nat ⊕ Nat} {E : zq_Ex} (o : zq_eo m E) (g : zq_gd_ (zq_re l e x).1) : zq_eo m (zq_reE l e x E) := by
  have key : ∀ (O A B : Nat ⊕ (Nat × Nat)) (X1 X2 : Nat ⊕ Nat) (n1 n2 : Bool), A = zq_rnX l 128 (zq_val O) X1 → (X2 = if n1 then zq_cur A else X1) → B = zq_rnX l 129 (zq_val O) X2 → zq_gd_ (zq_clX (zq_val O) (if n2 then zq_cur B else X2)) → zq_eo m (E.1, E.2.1, if n1 then lN (zq_val A) else E.2.2.1, if n2 then lN (zq_val B) else E.2.2.2.1, E.2.2.2.2) := by
    intro O A B X1 X2 n1 n2 hA hX2 hB g
    have g1 := zq_cl_g g
    have gB := @zq_rn_g l 129 (zq_val O) X2
    rw [← hB] at gB
    have gA := @zq_rn_g l 128 (zq_val O) X1
    rw [← hA] at gA
    have g2 : zq_gd_ X2 := by
      cases n2 with
      | true => exact (gB g1).1
      | false => exact g1
    refine ⟨o.1, ?_, ?_, o.2.2.2⟩
    · show (if n1 then lN (zq_val A) else E.2.2.1) = 0 ∨ zq_in (if n1 then lN (zq_val A) else E.2.2.1) = true
      cases n1 with
      | true =>
        rw [hX2] at g2
        exact Or.inr (zq_in_lN (gA g2).2)
      | false => exact o.2.1
    · show (if n2 then lN (zq_val B) else E.2.2.2.1) = 0 ∨ zq_in (if n2 then lN (zq_val B) else E.2.2.2.1) = true
      cases n2 with
      | true => exact Or.inr (zq_in_lN (gB g1).2)
      | false => exact o.2.2.1
  exact key _ _ _ _ _ _ _ rfl rfl rfl g
theorem zq_eb_o (hb : ∀ b ∈ l, b < 256) {id to cr m : Nat} {x : Nat ⊕ Nat} {E : zq_Ex} (o : zq_eo m E) (g : zq_gd_ (zq_eb l id to cr x E).1) : zq_eo m (zq_eb l id to cr x E).2 := by
  unfold zq_eb at g ⊢
  by_cases h1 : id = 1
  · rw [if_pos h1]; exact zq_ba_o hb o
  rw [if_neg h1] at g ⊢
  by_cases h2 : id = 2
  · rw [if_pos h2]; exact o
  rw [if_neg h2] at g ⊢
  by_cases h3 : id = 3
  · rw [if_pos h3] at g ⊢; exact zq_re_o o g
  rw [if_neg h3]
  exact o
theorem zq_ext_o (hb : ∀ b ∈ l, b < 256) {e bf m : Nat} {x : Nat ⊕ Nat} {E : zq_Ex} (o : zq_eo m E) (g : zq_gd_ (zq_ext l e bf E x).1) : zq_eo (m + 1) (zq_ext l e bf E x).2.2 := by
  have g1 := zq_cl_g g
  have h := zq_eb_o hb o g1
  exact ⟨h.1, h.2.1, h.2.2.1, Nat.succ_le_succ h.2.2.2⟩
theorem zq_lo_o (hb : ∀ b ∈ l, b < 256) {e : Nat} : ∀ (k m bf : Nat) (E : zq_Ex) (x : Nat ⊕ Nat), zq_eo m E → zq_gd_ (zq_lo l e k bf E x).1 → zq_eo (m + k) (zq_lo l e k bf E x).2 := by
  intro k
  induction k with
  | zero => intro m bf E x o _; exact o
  | succ k ih =>
    intro m bf E x o h
    rw [zq_lo] at h ⊢
    by_cases c : zq_nxX l 48 e x = true
    · rw [if_pos c] at h ⊢
      have := ih (m + 1) _ _ _ (zq_ext_o hb o (zq_lo_b _ _ _ _ h).1) h
      rw [show m + (k + 1) = m + 1 + k by omega]
      exact this
    · rw [if_neg c]
      exact ⟨o.1, o.2.1, o.2.2.1, Nat.le_trans o.2.2.2 (by omega)⟩
theorem zq_exs_o (hb : ∀ b ∈ l, b < 256) {e : Nat} {x : Nat ⊕ Nat} {E : zq_Ex} (o : zq_eo 0 E) (h : zq_gd_ (zq_exs l e E x).1) : zq_eo 200 (zq_exs l e E x).2 := by
  have g := zq_cl_g h
  have g1 := (zq_lo_b _ _ _ _ g).1
  exact zq_lo_o hb 199 1 _ _ _ (zq_ext_o hb o g1) g
theorem zq_rc_ok0 (hb : ∀ b ∈ l, b < 256) : ∀ (R0 R1 V0 V1 V2 V3 V4 V5 V6 : Nat ⊕ (Nat × Nat)) (q : (Nat ⊕ Nat) × zq_Ex) (X7 : Nat ⊕ Nat), R0 = zq_opX l 48 l.length (.inr 0) → R1 = zq_opX l 48 (zq_val R0) (zq_cur R0) → V0 = zq_riX l (zq_val R1) (zq_cur R1) → V1 = zq_rnX l 19 (zq_val R1) (zq_cur V0) → V2 = zq_riX l (zq_val R1) (zq_cur V1) → V3 = zq_riX l (zq_val R1) (zq_cur V2) → V4 = zq_rnX l 19 (zq_val R1) (zq_cur V3) → V5 = zq_riX l (zq_val R1) (zq_cur V4) → V6 = zq_riX l (zq_val R1) (zq_cur V5) → (q = if zq_nxX l 48 (zq_val R1) (zq_cur V6) then zq_exs l (zq_val R1) (-1, 0, 0, 0, 0, false, false, false) (zq_cur V6) else (zq_cur V6, (-1, 0, 0, 0, 0, false, false, false))) → X7 = zq_clX (zq_val R1) q.1 → zq_gd_ X7 → zq_nm (zq_val V1) = true ∧ zq_nm (zq_val V4) = true ∧ zq_eo 200 q.2 := by
  intro R0 R1 V0 V1 V2 V3 V4 V5 V6 q X7 h0 h1 a0 a1 a2 a3 a4 a5 a6 hq h7 g
  have gq : zq_gd_ q.1 := by rw [h7] at g; exact zq_cl_g g
  have o0 : zq_eo 0 (-1, 0, 0, 0, 0, false, false, false) := ⟨Or.inl rfl, Or.inl rfl, Or.inl rfl, Nat.le_refl _⟩
  have key : zq_gd_ (zq_cur V6) ∧ zq_eo 200 q.2 := by
    cases hN : zq_nxX l 48 (zq_val R1) (zq_cur V6) with
    | true =>
      rw [hN, if_pos rfl] at hq
      rw [hq] at gq ⊢
      exact ⟨(zq_exs_b gq).1, zq_exs_o hb o0 gq⟩
    | false =>
      rw [hN] at hq
      have hq : q = (zq_cur V6, (-1, 0, 0, 0, 0, false, false, false)) := hq
      rw [hq] at gq ⊢
      exact ⟨gq, ⟨Or.inl rfl, Or.inl rfl, Or.inl rfl, Nat.zero_le _⟩⟩
  have g5 := zq_ri_g (by rw [← a6]; exact key.1)
  have g4 := zq_ri_g (by rw [← a5]; exact g5)
  have n4 := zq_rn_g (by rw [← a4]; exact g4)
  rw [← a4] at n4
  have g2 := zq_ri_g (by rw [← a3]; exact n4.1)
  have g1 := zq_ri_g (by rw [← a2]; exact g2)
  have n1 := zq_rn_g (by rw [← a1]; exact g1)
  rw [← a1] at n1
  exact ⟨n1.2, n4.2, key.2⟩
theorem zq_rc_ok (hb : ∀ b ∈ l, b < 256) (g : zq_gd_ (zq_rc l).1) : zq_nm ((zq_rc l).2.1 1) = true ∧ zq_nm ((zq_rc l).2.1 4) = true ∧ zq_eo 200 (zq_rc l).2.2.1 := by
  have g7 := zq_ri_g (zq_cl_g (zq_cl_g g))
  exact zq_rc_ok0 hb _ _ _ _ _ _ _ _ _ _ _ rfl rfl rfl rfl rfl rfl rfl rfl rfl rfl rfl g7
end OK
