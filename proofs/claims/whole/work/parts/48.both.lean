/-! Both read a certificate alike. -/
/-- the answer: the fault, 0 without one -/
def zq_an (x : Nat ⊕ Nat) : Int32 := match x with
  | .inl f => nI f
  | .inr _ => 0
theorem zq_cu_an {s : zh_S} {o kp kf : Nat} {x : Nat ⊕ Nat} (h : zq_cu s o kp kf x) : zh_I s o kf = zq_an x := by
  cases x with
  | inl f => exact h.1
  | inr p => exact h.1
theorem zq_an_0 {x : Nat ⊕ Nat} (h : ∀ f, x = .inl f → 0 < f ∧ f < 2 ^ 20) : zq_an x = 0 ↔ zq_gd_ x := by
  cases x with
  | inl f =>
    constructor
    · intro e
      exact absurd e (nI_ne0 (h f rfl).1 (by have := (h f rfl).2; omega))
    · rintro ⟨p, q⟩; cases q
  | inr p => exact ⟨fun _ => ⟨p, rfl⟩, fun _ => rfl⟩
theorem zq_cu_0 {s : zh_S} {o kp kf : Nat} {x : Nat ⊕ Nat} (h : zq_cu s o kp kf x) : zq_an x = 0 ↔ zq_gd_ x := zq_an_0 (fun f hf => by rw [hf] at h; exact h.2)
section BO
variable {n : Nat} {l : List Nat}
theorem zq_rc_pos (l : List Nat) : ∀ (R0 R1 V0 V1 V2 V3 V4 V5 V6 : Nat ⊕ (Nat × Nat)) (q : (Nat ⊕ Nat) × zq_Ex) (X7 : Nat ⊕ Nat), R0 = zq_opX l 48 l.length (.inr 0) → R1 = zq_opX l 48 (zq_val R0) (zq_cur R0) → V0 = zq_riX l (zq_val R1) (zq_cur R1) → V1 = zq_rnX l 19 (zq_val R1) (zq_cur V0) → V2 = zq_riX l (zq_val R1) (zq_cur V1) → V3 = zq_riX l (zq_val R1) (zq_cur V2) → V4 = zq_rnX l 19 (zq_val R1) (zq_cur V3) → V5 = zq_riX l (zq_val R1) (zq_cur V4) → V6 = zq_riX l (zq_val R1) (zq_cur V5) → (q = if zq_nxX l 48 (zq_val R1) (zq_cur V6) then zq_exs l (zq_val R1) (-1, 0, 0, 0, 0, false, false, false) (zq_cur V6) else (zq_cur V6, (-1, 0, 0, 0, 0, false, false, false))) → X7 = zq_clX (zq_val R1) q.1 → zq_gd_ X7 → zq_pos X7 = zq_val R1 ∧ zq_val R1 ≤ l.length := by
  intro R0 R1 V0 V1 V2 V3 V4 V5 V6 q X7 h0 h1 a0 a1 a2 a3 a4 a5 a6 hq h7 g
  have b6 := @zq_ri_b l (zq_val R1) (zq_cur V5)
  rw [← a6] at b6
  obtain ⟨g6, hp⟩ := zq_X7_pos (e := 0) hq h7 g (fun g => (b6 g).2)
  have g5 := zq_ri_g (by rw [← a6]; exact g6)
  have g4 := zq_ri_g (by rw [← a5]; exact g5)
  have g3 := (zq_rn_g (by rw [← a4]; exact g4)).1
  have g2 := zq_ri_g (by rw [← a3]; exact g3)
  have g1 := zq_ri_g (by rw [← a2]; exact g2)
  have g0 := (zq_rn_g (by rw [← a1]; exact g1)).1
  have gR1 := zq_ri_g (by rw [← a0]; exact g0)
  have bR1 := @zq_op_b l 48 (zq_val R0) (zq_cur R0)
  have gg := @zq_op_g l 48 (zq_val R0) (zq_cur R0)
  rw [← h1] at bR1 gg
  have bR0 := @zq_op_b l 48 l.length (.inr 0)
  rw [← h0] at bR0
  have q1 := bR1 gR1
  have q2 := bR0 (gg gR1).1
  exact ⟨hp, by omega⟩
theorem zx_cert (hn : 300 ≤ n) {s : zh_S} {r c : Nat} (hc : 10 ≤ c ∧ c < 23) (w : zq_w s) (d : zq_dV s l) (rd : zq_rd s r) (cu : zq_cu s r 1 2 (.inr 0)) : ∃ y, zf_Reader_readCertificate n s r c = some y ∧ y.1 = zq_an (zq_rc l).1 ∧ (y.1 = 0 ↔ zq_gd_ (zq_rc l).1) ∧ (zq_gd_ (zq_rc l).1 → zq_CV y.2 c (zq_rc l).2) ∧ zq_F (zq_PC r c) s y.2 := by
  obtain ⟨y, e1, h1, c1, g1, k1⟩ := zx_cert0 hn hc w d rd cu _ _ _ _ _ _ _ _ _ _ _ rfl rfl rfl rfl rfl rfl rfl rfl rfl rfl rfl (fun g => by obtain ⟨a, b⟩ := zq_rc_pos l _ _ _ _ _ _ _ _ _ _ _ rfl rfl rfl rfl rfl rfl rfl rfl rfl rfl rfl g; rw [a]; exact b)
  have ea : y.1 = zq_an (zq_rc l).1 := h1.trans (zq_cu_an c1)
  exact ⟨y, e1, ea, by rw [ea]; exact zq_cu_0 c1, g1, k1⟩
theorem zx_mcert (hn : 300 ≤ n) {s : zh_S} (w : zq_w s) (d : zq_dM s l) (cu : zq_cu s 44 9 10 (.inr 0)) : ∃ t, zf_M_readCertificate n s 44 = some t ∧ zh_I t 44 10 = zq_an (zq_rc l).1 ∧ (zq_gd_ (zq_rc l).1 → zq_CM t (zq_rc l).2) ∧ zq_F zq_PU s t := by
  obtain ⟨u, e0, f0, z0, hI⟩ := zx_mreset hn w 15 n 0 s rfl (by omega) (by omega) zq_F.rf (fun j hj => by omega) rfl
  have du : zq_dM u l := d.kU f0
  have cu0 : zq_cu u 44 9 10 (.inr 0) := ⟨by rw [hI]; exact cu.1, by rw [hI]; exact cu.2.1, cu.2.2⟩
  obtain ⟨t, e1, c1, g1, k1⟩ := zx_mcert0 hn (f0.w w) du cu0 z0 _ _ _ _ _ _ _ _ _ _ _ rfl rfl rfl rfl rfl rfl rfl rfl rfl rfl rfl (fun g => (zq_rc_pos l _ _ _ _ _ _ _ _ _ _ _ rfl rfl rfl rfl rfl rfl rfl rfl rfl rfl rfl g).1) (f := n - 15) (by omega)
  refine ⟨t, ?_, zq_cu_an c1, g1, f0.tr k1⟩
  rw [zf_M_readCertificate]
  exact e0.trans e1
end BO
