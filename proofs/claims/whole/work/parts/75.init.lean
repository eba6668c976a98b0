/-! What the run begins with. -/
def zh_s3 : zh_S := (zf_V_init 1000000 (zh_new zh_0 (2, 7) 4) 0).getD zh_0
def zh_s6 : zh_S := (zf_M_init 1000000 (zh_new zh_s3 (2, 8) 27) 44).getD zh_0
def zq_F0 (k : Nat) : Int64 := [1, 1, 0, 1000, 1, 0, -1, -1, -1, 0, 0, 0, 0].getD k 0
theorem zt_i1 : (zf_V_init 1000000 (zh_new zh_0 (2, 7) 4) 0).isSome = true := by decide +kernel
theorem zt_i2 : zh_N zh_s3 = 44 := by decide +kernel
theorem zt_i3 : (zf_M_init 1000000 (zh_new zh_s3 (2, 8) 27) 44).isSome = true := by decide +kernel
theorem zt_i4 : zh_N zh_s6 = 62 ∧ zh_M zh_s6 ≤ 5000 := by decide +kernel
theorem zt_i5 : ∀ a : Fin 62, zh_K zh_s6 a.val = zq_K a.val := by decide +kernel
theorem zt_i6 : ∀ a : Fin 62, ∀ k : Fin 24, ((!(zq_R a.val k.val).isSome) || decide (zh_R zh_s6 a.val k.val = zq_R a.val k.val)) = true := by decide +kernel
theorem zt_i7 : (zh_I zh_s6 1 1 = 0 ∧ zh_I zh_s6 44 1 = 0 ∧ zh_I zh_s6 3 3 = 0 ∧ zh_I zh_s6 44 3 = 0) ∧ (zh_I zh_s6 7 2 = 0 ∧ zh_I zh_s6 44 15 = 0 ∧ zh_I zh_s6 7 3 = 0 ∧ zh_I zh_s6 44 17 = 0) ∧ (zh_R zh_s6 0 3 = none ∧ zh_I zh_s6 44 24 = 0 ∧ zh_I zh_s6 44 25 = 0) := by decide +kernel
theorem zt_i8 : ∀ k : Fin 13, zh_J zh_s6 4 k.val = zq_F0 k.val ∧ zh_J zh_s6 46 k.val = zq_F0 k.val := by decide +kernel
theorem zt_i9 : ∀ k : Fin 6, zh_J zh_s6 49 k.val = zt_MODULI k.val ∧ zh_J zh_s6 50 k.val = zt_EXPONENTS k.val ∧ zh_J zh_s6 51 k.val = zt_PRIVATE_EXPONENTS k.val := by decide +kernel
theorem zt_i10 : (∀ c : Fin 13, zh_I zh_s6 (10 + c.val) 5 = 0) ∧ ∀ i : Fin 7, zh_I zh_s6 (23 + 3 * i.val) 5 = 0 := by decide +kernel
theorem zq_R_k {a k : Nat} (h : (zq_R a k).isSome = true) : k < 24 := by
  by_cases hk : k < 24
  · exact hk
  · exfalso
    unfold zq_R at h
    by_cases h8 : a = 8
    · rw [if_pos h8, if_neg (by omega)] at h; exact absurd h (by decide)
    rw [if_neg h8] at h
    by_cases h9 : a = 9
    · rw [if_pos h9, if_neg (by omega)] at h; exact absurd h (by decide)
    rw [if_neg h9] at h
    by_cases h3 : 23 ≤ a ∧ a < 44 ∧ (a - 23) % 3 = 0
    · rw [if_pos h3, if_neg (by omega), if_neg (by omega)] at h; exact absurd h (by decide)
    rw [if_neg h3] at h
    have hb : ∀ x y : Nat, y < 24 → ((a, k) == (x, y)) = false := fun x y hx => by
      rw [beq_eq_false_iff_ne]; intro e; rw [Prod.mk.injEq] at e; omega
    simp (disch := decide) only [List.lookup, hb] at h
    exact absurd h (by decide)
theorem zp_none (n : Nat) (s : zh_S) (o : Nat) {D : Nat → Prop} (hD : ∀ d, ¬ D d) (h : zh_I s o 5 = 0) : zq_sb n s o D := ⟨0, by decide, h, fun d => ⟨fun e => (by rw [Nat.zero_testBit] at e; cases e), fun e => absurd e.1 (hD d)⟩⟩
theorem zq_in1 : zq_in 1 = true := by decide +kernel
theorem zp_init : zq_In 1000000 zh_s6 := by
  obtain ⟨⟨a1, a2, a3, a4⟩, ⟨b1, b2, b3, b4⟩, c1, c2, c3⟩ := zt_i7
  refine ⟨⟨fun a ha => by rw [zt_i4.1]; exact ha, fun a ha => zt_i5 ⟨a, ha⟩, fun a k h => ?_⟩, ⟨[], ?_⟩, ⟨zq_F0, fun _ => 0, fun _ => 0, 0, ⟨fun k hk => (zt_i8 ⟨k, hk⟩).1, fun k hk => (zt_i8 ⟨k, hk⟩).2, ?_⟩, ⟨⟨a3, fun k hk => absurd hk (Nat.not_lt_zero _)⟩, ⟨a4, fun k hk => absurd hk (Nat.not_lt_zero _)⟩, ⟨by decide, fun k hk => absurd hk (Nat.not_lt_zero _)⟩⟩, fun k hk => zt_i9 ⟨k, hk⟩⟩, ⟨0, 0, ⟨by decide, by decide⟩, ⟨b1, b2, b3, b4⟩, fun k hk => absurd hk (Nat.not_lt_zero _), fun k hk => absurd hk (Nat.not_lt_zero _), fun c hc => ?_, fun i hi => ?_⟩, Or.inl ⟨c1, c2, c3⟩⟩
  · have e := zt_i6 ⟨a, (zq_R_lt h).1⟩ ⟨k, zq_R_k h⟩
    rw [h] at e
    exact of_decide_eq_true e
  · exact ⟨⟨a1, by decide, fun b hb => (by cases hb), fun k hk => absurd hk (Nat.not_lt_zero _)⟩, ⟨a2, by decide, fun b hb => (by cases hb), fun k hk => absurd hk (Nat.not_lt_zero _)⟩⟩
  · exact ⟨by decide +kernel, ⟨zq_in1, zq_in1⟩, ⟨0, by decide, rfl⟩, Or.inl rfl, Or.inl rfl, Or.inl rfl, Or.inl rfl, Or.inl rfl, ⟨0, by decide, rfl⟩, 0, by decide, rfl⟩
  · exact zp_none _ _ _ (fun d h => by omega) (zt_i10.1 ⟨c, hc⟩)
  · exact zp_none _ _ _ (fun d h => by omega) (zt_i10.2 ⟨i, hi⟩)
theorem zo_get {β : Type} {o : Option β} (d : β) (h : o.isSome = true) : o = some (o.getD d) := by
  cases o with
  | none => cases h
  | some x => rfl
theorem zz_pure {L : Nat} {xs : Nat → Int32} (hL : L ≤ 4096) : ∃ z, zf_L_law 1000000 xs L zh_0 = some (1, z) ∧ zh_N z ≤ 600000 ∧ zh_M z ≤ 7302250 := by
  obtain ⟨⟨r, z⟩, e, e1, e2, e3⟩ := zp_law (n := 1000000) (xs := xs) (Nat.le_refl _) hL 512 0 1000000 zh_s6 (by omega) (by omega) (by omega) zp_init
  have hN := zt_i4
  refine ⟨z, ?_, by show zh_N (r, z).2 ≤ _; omega, by show zh_M (r, z).2 ≤ _; omega⟩
  have e1' : r = 1 := e1
  rw [e1'] at e
  rw [zf_L_law]
  refine ze_l (ze_l (ze_p (a := zh_s3) (zo_get zh_0 zt_i1) (ze_l (ze_l (ze_p (a := zh_s6) ?_ ?_)))))
  · rw [zt_i2]
    exact zo_get zh_0 zt_i3
  · rw [zt_i2]
    exact e
