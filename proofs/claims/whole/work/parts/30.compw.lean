/-! The class composes. -/
/-- signed: body, hash, signature, whole -/
def zq_fin (n : Nat) (F : Nat → Int64) (q : List Nat) : List Nat := zq_el (zq_el q ++ zq_eI (zq_v (zq_sg n (zq_v (F 12)) (zq_h (zq_el q) 0 (zq_el q).length))))
theorem zq_fin_len (n : Nat) (F : Nat → Int64) (q : List Nat) : (zq_fin n F q).length ≤ q.length + 16 := by
  unfold zq_fin
  have h1 := zq_el_len (zq_el q ++ zq_eI (zq_v (zq_sg n (zq_v (F 12)) (zq_h (zq_el q) 0 (zq_el q).length))))
  have h2 := zq_el_len q
  have h3 := zq_eI_len (zq_v (zq_sg n (zq_v (F 12)) (zq_h (zq_el q) 0 (zq_el q).length)))
  rw [List.length_append] at h1
  omega
def zq_bc (F : Nat → Int64) : List Nat := zq_eI (zq_v (F 0)) ++ (zq_eN 19 (zq_v (F 1)) ++ (zq_eI (zq_v (F 2)) ++ (zq_eI (zq_v (F 3)) ++ (zq_eN 19 (zq_v (F 4)) ++ (zq_eI (zq_v (zt_MODULI (zq_v (F 5)))) ++ (zq_eI (zq_v (zt_EXPONENTS (zq_v (F 5)))) ++ zq_xs F))))))
def zq_en (A B : Nat → Int64) : Nat → List Nat
  | 0 => []
  | k + 1 => zq_en A B k ++ zq_el (zq_eI (zq_v (A k)) ++ zq_eI (zq_v (B k)))
theorem zq_en_len (A B : Nat → Int64) (k : Nat) : (zq_en A B k).length ≤ 23 * k := by
  induction k with
  | zero => simp [zq_en]
  | succ k ih =>
    have h1 := zq_el_len (zq_eI (zq_v (A k)) ++ zq_eI (zq_v (B k)))
    have h2 := zq_eI_len (zq_v (A k))
    have h3 := zq_eI_len (zq_v (B k))
    rw [List.length_append] at h1
    rw [zq_en, List.length_append]
    omega
def zq_bl (F A B : Nat → Int64) (c : Nat) : List Nat := zq_eN 19 (zq_v (F 1)) ++ (zq_eI (zq_v (F 2)) ++ (zq_eI (zq_v (F 3)) ++ zq_el (zq_en A B c)))
theorem zq_xs_len {F : Nat → Int64} (ok : zq_ok F) : (zq_xs F).length ≤ 76 := by
  have := zq_xx_len ok
  unfold zq_xs
  split
  · simp
  · have := zq_el_len (zq_xx F); omega
/-- what the table of serials to be revoked holds -/
def zq_VV (s : zh_S) (A B : Nat → Int64) (c : Nat) : Prop := zh_I s 3 3 = nI c ∧ ∀ k, k < c → zh_J s 5 k = A k ∧ zh_J s 6 k = B k
def zq_VM (s : zh_S) (A B : Nat → Int64) (c : Nat) : Prop := zh_I s 44 3 = nI c ∧ ∀ k, k < c → zh_J s 47 k = A k ∧ zh_J s 48 k = B k
theorem zq_VV.ke {s t : zh_S} {A B : Nat → Int64} {c : Nat} (h : zq_VV s A B c) (f : zq_F zq_PD s t) : zq_VV t A B c :=
  ⟨by rw [(f.2 3 3 (by omega)).1]; exact h.1, fun k hk => ⟨by rw [(f.2 5 k (by omega)).2]; exact (h.2 k hk).1, by rw [(f.2 6 k (by omega)).2]; exact (h.2 k hk).2⟩⟩
theorem zq_VM.ke {s t : zh_S} {A B : Nat → Int64} {c : Nat} (h : zq_VM s A B c) (f : zq_F zq_PE s t) : zq_VM t A B c :=
  ⟨by rw [(f.2 44 3 (by omega)).1]; exact h.1, fun k hk => ⟨by rw [(f.2 47 k (by omega)).2]; exact (h.2 k hk).1, by rw [(f.2 48 k (by omega)).2]; exact (h.2 k hk).2⟩⟩
def zq_vok (A B : Nat → Int64) (c : Nat) : Prop := c ≤ 4 ∧ ∀ k, k < c → ¬ A k < 0 ∧ ¬ B k < 0
theorem zn_mod {k : Nat} (hk : k < 6) : zq_v (zt_MODULI k) < 2 ^ 63 ∧ zt_MODULI k = lN (zq_v (zt_MODULI k)) ∧ zq_v (zt_EXPONENTS k) < 2 ^ 63 ∧ zt_EXPONENTS k = lN (zq_v (zt_EXPONENTS k)) := by
  rcases (show k = 0 ∨ k = 1 ∨ k = 2 ∨ k = 3 ∨ k = 4 ∨ k = 5 by omega) with rfl | rfl | rfl | rfl | rfl | rfl <;> decide +kernel
section CW
variable {n : Nat} {F : Nat → Int64} {s : zh_S}
theorem zp_fin (hn : 300 ≤ n) (ok : zq_ok F) (w : zq_w s) {q : List Nat} (d : zq_dV s q) (T : zq_TV s F) (hl : q.length ≤ 160) : ∃ x, zf_Tool_finish n s 3 1 = some x ∧ x.1 = nI (zq_fin n F q).length ∧ zq_dV x.2 (zq_fin n F q) ∧ zq_F zq_PD s x.2 := by
  obtain ⟨k, hk, h12⟩ := ok.2.2.2.2.2.2.2.2.2
  have hv12 : zq_v (F 12) = k := by rw [h12, zq_v_lN (by omega)]
  obtain ⟨s1, e1, d1, f1⟩ := zp_wr (n := n) (l := []) w d (by simp; omega)
  have w1 := f1.w w
  have T1 := T.ke f1
  rw [List.nil_append] at d1
  have l1 := zq_el_len q
  have e2 := zp_hash hn w1 d1 (i := 0) (Nat.le_refl _) (by omega)
  obtain ⟨v, hv, g1, g2, -⟩ := zn_signature (n := n) (by omega) hk (zq_h (zq_el q) 0 (zq_el q).length)
  obtain ⟨s2, e3, d2, f2⟩ := zp_int (n := n) (by omega) (v := v) (by omega) w1 d1 (by omega)
  have w2 := f2.w w1
  have l2 := zq_eI_len v
  obtain ⟨s3, e4, d3, f3⟩ := zp_wr (n := n) (l := []) w2 d2 (by simp; omega)
  have w3 := f3.w w2
  have es : zq_v (zq_sg n (zq_v (F 12)) (zq_h (zq_el q) 0 (zq_el q).length)) = v := by rw [hv12, g2, zq_v_lN (by omega)]
  rw [List.nil_append] at d3
  have d3' : zq_dV s3 (zq_fin n F q) := by unfold zq_fin; rw [es]; exact d3
  rw [zf_Tool_finish]
  refine zv_ck ⟨zw_K1 w, zw_N1 w⟩ (zv_p e1 (zv_ck ⟨zw_K1 w1, zw_N1 w1⟩ (zv_p (a := zq_h (zq_el q) 0 (zq_el q).length) ?_ (zv_ck ⟨zw_K3 w1, zw_N3 w1⟩ (zv_p (zw_R3_0 w1) (zv_ck (zw_A4 w1 (i := 12) (by decide)) (zv_p (a := lN v) ?_ (zv_p e3 (zv_ck ⟨zw_K1 w2, zw_N1 w2⟩ (zv_p e4 (zv_ck ⟨zw_K1 w3, zw_N1 w3⟩ (zv_r ⟨d3'.1, d3', (f1.tr f2).tr f3⟩))))))))))))
  · show zf_Draft_hash n s1 1 0 (zh_I s1 1 1) = _
    rw [d1.1]; exact e2
  · show zf_Numbers_signature n (zh_J s1 4 12).toInt32 _ = _
    rw [T1 12 (by decide), h12, lN_i]; exact g1
theorem zp_wC (hn : 300 ≤ n) (ok : zq_ok F) (w : zq_w s) {l0 : List Nat} (d : zq_dV s l0) (T : zq_TV s F) : ∃ x, zf_V_compose n s 0 = some x ∧ x.1 = nI (zq_fin n F (zq_bc F)).length ∧ zq_dV x.2 (zq_fin n F (zq_bc F)) ∧ zq_F zq_PD s x.2 := by
  obtain ⟨k5, hk5, h5⟩ := ok.2.2.1
  have hv5 : zq_v (F 5) = k5 := by rw [h5, zq_v_lN (by omega)]
  obtain ⟨o0, o2, o3⟩ := ok.1
  obtain ⟨o1, o4⟩ := ok.2.1
  obtain ⟨m1, m2, m3, m4⟩ := zn_mod hk5
  obtain ⟨a0, b0⟩ := zq_v_of o0
  obtain ⟨a2, b2⟩ := zq_v_of o2
  obtain ⟨a3, b3⟩ := zq_v_of o3
  obtain ⟨a1, b1⟩ := zq_v_in o1
  obtain ⟨a4, b4⟩ := zq_v_in o4
  have y0 := zq_eI_len (zq_v (F 0))
  have y1 := zq_eN_len 19 (zq_v (F 1))
  have y2 := zq_eI_len (zq_v (F 2))
  have y3 := zq_eI_len (zq_v (F 3))
  have y4 := zq_eN_len 19 (zq_v (F 4))
  have y5 := zq_eI_len (zq_v (zt_MODULI k5))
  have y6 := zq_eI_len (zq_v (zt_EXPONENTS k5))
  have y7 := zq_xs_len ok
  have fE : zq_F zq_PD s (zh_uI s 1 1 0) := zq_F.rf.uI (Or.inr ⟨rfl, rfl⟩) _
  have wE := fE.w w
  have dE : zq_dV (zh_uI s 1 1 0) [] := ⟨by rw [zs_II, if_pos ⟨rfl, rfl⟩]; rfl, by simp, by simp, fun j hj => by simp at hj⟩
  have eE : zf_Draft_empty n s 1 = some (zh_uI s 1 1 0) := by rw [zf_Draft_empty, if_pos ⟨zw_K1 w, zw_N1 w⟩]; rfl
  obtain ⟨s0, e0, d0, f0⟩ := zp_int (n := n) (by omega) b0 wE dE (by simp)
  have F0 := fE.tr f0
  have w0 := F0.w w
  have L0 : ([] ++ zq_eI (zq_v (F 0))).length ≤ 10 := by simp; exact y0
  obtain ⟨s1, e1, d1, f1⟩ := zp_name (n := n) (by omega) (tag := 19) (by decide) b1 w0 d0 (by omega)
  have F1 := F0.tr f1
  have w1 := F1.w w
  have L1 : ([] ++ zq_eI (zq_v (F 0)) ++ zq_eN 19 (zq_v (F 1))).length ≤ 20 := by rw [List.length_append]; omega
  obtain ⟨s2, e2, d2, f2⟩ := zp_int (n := n) (by omega) b2 w1 d1 (by omega)
  have F2 := F1.tr f2
  have w2 := F2.w w
  have L2 : ([] ++ zq_eI (zq_v (F 0)) ++ zq_eN 19 (zq_v (F 1)) ++ zq_eI (zq_v (F 2))).length ≤ 30 := by rw [List.length_append]; omega
  obtain ⟨s3, e3, d3, f3⟩ := zp_int (n := n) (by omega) b3 w2 d2 (by omega)
  have F3 := F2.tr f3
  have w3 := F3.w w
  have L3 : ([] ++ zq_eI (zq_v (F 0)) ++ zq_eN 19 (zq_v (F 1)) ++ zq_eI (zq_v (F 2)) ++ zq_eI (zq_v (F 3))).length ≤ 40 := by rw [List.length_append]; omega
  obtain ⟨s4, e4, d4, f4⟩ := zp_name (n := n) (by omega) (tag := 19) (by decide) b4 w3 d3 (by omega)
  have F4 := F3.tr f4
  have w4 := F4.w w
  have L4 : ([] ++ zq_eI (zq_v (F 0)) ++ zq_eN 19 (zq_v (F 1)) ++ zq_eI (zq_v (F 2)) ++ zq_eI (zq_v (F 3)) ++ zq_eN 19 (zq_v (F 4))).length ≤ 50 := by rw [List.length_append]; omega
  obtain ⟨s5, e5, d5, f5⟩ := zp_int (n := n) (by omega) m1 w4 d4 (by omega)
  have F5 := F4.tr f5
  have w5 := F5.w w
  have L5 : ([] ++ zq_eI (zq_v (F 0)) ++ zq_eN 19 (zq_v (F 1)) ++ zq_eI (zq_v (F 2)) ++ zq_eI (zq_v (F 3)) ++ zq_eN 19 (zq_v (F 4)) ++ zq_eI (zq_v (zt_MODULI k5))).length ≤ 60 := by rw [List.length_append]; omega
  obtain ⟨s6, e6, d6, f6⟩ := zp_int (n := n) (by omega) m3 w5 d5 (by omega)
  have F6 := F5.tr f6
  have w6 := F6.w w
  have L6 : ([] ++ zq_eI (zq_v (F 0)) ++ zq_eN 19 (zq_v (F 1)) ++ zq_eI (zq_v (F 2)) ++ zq_eI (zq_v (F 3)) ++ zq_eN 19 (zq_v (F 4)) ++ zq_eI (zq_v (zt_MODULI k5)) ++ zq_eI (zq_v (zt_EXPONENTS k5))).length ≤ 70 := by rw [List.length_append]; omega
  obtain ⟨s7, e7, d7, f7⟩ := zp_wX hn ok w6 d6 (T.ke F6) (by omega)
  have F7 := F6.tr f7
  have w7 := F7.w w
  have d7' : zq_dV s7 (zq_bc F) := by
    unfold zq_bc
    rw [hv5]
    simp only [List.append_assoc, List.nil_append] at d7
    exact d7
  have LB : (zq_bc F).length ≤ 160 := by
    unfold zq_bc
    rw [hv5]
    simp only [List.length_append]
    omega
  obtain ⟨x, ex, x1, x2, x3⟩ := zp_fin hn ok w7 d7' (T.ke F7) LB
  have i5 : (zh_J s 4 5).toInt32 = nI k5 := by rw [T 5 (by decide), h5, lN_i]
  have c5 : ¬ nI k5 < 0 ∧ (nI k5).toNatClampNeg < 6 := ⟨nI_pos (by omega), by rw [nI_clamp (by omega)]; exact hk5⟩
  have key : ∃ x, zf_Tool_writeCertificate n s 3 1 = some x ∧ x.1 = nI (zq_fin n F (zq_bc F)).length ∧ zq_dV x.2 (zq_fin n F (zq_bc F)) ∧ zq_F zq_PD s x.2 := by
    rw [zf_Tool_writeCertificate]
    refine zv_ck ⟨zw_K3 w, zw_N3 w⟩ (zv_p (zw_R3_0 w) (zv_ck (zw_A4 w (i := 5) (by decide)) ?_))
    rw [show zh_J s 4 ((5 : Int32).toNatClampNeg) = zh_J s 4 5 from rfl, i5]
    refine zv_l (zv_ck ⟨zw_K1 w, zw_N1 w⟩ (zv_p eE (zv_ck ⟨zw_K3 wE, zw_N3 wE⟩ (zv_p (zw_R3_0 wE) (zv_ck (zw_A4 wE (i := 0) (by decide)) (zv_ck ⟨zw_K1 wE, zw_N1 wE⟩ (zv_p (a := s0) ?_ ?_)))))))
    · show zf_Draft_appendInteger n _ 1 (zh_J (zh_uI s 1 1 0) 4 0) = _
      rw [(T.ke fE) 0 (by decide), a0]; exact e0
    refine zv_ck ⟨zw_K3 w0, zw_N3 w0⟩ (zv_p (zw_R3_0 w0) (zv_ck (zw_A4 w0 (i := 1) (by decide)) (zv_ck ⟨zw_K1 w0, zw_N1 w0⟩ (zv_p (a := s1) ?_ ?_))))
    · show zf_Draft_appendName n s0 1 19 (zh_J s0 4 1) = _
      rw [(T.ke F0) 1 (by decide), a1]; exact e1
    refine zv_ck ⟨zw_K3 w1, zw_N3 w1⟩ (zv_p (zw_R3_0 w1) (zv_ck (zw_A4 w1 (i := 2) (by decide)) (zv_ck ⟨zw_K1 w1, zw_N1 w1⟩ (zv_p (a := s2) ?_ ?_))))
    · show zf_Draft_appendInteger n s1 1 (zh_J s1 4 2) = _
      rw [(T.ke F1) 2 (by decide), a2]; exact e2
    refine zv_ck ⟨zw_K3 w2, zw_N3 w2⟩ (zv_p (zw_R3_0 w2) (zv_ck (zw_A4 w2 (i := 3) (by decide)) (zv_ck ⟨zw_K1 w2, zw_N1 w2⟩ (zv_p (a := s3) ?_ ?_))))
    · show zf_Draft_appendInteger n s2 1 (zh_J s2 4 3) = _
      rw [(T.ke F2) 3 (by decide), a3]; exact e3
    refine zv_ck ⟨zw_K3 w3, zw_N3 w3⟩ (zv_p (zw_R3_0 w3) (zv_ck (zw_A4 w3 (i := 4) (by decide)) (zv_ck ⟨zw_K1 w3, zw_N1 w3⟩ (zv_p (a := s4) ?_ ?_))))
    · show zf_Draft_appendName n s3 1 19 (zh_J s3 4 4) = _
      rw [(T.ke F3) 4 (by decide), a4]; exact e4
    refine zv_ck c5 (zv_ck ⟨zw_K1 w4, zw_N1 w4⟩ (zv_p (a := s5) ?_ (zv_ck c5 (zv_ck ⟨zw_K1 w5, zw_N1 w5⟩ (zv_p (a := s6) ?_ (zv_ck ⟨zw_K3 w6, zw_N3 w6⟩ (zv_p e7 (zv_ck ⟨zw_K3 w7, zw_N3 w7⟩ (zv_b (a := x.1) (b := x.2) ex (zv_r ⟨x1, x2, F7.tr x3⟩))))))))))
    · show zf_Draft_appendInteger n s4 1 (zt_MODULI (nI k5).toNatClampNeg) = _
      rw [nI_clamp (by omega), m2]; exact e5
    · show zf_Draft_appendInteger n s5 1 (zt_EXPONENTS (nI k5).toNatClampNeg) = _
      rw [nI_clamp (by omega), m4]; exact e6
  obtain ⟨z, ez, hz⟩ := key
  rw [zf_V_compose]
  exact zv_ck ⟨zw_K0 w, zw_N0 w⟩ (zv_p (zw_R0_1 w) (zv_p (zw_R0_0 w) (zv_ck ⟨zw_K3 w, zw_N3 w⟩ (zv_b (a := z.1) (b := z.2) ez (zv_r hz)))))
end CW
