/-! The reference composes certificates and lists. -/
section CN
variable {n : Nat} {F : Nat → Int64} {s : zh_S}
theorem zp_mC (hn : 300 ≤ n) (ok : zq_ok F) (w : zq_w s) (T : zq_TM s F) (M : zq_MT s) : ∃ x, zf_M_compose n s 44 = some x ∧ x.1 = nI (zq_fin n F (zq_bc F)).length ∧ zq_dM x.2 (zq_fin n F (zq_bc F)) ∧ zq_F zq_PE s x.2 := by
  obtain ⟨k5, hk5, h5⟩ := ok.2.2.1
  have hv5 : zq_v (F 5) = k5 := by rw [h5, zq_v_lN (by omega)]
  obtain ⟨o0, o2, o3⟩ := ok.1
  obtain ⟨o1, o4⟩ := ok.2.1
  obtain ⟨m1, m2, m3, m4⟩ := zn_mod hk5
  obtain ⟨a0, b0⟩ := zq_v_of o0
  obtain ⟨a2, b2⟩ := zq_v_of o2
  obtain ⟨a3, b3⟩ := zq_v_of o3
  obtain ⟨a1, b1⟩ := zq_v_in o1
  obtain ⟨a4, b4⟩ := zq_v_in o4
  have y0 := zq_eI_len (zq_v (F 0))
  have y1 := zq_eN_len 19 (zq_v (F 1))
  have y2 := zq_eI_len (zq_v (F 2))
  have y3 := zq_eI_len (zq_v (F 3))
  have y4 := zq_eN_len 19 (zq_v (F 4))
  have y5 := zq_eI_len (zq_v (zt_MODULI k5))
  have y6 := zq_eI_len (zq_v (zt_EXPONENTS k5))
  have y7 := zq_xs_len ok
  have fE : zq_F zq_PE s (zh_uI s 44 1 0) := zq_F.rf.uI (Or.inr ⟨rfl, rfl⟩) _
  have wE := fE.w w
  have dE : zq_dM (zh_uI s 44 1 0) [] := ⟨by rw [zs_II, if_pos ⟨rfl, rfl⟩]; rfl, by simp, by simp, fun j hj => by simp at hj⟩
  obtain ⟨s0, e0, d0, f0⟩ := zp_mint (n := n) (by omega) b0 wE dE (by simp)
  have F0 := fE.tr f0
  have w0 := F0.w w
  have L0 : ([] ++ zq_eI (zq_v (F 0))).length ≤ 10 := by simp; exact y0
  obtain ⟨s1, e1, d1, f1⟩ := zp_mname (n := n) (by omega) (tag := 19) (by decide) b1 w0 d0 (by omega)
  have F1 := F0.tr f1
  have w1 := F1.w w
  have L1 : ([] ++ zq_eI (zq_v (F 0)) ++ zq_eN 19 (zq_v (F 1))).length ≤ 20 := by rw [List.length_append]; omega
  obtain ⟨s2, e2, d2, f2⟩ := zp_mint (n := n) (by omega) b2 w1 d1 (by omega)
  have F2 := F1.tr f2
  have w2 := F2.w w
  have L2 : ([] ++ zq_eI (zq_v (F 0)) ++ zq_eN 19 (zq_v (F 1)) ++ zq_eI (zq_v (F 2))).length ≤ 30 := by rw [List.length_append]; omega
  obtain ⟨s3, e3, d3, f3⟩ := zp_mint (n := n) (by omega) b3 w2 d2 (by omega)
  have F3 := F2.tr f3
  have w3 := F3.w w
  have L3 : ([] ++ zq_eI (zq_v (F 0)) ++ zq_eN 19 (zq_v (F 1)) ++ zq_eI (zq_v (F 2)) ++ zq_eI (zq_v (F 3))).length ≤ 40 := by rw [List.length_append]; omega
  obtain ⟨s4, e4, d4, f4⟩ := zp_mname (n := n) (by omega) (tag := 19) (by decide) b4 w3 d3 (by omega)
  have F4 := F3.tr f4
  have w4 := F4.w w
  have L4 : ([] ++ zq_eI (zq_v (F 0)) ++ zq_eN 19 (zq_v (F 1)) ++ zq_eI (zq_v (F 2)) ++ zq_eI (zq_v (F 3)) ++ zq_eN 19 (zq_v (F 4))).length ≤ 50 := by rw [List.length_append]; omega
  obtain ⟨s5, e5, d5, f5⟩ := zp_mint (n := n) (by omega) m1 w4 d4 (by omega)
  have F5 := F4.tr f5
  have w5 := F5.w w
  have L5 : ([] ++ zq_eI (zq_v (F 0)) ++ zq_eN 19 (zq_v (F 1)) ++ zq_eI (zq_v (F 2)) ++ zq_eI (zq_v (F 3)) ++ zq_eN 19 (zq_v (F 4)) ++ zq_eI (zq_v (zt_MODULI k5))).length ≤ 60 := by rw [List.length_append]; omega
  obtain ⟨s6, e6, d6, f6⟩ := zp_mint (n := n) (by omega) m3 w5 d5 (by omega)
  have F6 := F5.tr f6
  have w6 := F6.w w
  have L6 : ([] ++ zq_eI (zq_v (F 0)) ++ zq_eN 19 (zq_v (F 1)) ++ zq_eI (zq_v (F 2)) ++ zq_eI (zq_v (F 3)) ++ zq_eN 19 (zq_v (F 4)) ++ zq_eI (zq_v (zt_MODULI k5)) ++ zq_eI (zq_v (zt_EXPONENTS k5))).length ≤ 70 := by rw [List.length_append]; omega
  obtain ⟨s7, e7, d7, f7⟩ := zp_mX hn ok w6 d6 (T.ke F6) (by omega)
  have F7 := F6.tr f7
  have w7 := F7.w w
  have d7' : zq_dM s7 (zq_bc F) := by
    unfold zq_bc
    rw [hv5]
    simp only [List.append_assoc, List.nil_append] at d7
    exact d7
  have LB : (zq_bc F).length ≤ 160 := by
    unfold zq_bc
    rw [hv5]
    simp only [List.length_append]
    omega
  obtain ⟨x, ex, x1, x2, x3⟩ := zp_mfin hn ok w7 d7' (T.ke F7) (M.kE F7) LB
  have i4 : (zh_J s4 46 5).toInt32 = nI k5 := by rw [(T.ke F4) 5 (by decide), h5, lN_i]
  have i5 : (zh_J s5 46 5).toInt32 = nI k5 := by rw [(T.ke F5) 5 (by decide), h5, lN_i]
  rw [zf_M_compose]
  refine zv_ck ⟨zw_K44 w, zw_N44 w⟩ (zv_l (zv_p (zw_R44_2 wE) (zv_ck (zw_A46 wE (i := 0) (by decide)) (zv_p (a := s0) ?_ ?_))))
  · show zf_M_integer n _ 44 (zh_J (zh_uI s 44 1 0) 46 0) = _
    rw [(T.ke fE) 0 (by decide), a0]; exact e0
  refine zv_ck ⟨zw_K44 w0, zw_N44 w0⟩ (zv_p (zw_R44_2 w0) (zv_ck (zw_A46 w0 (i := 1) (by decide)) (zv_p (a := s1) ?_ ?_)))
  · show zf_M_name n s0 44 19 (zh_J s0 46 1) = _
    rw [(T.ke F0) 1 (by decide), a1]; exact e1
  refine zv_ck ⟨zw_K44 w1, zw_N44 w1⟩ (zv_p (zw_R44_2 w1) (zv_ck (zw_A46 w1 (i := 2) (by decide)) (zv_p (a := s2) ?_ ?_)))
  · show zf_M_integer n s1 44 (zh_J s1 46 2) = _
    rw [(T.ke F1) 2 (by decide), a2]; exact e2
  refine zv_ck ⟨zw_K44 w2, zw_N44 w2⟩ (zv_p (zw_R44_2 w2) (zv_ck (zw_A46 w2 (i := 3) (by decide)) (zv_p (a := s3) ?_ ?_)))
  · show zf_M_integer n s2 44 (zh_J s2 46 3) = _
    rw [(T.ke F2) 3 (by decide), a3]; exact e3
  refine zv_ck ⟨zw_K44 w3, zw_N44 w3⟩ (zv_p (zw_R44_2 w3) (zv_ck (zw_A46 w3 (i := 4) (by decide)) (zv_p (a := s4) ?_ ?_)))
  · show zf_M_name n s3 44 19 (zh_J s3 46 4) = _
    rw [(T.ke F3) 4 (by decide), a4]; exact e4
  refine zv_ck ⟨zw_K44 w4, zw_N44 w4⟩ (zv_p (zw_R44_6 w4) (zv_p (zw_R44_2 w4) (zv_ck (zw_A46 w4 (i := 5) (by decide)) ?_)))
  show ∃ x, (if zh_oa s4 49 1 (zh_J s4 46 5).toInt32 then zk_p (zf_M_integer n s4 44 (zh_J s4 49 (zh_J s4 46 5).toInt32.toNatClampNeg)) _ else none) = some x ∧ _
  rw [i4]
  refine zv_ck (zw_A49 w4 hk5) (zv_p (a := s5) ?_ ?_)
  · rw [nI_clamp (by omega), ((M.kE F4) k5 hk5).1, m2]; exact e5
  refine zv_ck ⟨zw_K44 w5, zw_N44 w5⟩ (zv_p (zw_R44_7 w5) (zv_p (zw_R44_2 w5) (zv_ck (zw_A46 w5 (i := 5) (by decide)) ?_)))
  show ∃ x, (if zh_oa s5 50 1 (zh_J s5 46 5).toInt32 then zk_p (zf_M_integer n s5 44 (zh_J s5 50 (zh_J s5 46 5).toInt32.toNatClampNeg)) _ else none) = some x ∧ _
  rw [i5]
  refine zv_ck (zw_A50 w5 hk5) (zv_p (a := s6) ?_ ?_)
  · rw [nI_clamp (by omega), ((M.kE F5) k5 hk5).2.1, m4]; exact e6
  exact zv_ck ⟨zw_K44 w6, zw_N44 w6⟩ (zv_p e7 (zv_ck ⟨zw_K44 w7, zw_N44 w7⟩ (zv_b (a := x.1) (b := x.2) ex (zv_r ⟨x1, x2, F7.tr x3⟩))))
theorem zp_mLl (hn : 300 ≤ n) (ok : zq_ok F) {A B : Nat → Int64} {c : Nat} (vo : zq_vok A B c) (p : List Nat) (hp : p.length ≤ 30) : ∀ (r f k : Nat) (s : zh_S), zq_w s → zq_dM s (p ++ zq_en A B k) → zq_TM s F → zq_MT s → zq_VM s A B c → c - k = r → k ≤ c → r < f → ∃ x, zl_M_composeList_44 n f s 44 (nI p.length) (nI k) = some x ∧ x.1 = nI (zq_fin n F (p ++ zq_el (zq_en A B c))).length ∧ zq_dM x.2 (zq_fin n F (p ++ zq_el (zq_en A B c))) ∧ zq_F zq_PE s x.2 := by
  have c4 := vo.1
  intro r
  induction r with
  | zero =>
    intro f k s w d T M V h1 h2 hf
    obtain ⟨f, rfl⟩ : ∃ q, f = q + 1 := ⟨f - 1, by omega⟩
    have : k = c := by omega
    subst this
    have ln := zq_en_len A B k
    obtain ⟨s1, e1, d1, f1⟩ := zp_mwr hn w d (by omega)
    have w1 := f1.w w
    have l1 := zq_el_len (zq_en A B k)
    obtain ⟨x, ex, x1, x2, x3⟩ := zp_mfin hn ok w1 d1 (T.ke f1) (M.kE f1) (by rw [List.length_append]; omega)
    rw [zl_M_composeList_44]
    refine zv_ck ⟨zw_K44 w, zw_N44 w⟩ (zv_t ?_ (zv_p e1 (zv_ck ⟨zw_K44 w1, zw_N44 w1⟩ (zv_b (a := x.1) (b := x.2) ex (zv_r ⟨x1, x2, f1.tr x3⟩)))))
    rw [V.1]; exact nI_le (Nat.le_refl _) (by omega)
  | succ r ih =>
    intro f k s w d T M V h1 h2 hf
    obtain ⟨f, rfl⟩ : ∃ q, f = q + 1 := ⟨f - 1, by omega⟩
    have ln := zq_en_len A B k
    have ln1 := zq_en_len A B (k + 1)
    obtain ⟨oa, ob⟩ := vo.2 k (by omega)
    obtain ⟨a1, b1⟩ := zq_v_of oa
    obtain ⟨a2, b2⟩ := zq_v_of ob
    have y1 := zq_eI_len (zq_v (A k))
    have y2 := zq_eI_len (zq_v (B k))
    obtain ⟨s1, e1, d1, f1⟩ := zp_mint (n := n) (by omega) b1 w d (by rw [List.length_append]; omega)
    have w1 := f1.w w
    obtain ⟨s2, e2, d2, f2⟩ := zp_mint (n := n) (by omega) b2 w1 d1 (by rw [List.length_append, List.length_append]; omega)
    have F2 := f1.tr f2
    have w2 := F2.w w
    have d2' : zq_dM s2 ((p ++ zq_en A B k) ++ (zq_eI (zq_v (A k)) ++ zq_eI (zq_v (B k)))) := by simp only [List.append_assoc] at d2 ⊢; exact d2
    obtain ⟨s3, e3, d3, f3⟩ := zp_mwr hn w2 d2' (by simp only [List.length_append]; omega)
    have F3 := F2.tr f3
    have w3 := F3.w w
    have d3' : zq_dM s3 (p ++ zq_en A B (k + 1)) := by rw [zq_en]; simp only [List.append_assoc] at d3 ⊢; exact d3
    obtain ⟨x, ex, x1, x2, x3⟩ := ih f (k + 1) s3 w3 d3' (T.ke F3) (M.kE F3) (V.ke F3) (by omega) (by omega) (by omega)
    rw [zl_M_composeList_44, d.1]
    refine zv_ck ⟨zw_K44 w, zw_N44 w⟩ (zv_f ?_ (zv_l (zv_p (zw_R44_4 w) (zv_ck (zw_A47 w (i := k) (by omega)) (zv_p (a := s1) ?_ (zv_ck ⟨zw_K44 w1, zw_N44 w1⟩ (zv_p (zw_R44_5 w1) (zv_ck (zw_A48 w1 (i := k) (by omega)) (zv_p (a := s2) ?_ (zv_ck ⟨zw_K44 w2, zw_N44 w2⟩ (zv_p e3 (zv_l ?_))))))))))))
    · rw [V.1]; exact nI_ge (by omega) (by omega)
    · show zf_M_integer n s 44 (zh_J s 47 (nI k).toNatClampNeg) = _
      rw [nI_clamp (by omega), (V.2 k (by omega)).1, a1]; exact e1
    · show zf_M_integer n s1 44 (zh_J s1 48 (nI k).toNatClampNeg) = _
      rw [nI_clamp (by omega), ((V.ke f1).2 k (by omega)).2, a2]; exact e2
    · show ∃ x, zl_M_composeList_44 n f s3 44 (nI p.length) (nI k + 1) = some x ∧ _
      rw [nI_1]
      exact ⟨x, ex, x1, x2, F3.tr x3⟩
theorem zp_mL (hn : 300 ≤ n) (ok : zq_ok F) {A B : Nat → Int64} {c : Nat} (vo : zq_vok A B c) (w : zq_w s) (T : zq_TM s F) (M : zq_MT s) (V : zq_VM s A B c) : ∃ x, zf_M_composeList n s 44 = some x ∧ x.1 = nI (zq_fin n F (zq_bl F A B c)).length ∧ zq_dM x.2 (zq_fin n F (zq_bl F A B c)) ∧ zq_F zq_PE s x.2 := by
  obtain ⟨-, o2, o3⟩ := ok.1
  obtain ⟨o1, -⟩ := ok.2.1
  obtain ⟨a2, b2⟩ := zq_v_of o2
  obtain ⟨a3, b3⟩ := zq_v_of o3
  obtain ⟨a1, b1⟩ := zq_v_in o1
  have y1 := zq_eN_len 19 (zq_v (F 1))
  have y2 := zq_eI_len (zq_v (F 2))
  have y3 := zq_eI_len (zq_v (F 3))
  have fE : zq_F zq_PE s (zh_uI s 44 1 0) := zq_F.rf.uI (Or.inr ⟨rfl, rfl⟩) _
  have wE := fE.w w
  have dE : zq_dM (zh_uI s 44 1 0) [] := ⟨by rw [zs_II, if_pos ⟨rfl, rfl⟩]; rfl, by simp, by simp, fun j hj => by simp at hj⟩
  obtain ⟨s1, e1, d1, f1⟩ := zp_mname (n := n) (by omega) (tag := 19) (by decide) b1 wE dE (by simp)
  have F1 := fE.tr f1
  have w1 := F1.w w
  have L1 : ([] ++ zq_eN 19 (zq_v (F 1))).length ≤ 10 := by simp; exact y1
  obtain ⟨s2, e2, d2, f2⟩ := zp_mint (n := n) (by omega) b2 w1 d1 (by omega)
  have F2 := F1.tr f2
  have w2 := F2.w w
  have L2 : ([] ++ zq_eN 19 (zq_v (F 1)) ++ zq_eI (zq_v (F 2))).length ≤ 20 := by rw [List.length_append]; omega
  obtain ⟨s3, e3, d3, f3⟩ := zp_mint (n := n) (by omega) b3 w2 d2 (by omega)
  have F3 := F2.tr f3
  have w3 := F3.w w
  have L3 : ([] ++ zq_eN 19 (zq_v (F 1)) ++ zq_eI (zq_v (F 2)) ++ zq_eI (zq_v (F 3))).length ≤ 30 := by rw [List.length_append]; omega
  obtain ⟨x, ex, x1, x2, x3⟩ := zp_mLl hn ok vo ([] ++ zq_eN 19 (zq_v (F 1)) ++ zq_eI (zq_v (F 2)) ++ zq_eI (zq_v (F 3))) L3 c n 0 s3 w3 (by rw [zq_en, List.append_nil]; exact d3) (T.ke F3) (M.kE F3) (V.ke F3) (by omega) (by omega) (by have := vo.1; omega)
  have eb : ([] ++ zq_eN 19 (zq_v (F 1)) ++ zq_eI (zq_v (F 2)) ++ zq_eI (zq_v (F 3))) ++ zq_el (zq_en A B c) = zq_bl F A B c := by
    unfold zq_bl; simp only [List.append_assoc, List.nil_append]
  rw [eb] at x1 x2
  rw [zf_M_composeList]
  refine zv_ck ⟨zw_K44 w, zw_N44 w⟩ (zv_l (zv_p (zw_R44_2 wE) (zv_ck (zw_A46 wE (i := 1) (by decide)) (zv_p (a := s1) ?_ ?_))))
  · show zf_M_name n _ 44 19 (zh_J (zh_uI s 44 1 0) 46 1) = _
    rw [(T.ke fE) 1 (by decide), a1]; exact e1
  refine zv_ck ⟨zw_K44 w1, zw_N44 w1⟩ (zv_p (zw_R44_2 w1) (zv_ck (zw_A46 w1 (i := 2) (by decide)) (zv_p (a := s2) ?_ ?_)))
  · show zf_M_integer n s1 44 (zh_J s1 46 2) = _
    rw [(T.ke F1) 2 (by decide), a2]; exact e2
  refine zv_ck ⟨zw_K44 w2, zw_N44 w2⟩ (zv_p (zw_R44_2 w2) (zv_ck (zw_A46 w2 (i := 3) (by decide)) (zv_p (a := s3) ?_ (zv_ck ⟨zw_K44 w3, zw_N44 w3⟩ (zv_l ?_)))))
  · show zf_M_integer n s2 44 (zh_J s2 46 3) = _
    rw [(T.ke F2) 3 (by decide), a3]; exact e3
  · show ∃ x, zl_M_composeList_44 n n s3 44 (zh_I s3 44 1) 0 = some x ∧ _
    rw [d3.1]
    exact ⟨x, ex, x1, x2, F3.tr x3⟩
end CN
