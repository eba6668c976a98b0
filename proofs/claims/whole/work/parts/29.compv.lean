/-! The class's tool writes the extensions. -/
section CV
variable {n : Nat} {F : Nat → Int64} {s : zh_S} {l : List Nat}
theorem zp_wB (hn : 300 ≤ n) (ok : zq_ok F) (w : zq_w s) (d : zq_dV s l) (T : zq_TV s F) (h6 : ¬ F 6 = -1) (hl : l.length + 40 ≤ 200) : ∃ t, zf_Tool_writeBasic n s 3 1 = some t ∧ zq_dV t (l ++ zq_xB F) ∧ zq_F zq_PD s t := by
  obtain ⟨s1, e1, d1, f1⟩ := zp_int (n := n) (by omega) (v := 1) (by omega) w d (by omega)
  have w1 := f1.w w
  have L1 : (l ++ zq_eI 1).length = l.length + 3 := by rw [List.length_append, zq_l3 (by omega)]
  obtain ⟨s2, e2, d2, f2⟩ := zp_true (n := n) w1 d1 (by omega)
  have w2 := f2.w w1
  have f12 := f1.tr f2
  have L2 : (l ++ zq_eI 1 ++ zq_y).length = l.length + 6 := by rw [List.length_append, L1]; rfl
  have T2 := T.ke f12
  have fin : ∀ (u : zh_S) (q : List Nat), zq_F zq_PD s u → q = zq_xb F → zq_dV u (l ++ zq_eI 1 ++ zq_y ++ q) → ∃ t, zb_Tool_writeBasic_58 n u 1 (nI l.length) (nI (l ++ zq_eI 1 ++ zq_y).length) = some t ∧ zq_dV t (l ++ zq_xB F) ∧ zq_F zq_PD s t := by
    intro u q fu hq du
    subst hq
    have wu := fu.w w
    have lb := zq_xb_len ok
    obtain ⟨u1, g1, h1, k1⟩ := zp_wr (n := n) wu du (by omega)
    have wu1 := k1.w wu
    have le := zq_el_len (zq_xb F)
    have h1' : zq_dV u1 (l ++ (zq_eI 1 ++ (zq_y ++ zq_el (zq_xb F)))) := by rw [List.append_assoc, List.append_assoc] at h1; exact h1
    obtain ⟨u2, g2, h2, k2⟩ := zp_wr (n := n) wu1 h1' (by rw [List.length_append, List.length_append, zq_l3 (by omega)]; simp only [List.length_cons, List.length_nil]; omega)
    rw [zb_Tool_writeBasic_58]
    refine zv_ck ⟨zw_K1 wu, zw_N1 wu⟩ (zv_p g1 (zv_ck ⟨zw_K1 wu1, zw_N1 wu1⟩ (zv_p g2 (zv_r ⟨?_, (fu.tr k1).tr k2⟩))))
    unfold zq_xB
    rw [if_neg h6]
    exact h2
  rw [zf_Tool_writeBasic, d.1]
  refine zv_ck ⟨zw_K1 w, zw_N1 w⟩ (zv_l (zv_p e1 (zv_ck ⟨zw_K1 w1, zw_N1 w1⟩ (zv_p e2 (zv_ck ⟨zw_K1 w2, zw_N1 w2⟩ ?_)))))
  rw [d2.1]
  refine zv_l (zv_ck ⟨zw_K3 w2, zw_N3 w2⟩ (zv_p (zw_R3_0 w2) (zv_ck (zw_A4 w2 (i := 6) (by decide)) ?_)))
  by_cases c6 : F 6 = lN 1
  · obtain ⟨s3, e3, d3, f3⟩ := zp_true (n := n) w2 d2 (show (l ++ zq_eI 1 ++ zq_y).length + 10 ≤ 200 by omega)
    have w3 := f3.w w2
    have f13 := f12.tr f3
    have T3 := T.ke f13
    have L3 : (l ++ zq_eI 1 ++ zq_y ++ zq_y).length = l.length + 9 := by rw [List.length_append, L2]; rfl
    refine zv_t ?_ (zv_p e3 (zv_ck ⟨zw_K3 w3, zw_N3 w3⟩ (zv_p (zw_R3_0 w3) (zv_ck (zw_A4 w3 (i := 7) (by decide)) ?_))))
    · show lg_cmp (zh_J s2 4 6) 1 = 0
      rw [T2 6 (by decide), lg_cmp_eq]; exact c6
    by_cases c7 : F 7 = -1
    · refine zv_t ?_ (fin s3 zq_y f13 ?_ d3)
      · show lg_cmp (zh_J s3 4 7) 0 < 0
        rw [T3 7 (by decide), lg_cmp_lt, c7]; decide
      · unfold zq_xb; rw [if_pos c6, if_pos c7, List.append_nil]
    · rcases ok.2.2.2.2.1 with h | ⟨k, hk, h⟩
      · exact absurd h c7
      · obtain ⟨s4, e4, d4, f4⟩ := zp_int (n := n) (by omega) (v := k) (by omega) w3 d3 (show (l ++ zq_eI 1 ++ zq_y ++ zq_y).length + 10 ≤ 200 by omega)
        refine zv_f ?_ (zv_p (zw_R3_0 w3) (zv_ck (zw_A4 w3 (i := 7) (by decide)) (zv_ck ⟨zw_K1 w3, zw_N1 w3⟩ (zv_p (a := s4) ?_ (fin s4 (zq_y ++ zq_eI k) (f13.tr f4) ?_ ?_)))))
        · show ¬ lg_cmp (zh_J s3 4 7) 0 < 0
          rw [T3 7 (by decide), lg_cmp_lt, h, zl_0, pk_lLT (by omega) (by omega)]; omega
        · show zf_Draft_appendInteger n s3 1 (zh_J s3 4 7) = some s4
          rw [T3 7 (by decide), h]; exact e4
        · unfold zq_xb; rw [if_pos c6, if_neg c7, h, zq_v_lN (by omega)]
        · rw [← List.append_assoc]; exact d4
  · refine zv_f ?_ (fin s2 [] f12 ?_ ?_)
    · show ¬ lg_cmp (zh_J s2 4 6) 1 = 0
      rw [T2 6 (by decide), lg_cmp_eq]; exact c6
    · unfold zq_xb; rw [if_neg c6]
    · rw [List.append_nil]; exact d2
theorem zp_wU (hn : 300 ≤ n) (ok : zq_ok F) (w : zq_w s) (d : zq_dV s l) (T : zq_TV s F) (h8 : ¬ F 8 = -1) (hl : l.length + 40 ≤ 200) : ∃ t, zf_Tool_writeUsage n s 3 1 = some t ∧ zq_dV t (l ++ zq_xU F) ∧ zq_F zq_PD s t := by
  rcases ok.2.2.2.2.2.1 with h | ⟨k, k1, hk, h⟩
  · exact absurd h h8
  obtain ⟨s1, e1, d1, f1⟩ := zp_int (n := n) (by omega) (v := 2) (by omega) w d (by omega)
  have w1 := f1.w w
  have L1 : (l ++ zq_eI 2).length = l.length + 3 := by rw [List.length_append, zq_l3 (by omega)]
  obtain ⟨s2, e2, d2, f2⟩ := zp_true (n := n) w1 d1 (by omega)
  have w2 := f2.w w1
  have f12 := f1.tr f2
  have L2 : (l ++ zq_eI 2 ++ zq_y).length = l.length + 6 := by rw [List.length_append, L1]; rfl
  have T2 := T.ke f12
  obtain ⟨s3, e3, d3, f3⟩ := zp_int (n := n) (by omega) (v := k) (by omega) w2 d2 (show (l ++ zq_eI 2 ++ zq_y).length + 10 ≤ 200 by omega)
  have w3 := f3.w w2
  have d3' : zq_dV s3 (l ++ (zq_eI 2 ++ (zq_y ++ zq_eI k))) := by rw [List.append_assoc, List.append_assoc] at d3; exact d3
  obtain ⟨s4, e4, d4, f4⟩ := zp_wr (n := n) w3 d3' (by rw [List.length_append, List.length_append, zq_l3 (by omega), zq_l3 (by omega)]; simp only [List.length_cons, List.length_nil]; omega)
  rw [zf_Tool_writeUsage, d.1]
  refine zv_ck ⟨zw_K1 w, zw_N1 w⟩ (zv_l (zv_p e1 (zv_ck ⟨zw_K1 w1, zw_N1 w1⟩ (zv_p e2 (zv_ck ⟨zw_K3 w2, zw_N3 w2⟩ (zv_p (zw_R3_0 w2) (zv_ck (zw_A4 w2 (i := 8) (by decide)) (zv_ck ⟨zw_K1 w2, zw_N1 w2⟩ (zv_p (a := s3) ?_ (zv_ck ⟨zw_K1 w3, zw_N1 w3⟩ (zv_p e4 (zv_r ⟨?_, (f12.tr f3).tr f4⟩))))))))))))
  · show zf_Draft_appendInteger n s2 1 (zh_J s2 4 8) = some s3
    rw [T2 8 (by decide), h]; exact e3
  · unfold zq_xU
    rw [if_neg h8, h, zq_v_lN (by omega)]
    exact d4
theorem zp_wR (hn : 300 ≤ n) (ok : zq_ok F) (w : zq_w s) (d : zq_dV s l) (T : zq_TV s F) (h9 : ¬ (F 9 = 0 ∧ F 10 = 0)) (hl : l.length + 40 ≤ 200) : ∃ t, zf_Tool_writeRealm n s 3 1 = some t ∧ zq_dV t (l ++ zq_xR F) ∧ zq_F zq_PD s t := by
  obtain ⟨s1, e1, d1, f1⟩ := zp_int (n := n) (by omega) (v := 3) (by omega) w d (by omega)
  have w1 := f1.w w
  have L1 : (l ++ zq_eI 3).length = l.length + 3 := by rw [List.length_append, zq_l3 (by omega)]
  obtain ⟨s2, e2, d2, f2⟩ := zp_true (n := n) w1 d1 (by omega)
  have w2 := f2.w w1
  have f12 := f1.tr f2
  have L2 : (l ++ zq_eI 3 ++ zq_y).length = l.length + 6 := by rw [List.length_append, L1]; rfl
  have T2 := T.ke f12
  have lr := zq_xr_len F
  have fin : ∀ (u : zh_S) (q : List Nat), zq_F zq_PD s u → q = zq_xr F → zq_dV u (l ++ zq_eI 3 ++ zq_y ++ q) → ∃ t, zb_Tool_writeRealm_73 n u 1 (nI l.length) (nI (l ++ zq_eI 3 ++ zq_y).length) = some t ∧ zq_dV t (l ++ zq_xR F) ∧ zq_F zq_PD s t := by
    intro u q fu hq du
    subst hq
    have wu := fu.w w
    obtain ⟨u1, g1, h1, k1⟩ := zp_wr (n := n) wu du (by omega)
    have wu1 := k1.w wu
    have le := zq_el_len (zq_xr F)
    have h1' : zq_dV u1 (l ++ (zq_eI 3 ++ (zq_y ++ zq_el (zq_xr F)))) := by rw [List.append_assoc, List.append_assoc] at h1; exact h1
    obtain ⟨u2, g2, h2, k2⟩ := zp_wr (n := n) wu1 h1' (by rw [List.length_append, List.length_append, zq_l3 (by omega)]; simp only [List.length_cons, List.length_nil]; omega)
    rw [zb_Tool_writeRealm_73]
    refine zv_ck ⟨zw_K1 wu, zw_N1 wu⟩ (zv_p g1 (zv_ck ⟨zw_K1 wu1, zw_N1 wu1⟩ (zv_p g2 (zv_r ⟨?_, (fu.tr k1).tr k2⟩))))
    unfold zq_xR
    rw [if_neg h9]
    exact h2
  have mid : ∀ (u : zh_S) (q : List Nat), zq_F zq_PD s u → q = (if F 9 = 0 then [] else zq_eN 128 (zq_v (F 9))) → zq_dV u (l ++ zq_eI 3 ++ zq_y ++ q) → ∃ t, zb_Tool_writeRealm_47 n u 3 1 (nI l.length) (nI (l ++ zq_eI 3 ++ zq_y).length) = some t ∧ zq_dV t (l ++ zq_xR F) ∧ zq_F zq_PD s t := by
    intro u q fu hq du
    have wu := fu.w w
    have Tu := T.ke fu
    have lq : q.length ≤ 10 := by
      rw [hq]; split
      · simp
      · exact zq_eN_len _ _
    rw [zb_Tool_writeRealm_47]
    refine zv_ck ⟨zw_K3 wu, zw_N3 wu⟩ (zv_p (zw_R3_0 wu) (zv_ck (zw_A4 wu (i := 10) (by decide)) ?_))
    by_cases c : F 10 = 0
    · refine zv_t ?_ (fin u q fu ?_ du)
      · show lg_cmp (zh_J u 4 10) 0 = 0
        rw [Tu 10 (by decide), lg_cmp_eq]; exact c
      · unfold zq_xr; rw [if_pos c, List.append_nil]; exact hq
    · rcases ok.2.2.2.2.2.2.2.1 with h | h
      · exact absurd h c
      · obtain ⟨hv, hm⟩ := zq_v_in h
        obtain ⟨u1, g1, h1, k1⟩ := zp_name (n := n) (by omega) (tag := 129) (by decide) hm wu du (by rw [List.length_append, L2]; omega)
        refine zv_f ?_ (zv_p (zw_R3_0 wu) (zv_ck (zw_A4 wu (i := 10) (by decide)) (zv_ck ⟨zw_K1 wu, zw_N1 wu⟩ (zv_p (a := u1) ?_ (fin u1 (q ++ zq_eN 129 (zq_v (F 10))) (fu.tr k1) ?_ ?_)))))
        · show ¬ lg_cmp (zh_J u 4 10) 0 = 0
          rw [Tu 10 (by decide), lg_cmp_eq]; exact c
        · show zf_Draft_appendName n u 1 129 (zh_J u 4 10) = some u1
          rw [Tu 10 (by decide), hv]; exact g1
        · unfold zq_xr; rw [if_neg c, hq]
        · rw [← List.append_assoc]; exact h1
  rw [zf_Tool_writeRealm, d.1]
  refine zv_ck ⟨zw_K1 w, zw_N1 w⟩ (zv_l (zv_p e1 (zv_ck ⟨zw_K1 w1, zw_N1 w1⟩ (zv_p e2 (zv_ck ⟨zw_K1 w2, zw_N1 w2⟩ ?_)))))
  rw [d2.1]
  refine zv_l (zv_ck ⟨zw_K3 w2, zw_N3 w2⟩ (zv_p (zw_R3_0 w2) (zv_ck (zw_A4 w2 (i := 9) (by decide)) ?_)))
  by_cases c : F 9 = 0
  · refine zv_t ?_ (mid s2 [] f12 ?_ ?_)
    · show lg_cmp (zh_J s2 4 9) 0 = 0
      rw [T2 9 (by decide), lg_cmp_eq]; exact c
    · rw [if_pos c]
    · rw [List.append_nil]; exact d2
  · rcases ok.2.2.2.2.2.2.1 with h | h
    · exact absurd h c
    · obtain ⟨hv, hm⟩ := zq_v_in h
      obtain ⟨u1, g1, h1, k1⟩ := zp_name (n := n) (by omega) (tag := 128) (by decide) hm w2 d2 (show (l ++ zq_eI 3 ++ zq_y).length + 10 ≤ 200 by omega)
      refine zv_f ?_ (zv_p (zw_R3_0 w2) (zv_ck (zw_A4 w2 (i := 9) (by decide)) (zv_p (a := u1) ?_ (mid u1 _ (f12.tr k1) ?_ h1))))
      · show ¬ lg_cmp (zh_J s2 4 9) 0 = 0
        rw [T2 9 (by decide), lg_cmp_eq]; exact c
      · show zf_Draft_appendName n s2 1 128 (zh_J s2 4 9) = some u1
        rw [T2 9 (by decide), hv]; exact g1
      · rw [if_neg c]
theorem zp_wO (hn : 300 ≤ n) (w : zq_w s) (d : zq_dV s l) (T : zq_TV s F) (h11 : ¬ F 11 = lN 0) (hl : l.length + 40 ≤ 200) : ∃ t, zf_Tool_writeOwnExtension n s 3 1 = some t ∧ zq_dV t (l ++ zq_xO F) ∧ zq_F zq_PD s t := by
  obtain ⟨s1, e1, d1, f1⟩ := zp_int (n := n) (by omega) (v := 9) (by omega) w d (by omega)
  have w1 := f1.w w
  have T1 := T.ke f1
  have L1 : (l ++ zq_eI 9).length = l.length + 3 := by rw [List.length_append, zq_l3 (by omega)]
  have fin : ∀ (u : zh_S) (q : List Nat), zq_F zq_PD s u → q = (if F 11 = lN 2 then zq_y else []) → zq_dV u (l ++ zq_eI 9 ++ q) → ∃ t, zb_Tool_writeOwnExtension_30 n u 1 (nI l.length) = some t ∧ zq_dV t (l ++ zq_xO F) ∧ zq_F zq_PD s t := by
    intro u q fu hq du
    have wu := fu.w w
    have lq : q.length ≤ 3 := by rw [hq]; split <;> simp
    have du' : zq_dV u ((l ++ zq_eI 9 ++ q) ++ []) := by rw [List.append_nil]; exact du
    obtain ⟨u1, g1, h1, k1⟩ := zp_wrap (n := n) (tag := 4) (by decide) wu du' (by rw [List.length_append, L1, List.length_nil]; omega)
    have wu1 := k1.w wu
    have h1' : zq_dV u1 (l ++ (zq_eI 9 ++ (q ++ [4, 0]))) := by
      rw [show zq_hd 4 ([] : List Nat).length ++ [] = [4, 0] from rfl, List.append_assoc, List.append_assoc] at h1; exact h1
    obtain ⟨u2, g2, h2, k2⟩ := zp_wr (n := n) wu1 h1' (by rw [List.length_append, List.length_append, zq_l3 (by omega)]; simp only [List.length_cons, List.length_nil]; omega)
    rw [zb_Tool_writeOwnExtension_30, du.1]
    refine zv_ck ⟨zw_K1 wu, zw_N1 wu⟩ (zv_p g1 (zv_ck ⟨zw_K1 wu1, zw_N1 wu1⟩ (zv_p g2 (zv_r ⟨?_, (fu.tr k1).tr k2⟩))))
    unfold zq_xO
    rw [if_neg h11, ← hq]
    exact h2
  rw [zf_Tool_writeOwnExtension, d.1]
  refine zv_ck ⟨zw_K1 w, zw_N1 w⟩ (zv_l (zv_p e1 (zv_ck ⟨zw_K3 w1, zw_N3 w1⟩ (zv_p (zw_R3_0 w1) (zv_ck (zw_A4 w1 (i := 11) (by decide)) ?_)))))
  by_cases c : F 11 = lN 2
  · obtain ⟨s2, e2, d2, f2⟩ := zp_true (n := n) w1 d1 (by omega)
    refine zv_t ?_ (zv_ck ⟨zw_K1 w1, zw_N1 w1⟩ (zv_p e2 (fin s2 zq_y (f1.tr f2) (by rw [if_pos c]) d2)))
    show lg_cmp (zh_J s1 4 11) 2 = 0
    rw [T1 11 (by decide), lg_cmp_eq]; exact c
  · refine zv_f ?_ (fin s1 [] f1 (by rw [if_neg c]) (by rw [List.append_nil]; exact d1))
    show ¬ lg_cmp (zh_J s1 4 11) 2 = 0
    rw [T1 11 (by decide), lg_cmp_eq]; exact c
theorem zp_wX (hn : 300 ≤ n) (ok : zq_ok F) (w : zq_w s) (d : zq_dV s l) (T : zq_TV s F) (hl : l.length + 110 ≤ 200) : ∃ t, zf_Tool_writeExtensions n s 3 1 = some t ∧ zq_dV t (l ++ zq_xs F) ∧ zq_F zq_PD s t := by
  have lB := zq_xB_len ok
  have lU := zq_xU_len ok
  have lR := zq_xR_len F
  have lO := zq_xO_len F
  have st5 : ∀ (u : zh_S), zq_F zq_PD s u → zq_dV u (l ++ zq_xx F) → ∃ t, zb_Tool_writeExtensions_85 n u 1 (nI l.length) = some t ∧ zq_dV t (l ++ zq_xs F) ∧ zq_F zq_PD s t := by
    intro u fu du
    have wu := fu.w w
    have lx := zq_xx_len ok
    rw [zb_Tool_writeExtensions_85, du.1, List.length_append]
    refine zv_ck ⟨zw_K1 wu, zw_N1 wu⟩ ?_
    by_cases c : (zq_xx F).length = 0
    · refine zv_t (nI_le (by omega) (by omega)) (zv_r ⟨?_, fu⟩)
      unfold zq_xs
      rw [if_pos c, List.append_nil]
      rw [List.length_eq_zero_iff.mp c, List.append_nil] at du
      exact du
    · obtain ⟨u1, g1, h1, k1⟩ := zp_wr (n := n) wu du (by omega)
      refine zv_f (nI_ge (by omega) (by omega)) (zv_p g1 (zv_r ⟨?_, fu.tr k1⟩))
      unfold zq_xs
      rw [if_neg c]
      exact h1
  have st4 : ∀ (u : zh_S), zq_F zq_PD s u → zq_dV u (l ++ (zq_xB F ++ (zq_xU F ++ zq_xR F))) → ∃ t, zb_Tool_writeExtensions_68 n u 3 1 (nI l.length) = some t ∧ zq_dV t (l ++ zq_xs F) ∧ zq_F zq_PD s t := by
    intro u fu du
    have wu := fu.w w
    have Tu := T.ke fu
    rw [zb_Tool_writeExtensions_68]
    refine zv_ck ⟨zw_K3 wu, zw_N3 wu⟩ (zv_p (zw_R3_0 wu) (zv_ck (zw_A4 wu (i := 11) (by decide)) ?_))
    obtain ⟨k, hk, h⟩ := ok.2.2.2.2.2.2.2.2.1
    by_cases c : F 11 = lN 0
    · refine zv_t ?_ (st5 u fu ?_)
      · show lg_cmp (zh_J u 4 11) 0 ≤ 0
        rw [Tu 11 (by decide), c]; decide +kernel
      · unfold zq_xx
        rw [show zq_xO F = [] by unfold zq_xO; rw [if_pos c], List.append_nil]; exact du
    · obtain ⟨u1, g1, h1, k1⟩ := zp_wO hn wu du Tu c (by simp only [List.length_append]; omega)
      refine zv_f ?_ (zv_p g1 (st5 u1 (fu.tr k1) ?_))
      · show ¬ lg_cmp (zh_J u 4 11) 0 ≤ 0
        rw [Tu 11 (by decide), h, zn_pos (by omega)]
        intro e; exact c (by rw [h, e])
      · unfold zq_xx
        simp only [List.append_assoc] at h1 ⊢; exact h1
  have st3 : ∀ (u : zh_S), zq_F zq_PD s u → zq_dV u (l ++ (zq_xB F ++ zq_xU F)) → ∃ t, zb_Tool_writeExtensions_39 n u 3 1 (nI l.length) = some t ∧ zq_dV t (l ++ zq_xs F) ∧ zq_F zq_PD s t := by
    intro u fu du
    have wu := fu.w w
    have Tu := T.ke fu
    have yes : ¬ (F 9 = 0 ∧ F 10 = 0) → ∃ t, zb_Tool_writeExtensions_63 n u 3 1 (nI l.length) = some t ∧ zq_dV t (l ++ zq_xs F) ∧ zq_F zq_PD s t := by
      intro c
      obtain ⟨u1, g1, h1, k1⟩ := zp_wR hn ok wu du Tu c (by simp only [List.length_append]; omega)
      rw [zb_Tool_writeExtensions_63]
      refine zv_ck ⟨zw_K3 wu, zw_N3 wu⟩ (zv_p g1 (st4 u1 (fu.tr k1) ?_))
      simp only [List.append_assoc] at h1 ⊢; exact h1
    rw [zb_Tool_writeExtensions_39]
    refine zv_ck ⟨zw_K3 wu, zw_N3 wu⟩ (zv_p (zw_R3_0 wu) (zv_ck (zw_A4 wu (i := 9) (by decide)) ?_))
    by_cases c9 : F 9 = 0
    · refine zv_t ?_ (zv_p (zw_R3_0 wu) (zv_ck (zw_A4 wu (i := 10) (by decide)) ?_))
      · show lg_cmp (zh_J u 4 9) 0 = 0
        rw [Tu 9 (by decide), lg_cmp_eq]; exact c9
      by_cases c10 : F 10 = 0
      · refine zv_t ?_ (st4 u fu ?_)
        · show lg_cmp (zh_J u 4 10) 0 = 0
          rw [Tu 10 (by decide), lg_cmp_eq]; exact c10
        · rw [show zq_xR F = [] by unfold zq_xR; rw [if_pos ⟨c9, c10⟩], List.append_nil]; exact du
      · refine zv_f ?_ (yes (fun q => c10 q.2))
        show ¬ lg_cmp (zh_J u 4 10) 0 = 0
        rw [Tu 10 (by decide), lg_cmp_eq]; exact c10
    · refine zv_f ?_ (yes (fun q => c9 q.1))
      show ¬ lg_cmp (zh_J u 4 9) 0 = 0
      rw [Tu 9 (by decide), lg_cmp_eq]; exact c9
  have st2 : ∀ (u : zh_S), zq_F zq_PD s u → zq_dV u (l ++ zq_xB F) → ∃ t, zb_Tool_writeExtensions_22 n u 3 1 (nI l.length) = some t ∧ zq_dV t (l ++ zq_xs F) ∧ zq_F zq_PD s t := by
    intro u fu du
    have wu := fu.w w
    have Tu := T.ke fu
    rw [zb_Tool_writeExtensions_22]
    refine zv_ck ⟨zw_K3 wu, zw_N3 wu⟩ (zv_p (zw_R3_0 wu) (zv_ck (zw_A4 wu (i := 8) (by decide)) ?_))
    by_cases c : F 8 = -1
    · refine zv_t ?_ (st3 u fu ?_)
      · show lg_cmp (zh_J u 4 8) 0 < 0
        rw [Tu 8 (by decide), lg_cmp_lt, c]; decide
      · rw [show zq_xU F = [] by unfold zq_xU; rw [if_pos c], List.append_nil]; exact du
    · rcases ok.2.2.2.2.2.1 with h | ⟨k, k1, hk, h⟩
      · exact absurd h c
      · obtain ⟨u1, g1, h1, k1⟩ := zp_wU hn ok wu du Tu c (by simp only [List.length_append]; omega)
        refine zv_f ?_ (zv_p g1 (st3 u1 (fu.tr k1) ?_))
        · show ¬ lg_cmp (zh_J u 4 8) 0 < 0
          rw [Tu 8 (by decide), lg_cmp_lt, h, zl_0, pk_lLT (by omega) (by omega)]; omega
        · simp only [List.append_assoc] at h1 ⊢; exact h1
  rw [zf_Tool_writeExtensions, d.1]
  refine zv_ck ⟨zw_K1 w, zw_N1 w⟩ (zv_l (zv_ck ⟨zw_K3 w, zw_N3 w⟩ (zv_p (zw_R3_0 w) (zv_ck (zw_A4 w (i := 6) (by decide)) ?_))))
  by_cases c : F 6 = -1
  · refine zv_t ?_ (st2 s zq_F.rf ?_)
    · show lg_cmp (zh_J s 4 6) 0 < 0
      rw [T 6 (by decide), lg_cmp_lt, c]; decide
    · rw [show zq_xB F = [] by unfold zq_xB; rw [if_pos c], List.append_nil]; exact d
  · obtain ⟨u1, g1, h1, k1⟩ := zp_wB hn ok w d T c (by omega)
    refine zv_f ?_ (zv_p g1 (st2 u1 k1 h1))
    show ¬ lg_cmp (zh_J s 4 6) 0 < 0
    rw [T 6 (by decide), lg_cmp_lt]
    rcases ok.2.2.2.1 with h | h | h
    · exact absurd h c
    · rw [h]; decide
    · rw [h]; decide
end CV
