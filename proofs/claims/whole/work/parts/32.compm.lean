/-! The reference writes extensions, composes certificates and lists. -/
section CMM
variable {n : Nat} {F : Nat → Int64} {s : zh_S} {l : List Nat}
theorem zp_mX (hn : 300 ≤ n) (ok : zq_ok F) (w : zq_w s) (d : zq_dM s l) (T : zq_TM s F) (hl : l.length + 110 ≤ 200) : ∃ t, zf_M_extensions n s 44 = some t ∧ zq_dM t (l ++ zq_xs F) ∧ zq_F zq_PE s t := by
  have lB := zq_xB_len ok
  have lU := zq_xU_len ok
  have lR := zq_xR_len F
  have lO := zq_xO_len F
  have lb := zq_xb_len ok
  have lr := zq_xr_len F
  have leb := zq_el_len (zq_xb F)
  have ler := zq_el_len (zq_xr F)
  -- the end
  have st5 : ∀ (u : zh_S), zq_F zq_PE s u → zq_dM u (l ++ zq_xx F) → ∃ t, zb_M_extensions_288 n u 44 (nI l.length) = some t ∧ zq_dM t (l ++ zq_xs F) ∧ zq_F zq_PE s t := by
    intro u fu du
    have wu := fu.w w
    have lx := zq_xx_len ok
    rw [zb_M_extensions_288, du.1, List.length_append]
    refine zv_ck ⟨zw_K44 wu, zw_N44 wu⟩ ?_
    by_cases c : (zq_xx F).length = 0
    · refine zv_t (nI_le (by omega) (by omega)) (zv_r ⟨?_, fu⟩)
      unfold zq_xs
      rw [if_pos c, List.append_nil]
      rw [List.length_eq_zero_iff.mp c, List.append_nil] at du
      exact du
    · obtain ⟨u1, g1, h1, k1⟩ := zp_mwr hn wu du (by omega)
      refine zv_f (nI_ge (by omega) (by omega)) (zv_p g1 (zv_r ⟨?_, fu.tr k1⟩))
      unfold zq_xs
      rw [if_neg c]
      exact h1
  -- the tool's own
  have st4 : ∀ (u : zh_S), zq_F zq_PE s u → zq_dM u (l ++ (zq_xB F ++ (zq_xU F ++ zq_xR F))) → ∃ t, zb_M_extensions_233 n u 44 (nI l.length) = some t ∧ zq_dM t (l ++ zq_xs F) ∧ zq_F zq_PE s t := by
    intro u fu du
    have wu := fu.w w
    have Tu := T.ke fu
    have own : ∀ cr : Bool, (cr = true ↔ F 11 = lN 2) → ¬ F 11 = lN 0 → ∃ t, zb_M_extensions_267 n u 44 (nI l.length) 44 9 (if cr then 1 else 0) = some t ∧ zq_dM t (l ++ zq_xs F) ∧ zq_F zq_PE s t := by
      intro cr hcr h0
      obtain ⟨x, ex, x1, x2, x3⟩ := zp_mopen hn wu du (i := 9) (by decide) (by simp only [List.length_append]; omega) cr
      have wx := x3.w wu
      have lc : (if cr then zq_y else ([] : List Nat)).length ≤ 3 := by split <;> simp
      obtain ⟨u1, e1, d1, f1⟩ := zp_add n wx x2 (b := 4) (by omega) (by simp only [List.length_append, zq_l3 (show 9 < 128 by decide)]; omega)
      have w1 := f1.w wx
      obtain ⟨u2, e2, d2, f2⟩ := zp_add n w1 d1 (b := 0) (by omega) (by simp only [List.length_append, zq_l3 (show 9 < 128 by decide), List.length_cons, List.length_nil]; omega)
      have w2 := f2.w w1
      have d2' : zq_dM u2 ((l ++ (zq_xB F ++ (zq_xU F ++ zq_xR F))) ++ (zq_eI 9 ++ ((if cr then zq_y else []) ++ [4, 0]))) := by simp only [List.append_assoc, List.cons_append, List.nil_append] at d2 ⊢; exact d2
      obtain ⟨u3, e3, d3, f3⟩ := zp_mwr hn w2 d2' (by simp only [List.length_append, zq_l3 (show 9 < 128 by decide), List.length_cons, List.length_nil]; omega)
      have fx := ((fu.tr x3).tr f1).tr (f2.tr f3)
      rw [zb_M_extensions_267]
      refine zv_ck ⟨zw_K44 wu, zw_N44 wu⟩ (zv_b (a := x.1) (b := x.2) ex (zv_ck ⟨zw_K44 wx, zw_N44 wx⟩ (zv_p e1 (zv_ck ⟨zw_K44 w1, zw_N44 w1⟩ (zv_p e2 (zv_ck ⟨zw_K44 w2, zw_N44 w2⟩ (zv_p (a := u3) (by rw [x1]; exact e3) (st5 u3 fx ?_))))))))
      have ex : zq_xO F = zq_el (zq_eI 9 ++ ((if cr then zq_y else []) ++ [4, 0])) := by
        unfold zq_xO
        rw [if_neg h0]
        cases cr with
        | false => rw [if_neg (fun q => absurd (hcr.mpr q) (by decide))]; rfl
        | true => rw [if_pos (hcr.mp rfl)]; rfl
      unfold zq_xx
      rw [ex]
      simp only [List.append_assoc] at d3 ⊢; exact d3
    rw [zb_M_extensions_233]
    refine zv_ck ⟨zw_K44 wu, zw_N44 wu⟩ (zv_p (zw_R44_2 wu) (zv_ck (zw_A46 wu (i := 11) (by decide)) ?_))
    obtain ⟨k, hk, h⟩ := ok.2.2.2.2.2.2.2.2.1
    by_cases c : F 11 = lN 0
    · refine zv_t ?_ (st5 u fu ?_)
      · show lg_cmp (zh_J u 46 11) 0 ≤ 0
        rw [Tu 11 (by decide), c]; decide +kernel
      · unfold zq_xx
        rw [show zq_xO F = [] by unfold zq_xO; rw [if_pos c], List.append_nil]; exact du
    · refine zv_f ?_ (zv_p (zw_R44_2 wu) (zv_ck (zw_A46 wu (i := 11) (by decide)) ?_))
      · show ¬ lg_cmp (zh_J u 46 11) 0 ≤ 0
        rw [Tu 11 (by decide), h, zn_pos (by omega)]
        intro e; exact c (by rw [h, e])
      by_cases c2 : F 11 = lN 2
      · refine zv_t ?_ (own true (by simp [c2]) c)
        show lg_cmp (zh_J u 46 11) 2 = 0
        rw [Tu 11 (by decide), lg_cmp_eq]; exact c2
      · refine zv_f ?_ (own false (by simp [c2]) c)
        show ¬ lg_cmp (zh_J u 46 11) 2 = 0
        rw [Tu 11 (by decide), lg_cmp_eq]; exact c2
  -- the realm
  have st3 : ∀ (u : zh_S), zq_F zq_PE s u → zq_dM u (l ++ (zq_xB F ++ zq_xU F)) → ∃ t, zb_M_extensions_131 n u 44 (nI l.length) = some t ∧ zq_dM t (l ++ zq_xs F) ∧ zq_F zq_PE s t := by
    intro u fu du
    have wu := fu.w w
    have Tu := T.ke fu
    have yes : ¬ (F 9 = 0 ∧ F 10 = 0) → ∃ t, zb_M_extensions_155 n u 44 (nI l.length) = some t ∧ zq_dM t (l ++ zq_xs F) ∧ zq_F zq_PE s t := by
      intro h9
      obtain ⟨x, ex, x1, x2, x3⟩ := zp_mopen hn wu du (i := 3) (by decide) (by simp only [List.length_append]; omega) true
      have x2 : zq_dM x.2 (l ++ (zq_xB F ++ zq_xU F) ++ zq_eI 3 ++ zq_y) := by simp only [List.append_assoc] at x2 ⊢; exact x2
      have wx := x3.w wu
      have fx := fu.tr x3
      have Tx := T.ke fx
      have L2 : (l ++ (zq_xB F ++ zq_xU F) ++ zq_eI 3 ++ zq_y).length ≤ l.length + 36 := by simp only [List.length_append, zq_l3 (show 3 < 128 by decide), List.length_cons, List.length_nil]; omega
      have fin : ∀ (u : zh_S) (q : List Nat), zq_F zq_PE s u → q = zq_xr F → zq_dM u (l ++ (zq_xB F ++ zq_xU F) ++ zq_eI 3 ++ zq_y ++ q) → ∃ t, zb_M_extensions_219 n u 44 (nI l.length) (nI (l ++ (zq_xB F ++ zq_xU F)).length) (nI (l ++ (zq_xB F ++ zq_xU F) ++ zq_eI 3 ++ zq_y).length) = some t ∧ zq_dM t (l ++ zq_xs F) ∧ zq_F zq_PE s t := by
        intro u q fu hq du
        subst hq
        have wu := fu.w w
        obtain ⟨u1, g1, h1, k1⟩ := zp_mwr hn wu du (by omega)
        have wu1 := k1.w wu
        have h1' : zq_dM u1 ((l ++ (zq_xB F ++ zq_xU F)) ++ (zq_eI 3 ++ (zq_y ++ zq_el (zq_xr F)))) := by simp only [List.append_assoc] at h1 ⊢; exact h1
        obtain ⟨u2, g2, h2, k2⟩ := zp_mwr hn wu1 h1' (by simp only [List.length_append, zq_l3 (show 3 < 128 by decide), List.length_cons, List.length_nil]; omega)
        rw [zb_M_extensions_219]
        refine zv_ck ⟨zw_K44 wu, zw_N44 wu⟩ (zv_p g1 (zv_ck ⟨zw_K44 wu1, zw_N44 wu1⟩ (zv_p g2 (st4 u2 ((fu.tr k1).tr k2) ?_))))
        have : zq_xR F = zq_el (zq_eI 3 ++ (zq_y ++ zq_el (zq_xr F))) := by unfold zq_xR; rw [if_neg h9]
        rw [this]
        simp only [List.append_assoc] at h2 ⊢; exact h2
      have mid : ∀ (u : zh_S) (q : List Nat), zq_F zq_PE s u → q = (if F 9 = 0 then [] else zq_eN 128 (zq_v (F 9))) → zq_dM u (l ++ (zq_xB F ++ zq_xU F) ++ zq_eI 3 ++ zq_y ++ q) → ∃ t, zb_M_extensions_193 n u 44 (nI l.length) (nI (l ++ (zq_xB F ++ zq_xU F)).length) (nI (l ++ (zq_xB F ++ zq_xU F) ++ zq_eI 3 ++ zq_y).length) = some t ∧ zq_dM t (l ++ zq_xs F) ∧ zq_F zq_PE s t := by
        intro u q fu hq du
        have wu := fu.w w
        have Tu := T.ke fu
        have lq : q.length ≤ 10 := by
          rw [hq]; split
          · simp
          · exact zq_eN_len _ _
        rw [zb_M_extensions_193]
        refine zv_ck ⟨zw_K44 wu, zw_N44 wu⟩ (zv_p (zw_R44_2 wu) (zv_ck (zw_A46 wu (i := 10) (by decide)) ?_))
        by_cases c : F 10 = 0
        · refine zv_t ?_ (fin u q fu ?_ du)
          · show lg_cmp (zh_J u 46 10) 0 = 0
            rw [Tu 10 (by decide), lg_cmp_eq]; exact c
          · unfold zq_xr; rw [if_pos c, List.append_nil]; exact hq
        · rcases ok.2.2.2.2.2.2.2.1 with h | h
          · exact absurd h c
          · obtain ⟨hv, hm⟩ := zq_v_in h
            obtain ⟨u1, g1, h1, k1⟩ := zp_mname (n := n) (by omega) (tag := 129) (by decide) hm wu du (by rw [List.length_append]; omega)
            refine zv_f ?_ (zv_p (zw_R44_2 wu) (zv_ck (zw_A46 wu (i := 10) (by decide)) (zv_p (a := u1) ?_ (fin u1 (q ++ zq_eN 129 (zq_v (F 10))) (fu.tr k1) ?_ ?_))))
            · show ¬ lg_cmp (zh_J u 46 10) 0 = 0
              rw [Tu 10 (by decide), lg_cmp_eq]; exact c
            · show zf_M_name n u 44 129 (zh_J u 46 10) = some u1
              rw [Tu 10 (by decide), hv]; exact g1
            · unfold zq_xr; rw [if_neg c, hq]
            · rw [← List.append_assoc]; exact h1
      rw [zb_M_extensions_155]
      refine zv_ck ⟨zw_K44 wu, zw_N44 wu⟩ (zv_b (a := x.1) (b := x.2) ex (zv_ck ⟨zw_K44 wx, zw_N44 wx⟩ ?_))
      show ∃ t, _ ∧ _
      rw [x1, x2.1]
      refine zv_l (zv_p (zw_R44_2 wx) (zv_ck (zw_A46 wx (i := 9) (by decide)) ?_))
      by_cases c : F 9 = 0
      · refine zv_t ?_ (mid x.2 [] fx ?_ ?_)
        · show lg_cmp (zh_J x.2 46 9) 0 = 0
          rw [Tx 9 (by decide), lg_cmp_eq]; exact c
        · rw [if_pos c]
        · rw [List.append_nil]; exact x2
      · rcases ok.2.2.2.2.2.2.1 with h | h
        · exact absurd h c
        · obtain ⟨hv, hm⟩ := zq_v_in h
          obtain ⟨u1, g1, h1, k1⟩ := zp_mname (n := n) (by omega) (tag := 128) (by decide) hm wx x2 (by omega)
          refine zv_f ?_ (zv_p (zw_R44_2 wx) (zv_ck (zw_A46 wx (i := 9) (by decide)) (zv_p (a := u1) ?_ (mid u1 _ (fx.tr k1) ?_ h1))))
          · show ¬ lg_cmp (zh_J x.2 46 9) 0 = 0
            rw [Tx 9 (by decide), lg_cmp_eq]; exact c
          · show zf_M_name n x.2 44 128 (zh_J x.2 46 9) = some u1
            rw [Tx 9 (by decide), hv]; exact g1
          · rw [if_neg c]
    rw [zb_M_extensions_131]
    refine zv_ck ⟨zw_K44 wu, zw_N44 wu⟩ (zv_p (zw_R44_2 wu) (zv_ck (zw_A46 wu (i := 9) (by decide)) ?_))
    by_cases c9 : F 9 = 0
    · refine zv_t ?_ (zv_p (zw_R44_2 wu) (zv_ck (zw_A46 wu (i := 10) (by decide)) ?_))
      · show lg_cmp (zh_J u 46 9) 0 = 0
        rw [Tu 9 (by decide), lg_cmp_eq]; exact c9
      by_cases c10 : F 10 = 0
      · refine zv_t ?_ (st4 u fu ?_)
        · show lg_cmp (zh_J u 46 10) 0 = 0
          rw [Tu 10 (by decide), lg_cmp_eq]; exact c10
        · rw [show zq_xR F = [] by unfold zq_xR; rw [if_pos ⟨c9, c10⟩], List.append_nil]; exact du
      · refine zv_f ?_ (yes (fun q => c10 q.2))
        show ¬ lg_cmp (zh_J u 46 10) 0 = 0
        rw [Tu 10 (by decide), lg_cmp_eq]; exact c10
    · refine zv_f ?_ (yes (fun q => c9 q.1))
      show ¬ lg_cmp (zh_J u 46 9) 0 = 0
      rw [Tu 9 (by decide), lg_cmp_eq]; exact c9
  -- the usage
  have st2 : ∀ (u : zh_S), zq_F zq_PE s u → zq_dM u (l ++ zq_xB F) → ∃ t, zb_M_extensions_94 n u 44 (nI l.length) = some t ∧ zq_dM t (l ++ zq_xs F) ∧ zq_F zq_PE s t := by
    intro u fu du
    have wu := fu.w w
    have Tu := T.ke fu
    rw [zb_M_extensions_94]
    refine zv_ck ⟨zw_K44 wu, zw_N44 wu⟩ (zv_p (zw_R44_2 wu) (zv_ck (zw_A46 wu (i := 8) (by decide)) ?_))
    by_cases c : F 8 = -1
    · refine zv_t ?_ (st3 u fu ?_)
      · show lg_cmp (zh_J u 46 8) 0 ≤ 0
        rw [Tu 8 (by decide), lg_cmp_le, c]; decide
      · rw [show zq_xU F = [] by unfold zq_xU; rw [if_pos c], List.append_nil]; exact du
    · rcases ok.2.2.2.2.2.1 with h | ⟨k, k1, hk, h⟩
      · exact absurd h c
      · obtain ⟨x, ex, x1, x2, x3⟩ := zp_mopen hn wu du (i := 2) (by decide) (by simp only [List.length_append]; omega) true
        have wx := x3.w wu
        have fx := fu.tr x3
        have Tx := T.ke fx
        obtain ⟨u1, g1, h1, k1⟩ := zp_mint (n := n) (by omega) (v := k) (by omega) wx x2 (by simp only [List.length_append, zq_l3 (show 2 < 128 by decide), if_true, List.length_cons, List.length_nil]; omega)
        have w1 := k1.w wx
        have h1' : zq_dM u1 ((l ++ zq_xB F) ++ (zq_eI 2 ++ (zq_y ++ zq_eI k))) := by simp only [List.append_assoc, if_true] at h1 ⊢; exact h1
        obtain ⟨u2, g2, h2, k2⟩ := zp_mwr hn w1 h1' (by simp only [List.length_append, zq_l3 (show 2 < 128 by decide), zq_l3 (show k < 128 by omega), List.length_cons, List.length_nil]; omega)
        refine zv_f ?_ (zv_b (a := x.1) (b := x.2) ex (zv_ck ⟨zw_K44 wx, zw_N44 wx⟩ (zv_p (zw_R44_2 wx) (zv_ck (zw_A46 wx (i := 8) (by decide)) (zv_p (a := u1) ?_ (zv_ck ⟨zw_K44 w1, zw_N44 w1⟩ (zv_p (a := u2) (by rw [x1]; exact g2) (st3 u2 ((fx.tr k1).tr k2) ?_))))))))
        · show ¬ lg_cmp (zh_J u 46 8) 0 ≤ 0
          rw [Tu 8 (by decide), h, zn_pos (by omega)]; omega
        · show zf_M_integer n x.2 44 (zh_J x.2 46 8) = _
          rw [Tx 8 (by decide), h]; exact g1
        · have : zq_xU F = zq_el (zq_eI 2 ++ (zq_y ++ zq_eI k)) := by unfold zq_xU; rw [if_neg c, h, zq_v_lN (by omega)]
          rw [this]
          simp only [List.append_assoc] at h2 ⊢; exact h2
  -- the basic one
  rw [zf_M_extensions, d.1]
  refine zv_ck ⟨zw_K44 w, zw_N44 w⟩ (zv_l (zv_p (zw_R44_2 w) (zv_ck (zw_A46 w (i := 6) (by decide)) ?_)))
  by_cases c : F 6 = -1
  · refine zv_t ?_ (st2 s zq_F.rf ?_)
    · show lg_cmp (zh_J s 46 6) 0 < 0
      rw [T 6 (by decide), lg_cmp_lt, c]; decide
    · rw [show zq_xB F = [] by unfold zq_xB; rw [if_pos c], List.append_nil]; exact d
  · obtain ⟨x, ex, x1, x2, x3⟩ := zp_mopen hn w d (i := 1) (by decide) (by omega) true
    have x2 : zq_dM x.2 (l ++ zq_eI 1 ++ zq_y) := by simp only [List.append_assoc] at x2 ⊢; exact x2
    have wx := x3.w w
    have Tx := T.ke x3
    have L2 : (l ++ zq_eI 1 ++ zq_y).length = l.length + 6 := by simp only [List.length_append, zq_l3 (show 1 < 128 by decide), List.length_cons, List.length_nil]
    have fin : ∀ (u : zh_S) (q : List Nat), zq_F zq_PE s u → q = zq_xb F → zq_dM u (l ++ zq_eI 1 ++ zq_y ++ q) → ∃ t, zb_M_extensions_80 n u 44 (nI l.length) (nI l.length) (nI (l ++ zq_eI 1 ++ zq_y).length) = some t ∧ zq_dM t (l ++ zq_xs F) ∧ zq_F zq_PE s t := by
      intro u q fu hq du
      subst hq
      have wu := fu.w w
      obtain ⟨u1, g1, h1, k1⟩ := zp_mwr hn wu du (by omega)
      have wu1 := k1.w wu
      have h1' : zq_dM u1 (l ++ (zq_eI 1 ++ (zq_y ++ zq_el (zq_xb F)))) := by simp only [List.append_assoc] at h1 ⊢; exact h1
      obtain ⟨u2, g2, h2, k2⟩ := zp_mwr hn wu1 h1' (by simp only [List.length_append, zq_l3 (show 1 < 128 by decide), List.length_cons, List.length_nil]; omega)
      rw [zb_M_extensions_80]
      refine zv_ck ⟨zw_K44 wu, zw_N44 wu⟩ (zv_p g1 (zv_ck ⟨zw_K44 wu1, zw_N44 wu1⟩ (zv_p g2 (st2 u2 ((fu.tr k1).tr k2) ?_))))
      have : zq_xB F = zq_el (zq_eI 1 ++ (zq_y ++ zq_el (zq_xb F))) := by unfold zq_xB; rw [if_neg c]
      rw [this]
      exact h2
    refine zv_f ?_ (zv_b (a := x.1) (b := x.2) ex (zv_ck ⟨zw_K44 wx, zw_N44 wx⟩ ?_))
    · show ¬ lg_cmp (zh_J s 46 6) 0 < 0
      rw [T 6 (by decide), lg_cmp_lt]
      rcases ok.2.2.2.1 with h | h | h
      · exact absurd h c
      · rw [h]; decide
      · rw [h]; decide
    show ∃ t, _ ∧ _
    rw [x1, x2.1]
    refine zv_l (zv_p (zw_R44_2 wx) (zv_ck (zw_A46 wx (i := 6) (by decide)) ?_))
    by_cases c6 : F 6 = lN 1
    · obtain ⟨s3, e3, d3, f3⟩ := zp_yes (n := n) wx x2 (show (l ++ zq_eI 1 ++ zq_y).length + 10 ≤ 200 by omega)
      have F3 := x3.tr f3
      have w3 := F3.w w
      have T3 := T.ke F3
      have L3 : (l ++ zq_eI 1 ++ zq_y ++ zq_y).length = l.length + 9 := by rw [List.length_append, L2]; rfl
      refine zv_t ?_ (zv_p e3 ?_)
      · show lg_cmp (zh_J x.2 46 6) 1 = 0
        rw [Tx 6 (by decide), lg_cmp_eq]; exact c6
      rw [zb_M_extensions_45]
      refine zv_ck ⟨zw_K44 w3, zw_N44 w3⟩ (zv_p (zw_R44_2 w3) (zv_ck (zw_A46 w3 (i := 6) (by decide)) (zv_t ?_ (zv_p (zw_R44_2 w3) (zv_ck (zw_A46 w3 (i := 7) (by decide)) ?_)))))
      · show lg_cmp (zh_J s3 46 6) 1 = 0
        rw [T3 6 (by decide), lg_cmp_eq]; exact c6
      by_cases c7 : F 7 = -1
      · refine zv_t ?_ (fin s3 zq_y F3 ?_ d3)
        · show lg_cmp (zh_J s3 46 7) 0 < 0
          rw [T3 7 (by decide), lg_cmp_lt, c7]; decide
        · unfold zq_xb; rw [if_pos c6, if_pos c7, List.append_nil]
      · rcases ok.2.2.2.2.1 with h | ⟨k, hk, h⟩
        · exact absurd h c7
        · obtain ⟨s4, e4, d4, f4⟩ := zp_mint (n := n) (by omega) (v := k) (by omega) w3 d3 (show (l ++ zq_eI 1 ++ zq_y ++ zq_y).length + 10 ≤ 200 by omega)
          refine zv_f ?_ (zv_p (zw_R44_2 w3) (zv_ck (zw_A46 w3 (i := 7) (by decide)) (zv_p (a := s4) ?_ (fin s4 (zq_y ++ zq_eI k) (F3.tr f4) ?_ ?_))))
          · show ¬ lg_cmp (zh_J s3 46 7) 0 < 0
            rw [T3 7 (by decide), lg_cmp_lt, h, zl_0, pk_lLT (by omega) (by omega)]; omega
          · show zf_M_integer n s3 44 (zh_J s3 46 7) = some s4
            rw [T3 7 (by decide), h]; exact e4
          · unfold zq_xb; rw [if_pos c6, if_neg c7, h, zq_v_lN (by omega)]
          · rw [← List.append_assoc]; exact d4
    · refine zv_f ?_ ?_
      · show ¬ lg_cmp (zh_J x.2 46 6) 1 = 0
        rw [Tx 6 (by decide), lg_cmp_eq]; exact c6
      rw [zb_M_extensions_45]
      refine zv_ck ⟨zw_K44 wx, zw_N44 wx⟩ (zv_p (zw_R44_2 wx) (zv_ck (zw_A46 wx (i := 6) (by decide)) (zv_f ?_ (fin x.2 [] x3 ?_ ?_))))
      · show ¬ lg_cmp (zh_J x.2 46 6) 1 = 0
        rw [Tx 6 (by decide), lg_cmp_eq]; exact c6
      · unfold zq_xb; rw [if_neg c6]
      · rw [List.append_nil]; exact x2
end CMM
