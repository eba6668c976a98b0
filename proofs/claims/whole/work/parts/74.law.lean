/-! The run of calls. -/
abbrev zh_lg (a b : Int32) : Int64 := (a.toInt64 <<< ((32 : Int32).toInt64 &&& 63)) ||| (b.toInt64 &&& (4294967295 : Int64))
theorem zi_neg8 : ∀ i : Fin 8, nI i.val - (8 : Int32) < 0 := by decide
theorem zi_stop {L k : Nat} (hL : L ≤ 4096) (hk : 8 * k ≤ 4096) : (nI L - (8 : Int32) < nI (8 * k)) ↔ L < 8 * k + 8 := by
  by_cases h8 : L < 8
  · exact ⟨fun _ => by omega, fun _ => Int32.lt_of_lt_of_le (zi_neg8 ⟨L, h8⟩) (nI_pos' (by omega))⟩
  · rw [zi_8, zi_sub (by omega), nI_ltI (by omega) (by omega)]
    omega
section LW
variable {n : Nat} {xs : Nat → Int32} {L : Nat}
theorem zp_law (hn : 1000000 ≤ n) (hL : L ≤ 4096) : ∀ (r k f : Nat) (s : zh_S), L < 8 * (k + r) + 8 → 8 * k ≤ 4096 → r < f → zq_In n s → ∃ x, zl_L_law_18 n xs L f s 0 44 (nI (8 * k)) = some x ∧ (x.1 = 1 ∧ zh_N x.2 ≤ zh_N s + 2 * r ∧ zh_M x.2 ≤ zh_M s + 13 * r) := by
  intro r
  induction r with
  | zero =>
    intro k f s hr hk hf h
    obtain ⟨f, rfl⟩ : ∃ q, f = q + 1 := ⟨f - 1, by omega⟩
    rw [zl_L_law_18]
    exact zv_t ((zi_stop hL hk).mpr (by omega)) (zv_r ⟨rfl, Nat.le_add_right _ _, Nat.le_add_right _ _⟩)
  | succ r ih =>
    intro k f s hr hk hf h
    obtain ⟨f, rfl⟩ : ∃ q, f = q + 1 := ⟨f - 1, by omega⟩
    have w := h.1
    rw [zl_L_law_18]
    by_cases hs : L < 8 * k + 8
    · exact zv_t ((zi_stop hL hk).mpr hs) (zv_r ⟨rfl, Nat.le_add_right _ _, Nat.le_add_right _ _⟩)
    refine zv_f (fun e => hs ((zi_stop hL hk).mp e)) ?_
    have go : ∀ t, zq_In n t → zq_Gr s t → ∃ x, zb_L_law_849 n xs L (zl_L_law_18 n xs L f) t 0 44 (nI (8 * k)) = some x ∧ (x.1 = 1 ∧ zh_N x.2 ≤ zh_N s + 2 * (r + 1) ∧ zh_M x.2 ≤ zh_M s + 13 * (r + 1)) := fun t ht hg => by
      obtain ⟨x, e, e1, e2, e3⟩ := ih (k + 1) f t (by omega) (by omega) (by omega) ht
      refine ⟨x, ?_, e1, by have := hg.1; omega, by have := hg.2; omega⟩
      rw [zb_L_law_849]
      refine ze_l ?_
      rw [zi_8, nI_add]
      exact e
    have hi : ∀ j : Nat, j < 8 → ¬ (nI (8 * k) + nI j) < 0 ∧ (nI (8 * k) + nI j).toNatClampNeg < L := fun j hj => by
      rw [nI_add, nI_clamp (by omega)]
      exact ⟨nI_pos (by omega), by omega⟩
    have h1 : ¬ (nI (8 * k) + (1 : Int32)) < 0 ∧ (nI (8 * k) + (1 : Int32)).toNatClampNeg < L := hi 1 (by decide)
    have h2 : ¬ (nI (8 * k) + (2 : Int32)) < 0 ∧ (nI (8 * k) + (2 : Int32)).toNatClampNeg < L := hi 2 (by decide)
    have h3 : ¬ (nI (8 * k) + (3 : Int32)) < 0 ∧ (nI (8 * k) + (3 : Int32)).toNatClampNeg < L := hi 3 (by decide)
    have h4 : ¬ (nI (8 * k) + (4 : Int32)) < 0 ∧ (nI (8 * k) + (4 : Int32)).toNatClampNeg < L := hi 4 (by decide)
    have h5 : ¬ (nI (8 * k) + (5 : Int32)) < 0 ∧ (nI (8 * k) + (5 : Int32)).toNatClampNeg < L := hi 5 (by decide)
    have h6 : ¬ (nI (8 * k) + (6 : Int32)) < 0 ∧ (nI (8 * k) + (6 : Int32)).toNatClampNeg < L := hi 6 (by decide)
    have h7 : ¬ (nI (8 * k) + (7 : Int32)) < 0 ∧ (nI (8 * k) + (7 : Int32)).toNatClampNeg < L := hi 7 (by decide)
    have o0 : zh_oo s 0 7 := ⟨zw_K0 w, zw_N0 w⟩
    have o44 : zh_oo s 44 8 := ⟨zw_K44 w, zw_N44 w⟩
    have p44 : ∀ {t : zh_S}, zq_w t → zh_oo t 44 8 := fun w => ⟨zw_K44 w, zw_N44 w⟩
    refine zv_t ⟨nI_pos (by omega), by rw [nI_clamp (by omega)]; omega⟩ ?_
    by_cases c0 : xs (nI (8 * k)).toNatClampNeg &&& (31 : Int32) = 0
    · obtain ⟨r, t, u, e1, wt, e2, I, G⟩ := zy_put h (xs (nI (8 * k) + (1 : Int32)).toNatClampNeg)
      exact zv_t c0 (zv_t h1 (zv_t o0 (zv_b e1 (zv_t h1 (zv_t (p44 wt) (zv_b e2 (zv_t rfl (go u I G))))))))
    refine zv_f c0 ?_
    by_cases c1 : xs (nI (8 * k)).toNatClampNeg &&& (31 : Int32) = 1
    · obtain ⟨r, t, u, e1, wt, e2, I, G⟩ := zy_poke h (xs (nI (8 * k) + (1 : Int32)).toNatClampNeg) (xs (nI (8 * k) + (2 : Int32)).toNatClampNeg)
      exact zv_t c1 (zv_t h1 (zv_t h2 (zv_t o0 (zv_b e1 (zv_t h1 (zv_t h2 (zv_t (p44 wt) (zv_b e2 (zv_t rfl (go u I G))))))))))
    refine zv_f c1 ?_
    by_cases c2 : xs (nI (8 * k)).toNatClampNeg &&& (31 : Int32) = 2
    · obtain ⟨t, u, e1, wt, e2, I, G⟩ := zy_clear h
      exact zv_t c2 (zv_t o0 (zv_p e1 (zv_t (p44 wt) (zv_p e2 (go u I G)))))
    refine zv_f c2 ?_
    by_cases c3 : xs (nI (8 * k)).toNatClampNeg &&& (31 : Int32) = 3
    · obtain ⟨r, e1, e2⟩ := zy_at h (xs (nI (8 * k) + (1 : Int32)).toNatClampNeg)
      exact zv_t c3 (zv_t h1 (zv_t o0 (zv_p e1 (zv_t h1 (zv_t o44 (zv_p e2 (zv_t rfl (go s h zq_Gr.rf))))))))
    refine zv_f c3 ?_
    by_cases c4 : xs (nI (8 * k)).toNatClampNeg &&& (31 : Int32) = 4
    · obtain ⟨r, t, u, e1, wt, e2, I, G⟩ := zy_set (by omega) h (xs (nI (8 * k) + (1 : Int32)).toNatClampNeg) (zh_lg (xs (nI (8 * k) + (2 : Int32)).toNatClampNeg) (xs (nI (8 * k) + (3 : Int32)).toNatClampNeg))
      exact zv_t c4 (zv_t h1 (zv_t h2 (zv_t h3 (zv_t o0 (zv_b e1 (zv_t h1 (zv_t h2 (zv_t h3 (zv_t (p44 wt) (zv_b e2 (zv_t rfl (go u I G))))))))))))
    refine zv_f c4 ?_
    by_cases c5 : xs (nI (8 * k)).toNatClampNeg &&& (31 : Int32) = 5
    · obtain ⟨r, t, u, e1, wt, e2, I, G⟩ := zy_revoke h (zh_lg (xs (nI (8 * k) + (1 : Int32)).toNatClampNeg) (xs (nI (8 * k) + (2 : Int32)).toNatClampNeg)) (zh_lg (xs (nI (8 * k) + (3 : Int32)).toNatClampNeg) (xs (nI (8 * k) + (4 : Int32)).toNatClampNeg))
      exact zv_t c5 (zv_t h1 (zv_t h2 (zv_t h3 (zv_t h4 (zv_t o0 (zv_b e1 (zv_t h1 (zv_t h2 (zv_t h3 (zv_t h4 (zv_t (p44 wt) (zv_b e2 (zv_t rfl (go u I G))))))))))))))
    refine zv_f c5 ?_
    by_cases c6 : xs (nI (8 * k)).toNatClampNeg &&& (31 : Int32) = 6
    · obtain ⟨t, u, e1, wt, e2, I, G⟩ := zy_forgive h
      exact zv_t c6 (zv_t o0 (zv_p e1 (zv_t (p44 wt) (zv_p e2 (go u I G)))))
    refine zv_f c6 ?_
    by_cases c7 : xs (nI (8 * k)).toNatClampNeg &&& (31 : Int32) = 7
    · obtain ⟨r, t, u, e1, wt, e2, I, G⟩ := zy_compose (by omega) h
      exact zv_t c7 (zv_t o0 (zv_b e1 (zv_t (p44 wt) (zv_b e2 (zv_t rfl (go u I G))))))
    refine zv_f c7 ?_
    by_cases c8 : xs (nI (8 * k)).toNatClampNeg &&& (31 : Int32) = 8
    · obtain ⟨r, t, u, e1, wt, e2, I, G⟩ := zy_composeList (by omega) h
      exact zv_t c8 (zv_t o0 (zv_b e1 (zv_t (p44 wt) (zv_b e2 (zv_t rfl (go u I G))))))
    refine zv_f c8 ?_
    by_cases c9 : xs (nI (8 * k)).toNatClampNeg &&& (31 : Int32) = 9
    · refine zv_t c9 (zv_t h1 ?_)
      by_cases z : xs (nI (8 * k) + (1 : Int32)).toNatClampNeg = 0
      · obtain ⟨r, t, u, e1, wt, e2, I, G⟩ := zy_check (by omega) h false
        refine zv_t z ?_
        rw [zb_L_law_417]
        refine zv_t o0 (zv_b e1 (zv_t h1 (zv_t z ?_)))
        rw [zb_L_law_434]
        exact zv_t (p44 wt) (zv_b e2 (zv_t rfl (go u I G)))
      · obtain ⟨r, t, u, e1, wt, e2, I, G⟩ := zy_check (by omega) h true
        refine zv_f z ?_
        rw [zb_L_law_417]
        refine zv_t o0 (zv_b e1 (zv_t h1 (zv_f z ?_)))
        rw [zb_L_law_434]
        exact zv_t (p44 wt) (zv_b e2 (zv_t rfl (go u I G)))
    refine zv_f c9 ?_
    by_cases c10 : xs (nI (8 * k)).toNatClampNeg &&& (31 : Int32) = 10
    · obtain ⟨r, t, u, e1, wt, e2, I, G⟩ := zy_store (by omega) h (xs (nI (8 * k) + (1 : Int32)).toNatClampNeg)
      exact zv_t c10 (zv_t h1 (zv_t o0 (zv_b e1 (zv_t h1 (zv_t (p44 wt) (zv_b e2 (zv_t rfl (go u I G))))))))
    refine zv_f c10 ?_
    by_cases c11 : xs (nI (8 * k)).toNatClampNeg &&& (31 : Int32) = 11
    · obtain ⟨r, e1, e2⟩ := zy_certificate h (xs (nI (8 * k) + (1 : Int32)).toNatClampNeg) (xs (nI (8 * k) + (2 : Int32)).toNatClampNeg)
      exact zv_t c11 (zv_t h1 (zv_t h2 (zv_t o0 (zv_p e1 (zv_t h1 (zv_t h2 (zv_t o44 (zv_p e2 (zv_t ((lg_cmp_eq _ _).mpr rfl) (go s h zq_Gr.rf))))))))))
    refine zv_f c11 ?_
    by_cases c12 : xs (nI (8 * k)).toNatClampNeg &&& (31 : Int32) = 12
    · obtain ⟨r, e1, e2⟩ := zy_list h (xs (nI (8 * k) + (1 : Int32)).toNatClampNeg) (xs (nI (8 * k) + (2 : Int32)).toNatClampNeg)
      exact zv_t c12 (zv_t h1 (zv_t h2 (zv_t o0 (zv_p e1 (zv_t h1 (zv_t h2 (zv_t o44 (zv_p e2 (zv_t ((lg_cmp_eq _ _).mpr rfl) (go s h zq_Gr.rf))))))))))
    refine zv_f c12 ?_
    by_cases c13 : xs (nI (8 * k)).toNatClampNeg &&& (31 : Int32) = 13
    · refine zv_t c13 (zv_t h1 (zv_t h2 (zv_t h3 (zv_t h4 (zv_t h5 ?_)))))
      by_cases z : xs (nI (8 * k) + (5 : Int32)).toNatClampNeg = 0
      · obtain ⟨r, t, u, e1, wt, e2, I, G⟩ := zy_validate hn h (xs (nI (8 * k) + (1 : Int32)).toNatClampNeg) (zh_lg (xs (nI (8 * k) + (2 : Int32)).toNatClampNeg) (xs (nI (8 * k) + (3 : Int32)).toNatClampNeg)) (xs (nI (8 * k) + (4 : Int32)).toNatClampNeg) false
        refine zv_t z ?_
        rw [zb_L_law_577]
        refine zv_t o0 (zv_b e1 (zv_t h1 (zv_t h2 (zv_t h3 (zv_t h4 (zv_t h5 (zv_t z ?_)))))))
        rw [zb_L_law_624]
        exact zv_t (p44 wt) (zv_b e2 (zv_t rfl (go u I G)))
      · obtain ⟨r, t, u, e1, wt, e2, I, G⟩ := zy_validate hn h (xs (nI (8 * k) + (1 : Int32)).toNatClampNeg) (zh_lg (xs (nI (8 * k) + (2 : Int32)).toNatClampNeg) (xs (nI (8 * k) + (3 : Int32)).toNatClampNeg)) (xs (nI (8 * k) + (4 : Int32)).toNatClampNeg) true
        refine zv_f z ?_
        rw [zb_L_law_577]
        refine zv_t o0 (zv_b e1 (zv_t h1 (zv_t h2 (zv_t h3 (zv_t h4 (zv_t h5 (zv_f z ?_)))))))
        rw [zb_L_law_624]
        exact zv_t (p44 wt) (zv_b e2 (zv_t rfl (go u I G)))
    refine zv_f c13 ?_
    by_cases c14 : xs (nI (8 * k)).toNatClampNeg &&& (31 : Int32) = 14
    · obtain ⟨r, e1, e2⟩ := zy_chain h (xs (nI (8 * k) + (1 : Int32)).toNatClampNeg)
      exact zv_t c14 (zv_t h1 (zv_t o0 (zv_p e1 (zv_t h1 (zv_t o44 (zv_p e2 (zv_t rfl (go s h zq_Gr.rf))))))))
    refine zv_f c14 ?_
    by_cases c15 : xs (nI (8 * k)).toNatClampNeg &&& (31 : Int32) = 15
    · obtain ⟨r, e1, e2⟩ := zy_candidates h
      exact zv_t c15 (zv_t o0 (zv_p e1 (zv_t o44 (zv_p e2 (zv_t rfl (go s h zq_Gr.rf))))))
    refine zv_f c15 ?_
    by_cases c16 : xs (nI (8 * k)).toNatClampNeg &&& (31 : Int32) = 16
    · obtain ⟨r, e1, e2⟩ := zy_sign (by omega) h (xs (nI (8 * k) + (1 : Int32)).toNatClampNeg) (xs (nI (8 * k) + (2 : Int32)).toNatClampNeg)
      exact zv_t c16 (zv_t h1 (zv_t h2 (zv_t o0 (zv_p e1 (zv_t h1 (zv_t h2 (zv_t o44 (zv_p e2 (zv_t ((lg_cmp_eq _ _).mpr rfl) (go s h zq_Gr.rf))))))))))
    refine zv_f c16 ?_
    by_cases c17 : xs (nI (8 * k)).toNatClampNeg &&& (31 : Int32) = 17
    · refine zv_t c17 (zv_t h1 (zv_t h2 (zv_t h3 (zv_t h4 (zv_t h5 (zv_t h6 (zv_t h7 (zv_t o0 (zv_p (zn_vgood (by omega) _ _ _ _ _) ?_)))))))))
      exact zv_t h1 (zv_t h2 (zv_t h3 (zv_t h4 (zv_t h5 (zv_t h6 (zv_t h7 (zv_t o44 (zv_p (zn_mgood (by omega) _ _ _ _ _) (zv_t rfl (go s h zq_Gr.rf))))))))))
    refine zv_f c17 ?_
    exact go s h zq_Gr.rf
end LW
