/-! Wrapping: all bytes from a place on become the content of one element. -/
def zq_hd (tag len : Nat) : List Nat := if len < 128 then [tag, len] else [tag, 129, len]
def zq_hl (len : Nat) : Nat := if len < 128 then 2 else 3
theorem zq_hd_len (tag len : Nat) : (zq_hd tag len).length = zq_hl len := by
  unfold zq_hd zq_hl; split <;> rfl
theorem zq_gd (p q : List Nat) (j : Nat) : (p ++ q).getD j 0 = if j < p.length then p.getD j 0 else q.getD (j - p.length) 0 := by
  by_cases h : j < p.length
  · rw [if_pos h]; simp [List.getD, List.getElem?_append_left h]
  · rw [if_neg h]; simp [List.getD, List.getElem?_append_right (Nat.not_lt.mp h)]
theorem zs_Ic (s : zh_S) (a : Nat) (sp : Int32) (b : Nat) (dp ln : Int32) (c j : Nat) : zh_I (zh_cpy s a sp b dp ln) c j = if c = b then (if dp.toNatClampNeg ≤ j ∧ j < dp.toNatClampNeg + ln.toNatClampNeg then zh_I s a (sp.toNatClampNeg + (j - dp.toNatClampNeg)) else zh_I s b j) else zh_I s c j := by
  show va_up s.1 b _ c j = _
  unfold va_up
  by_cases h : c = b
  · subst h; rw [if_pos rfl, if_pos rfl]; rfl
  · rw [if_neg h, if_neg h]; rfl
theorem zs_Jc (s : zh_S) (a : Nat) (sp : Int32) (b : Nat) (dp ln : Int32) : zh_J (zh_cpy s a sp b dp ln) = zh_J s := rfl
theorem zs_Rc (s : zh_S) (a : Nat) (sp : Int32) (b : Nat) (dp ln : Int32) : zh_R (zh_cpy s a sp b dp ln) = zh_R s := rfl
theorem zs_Kc (s : zh_S) (a : Nat) (sp : Int32) (b : Nat) (dp ln : Int32) : zh_K (zh_cpy s a sp b dp ln) = zh_K s := rfl
theorem zs_Nc (s : zh_S) (a : Nat) (sp : Int32) (b : Nat) (dp ln : Int32) : zh_N (zh_cpy s a sp b dp ln) = zh_N s := rfl
/-- what the bytes are behind a wrap -/
theorem zq_wrapped {t : zh_S} {o k a : Nat} {p q : List Nat} {tag : Nat} (ht : tag < 256) (hb : ∀ b ∈ p ++ q, b < 256) (hlen : p.length + q.length + 3 ≤ 200) (hs : zh_I t o k = nI (p.length + q.length + zq_hl q.length))
    (h1 : ∀ j, j < p.length → zh_I t a j = nI (p.getD j 0)) (h2 : zh_I t a p.length = nI tag) (h3 : q.length < 128 → zh_I t a (p.length + 1) = nI q.length) (h4 : ¬ q.length < 128 → zh_I t a (p.length + 1) = nI 129 ∧ zh_I t a (p.length + 2) = nI q.length)
    (h5 : ∀ j, j < q.length → zh_I t a (p.length + zq_hl q.length + j) = nI (q.getD j 0)) : zq_L t o k a (p ++ (zq_hd tag q.length ++ q)) := by
  have hh : zq_hl q.length = 2 ∧ q.length < 128 ∨ zq_hl q.length = 3 ∧ ¬ q.length < 128 := by
    unfold zq_hl; split
    · exact Or.inl ⟨rfl, by assumption⟩
    · exact Or.inr ⟨rfl, by assumption⟩
  refine ⟨?_, ?_, ?_, fun j hj => ?_⟩
  · rw [hs, List.length_append, List.length_append, zq_hd_len]; congr 1; omega
  · rw [List.length_append, List.length_append, zq_hd_len]; omega
  · intro b hb2
    rcases List.mem_append.mp hb2 with h | h
    · exact hb b (List.mem_append_left _ h)
    · rcases List.mem_append.mp h with h | h
      · unfold zq_hd at h
        split at h
        · simp at h; rcases h with h | h <;> omega
        · simp at h; rcases h with h | h | h <;> omega
      · exact hb b (List.mem_append_right _ h)
  · rw [List.length_append, List.length_append, zq_hd_len] at hj
    rw [zq_gd]
    by_cases c1 : j < p.length
    · rw [if_pos c1]; exact h1 j c1
    · rw [if_neg c1, zq_gd, zq_hd_len]
      by_cases c2 : j - p.length < zq_hl q.length
      · rw [if_pos c2]
        unfold zq_hd
        rcases hh with ⟨e, g⟩ | ⟨e, g⟩
        · rw [if_pos g]
          rw [e] at c2
          by_cases c3 : j = p.length
          · subst c3; rw [h2]; simp
          · rw [show j = p.length + 1 by omega, h3 g]; simp
        · rw [if_neg g]
          rw [e] at c2
          by_cases c3 : j = p.length
          · subst c3; rw [h2]; simp
          · by_cases c4 : j = p.length + 1
            · rw [c4, (h4 g).1]; simp
            · rw [show j = p.length + 2 by omega, (h4 g).2]; simp
      · rw [if_neg c2]
        have := h5 (j - p.length - zq_hl q.length) (by omega)
        rw [show p.length + zq_hl q.length + (j - p.length - zq_hl q.length) = j by omega] at this
        exact this
set_option maxHeartbeats 1000000 in
theorem zp_wrap {n : Nat} {s : zh_S} {p q : List Nat} {tag : Nat} (ht : tag < 256) (w : zq_w s) (d : zq_dV s (p ++ q)) (hl : p.length + q.length + 3 ≤ 200) : ∃ t, zf_Draft_wrap n s 1 (nI p.length) (nI tag) = some t ∧ zq_dV t (p ++ (zq_hd tag q.length ++ q)) ∧ zq_F zq_PD s t := by
  obtain ⟨d1, -, db, dv⟩ := d
  rw [List.length_append] at d1 dv
  have dp : ∀ j, j < p.length → zh_I s 2 j = nI (p.getD j 0) := fun j hj => by rw [dv j (by omega), zq_gd, if_pos hj]
  have dq : ∀ j, j < q.length → zh_I s 2 (p.length + j) = nI (q.getD j 0) := fun j hj => by rw [dv _ (by omega), zq_gd, if_neg (by omega), Nat.add_sub_cancel_left]
  have ed : nI (p.length + q.length) - nI p.length = nI q.length := by rw [zi_sub (by omega), Nat.add_sub_cancel_left]
  rw [zf_Draft_wrap, if_pos ⟨zw_K1 w, zw_N1 w⟩, d1]
  simp only [zk_l]
  rw [ed]
  by_cases h7 : q.length < 128
  · have e2 : zq_hl q.length = 2 := by unfold zq_hl; rw [if_pos h7]
    rw [if_pos (show nI q.length ≤ (127 : Int32) from nI_le (b := 127) (by omega) (by omega)), zb_Draft_wrap_18, if_neg (nI_pos (by omega)), if_neg (nI_pos (by omega))]
    refine ⟨zh_uI (zh_uI (zh_uI (zh_cpy s 2 (nI p.length) 2 (nI (p.length + 2)) (nI q.length)) 1 1 (nI (p.length + q.length + 2))) 2 p.length (nI tag)) 2 (p.length + 1) (nI q.length), ?_, zq_wrapped ht db hl ?_ ?_ ?_ ?_ ?_ ?_, ?_⟩
    · have c1 : p.length + q.length + 2 ≤ 200 := by omega
      have c2 : p.length + 2 + q.length ≤ 200 := by omega
      have c3 : p.length + q.length ≤ 200 := by omega
      have c4 : p.length < 200 := by omega
      have c5 : p.length + 1 < 200 := by omega
      simp only [zk_p, zk_l, zh_oo, zh_oa, zh_oc, zs_RI, zs_KI, zs_NI, zs_Rc, zs_Kc, zs_Nc, zs_RJ, zs_KJ, zs_NJ, zs_JI, zs_IJ, zs_Jc, zw_N0 w, zw_N1 w, zw_N2 w, zw_N3 w, zw_N4 w, zw_N5 w, zw_N6 w, zw_N7 w, zw_N8 w, zw_N9 w, zw_N44 w, zw_N45 w, zw_N46 w, zw_N47 w, zw_N48 w, zw_N49 w, zw_N50 w, zw_N51 w, zw_N52 w, zw_N53 w, zw_N54 w, zw_N55 w, zw_N56 w, zw_N57 w, zw_N58 w, zw_N59 w, zw_N60 w, zw_N61 w, zw_K0 w, zw_K1 w, zw_K2 w, zw_K3 w, zw_K4 w, zw_K5 w, zw_K6 w, zw_K7 w, zw_K8 w, zw_K9 w, zw_K44 w, zw_K45 w, zw_K46 w, zw_K47 w, zw_K48 w, zw_K49 w, zw_K50 w, zw_K51 w, zw_K52 w, zw_K53 w, zw_K54 w, zw_K55 w, zw_K56 w, zw_K57 w, zw_K58 w, zw_K59 w, zw_K60 w, zw_K61 w, zw_R0_0 w, zw_R0_1 w, zw_R0_2 w, zw_R1_0 w, zw_R3_0 w, zw_R3_1 w, zw_R3_2 w, zw_R7_0 w, zw_R7_1 w, zw_R44_0 w, zw_R44_2 w, zw_R44_4 w, zw_R44_5 w, zw_R44_6 w, zw_R44_7 w, zw_R44_8 w, zw_R44_11 w, zw_R44_13 w, zw_R44_14 w, zw_R44_16 w, zw_R44_18 w, zw_R44_19 w, zw_R44_20 w, zw_R44_21 w, zw_R44_22 w, zw_R44_23 w, d1, zb_Draft_wrap_94, zs_II, zs_Ic, true_and, and_true, and_self, ↓reduceIte, not_false_eq_true, Nat.not_lt_zero, not_true_eq_false, false_and, and_false, if_true, if_false]
      simp (disch := omega) only [zi_0, zi_1, zi_2, zi_3, zi_4, zi_5, zi_6, zi_7, zi_8, zi_9, zi_10, zi_11, zi_12, zi_13, zi_14, zi_15, zi_16, zi_17, zi_18, zi_19, zi_20, zi_21, zi_22, zi_23, zi_24, zi_25, zi_26, zi_27, zi_28, zi_29, zi_30, zi_31, zi_32, zi_40, zi_45, zi_46, zi_48, zi_49, zi_50, zi_55, zi_60, zi_63, zi_96, zi_97, zi_110, zi_122, zi_123, zi_127, zi_128, zi_129, zi_130, zi_150, zi_180, zi_200, zi_255, zl_0, zl_1, zl_2, zl_3, zl_4, zl_5, zl_6, zl_7, zl_8, zl_9, zl_10, zl_11, zl_12, zl_13, zl_14, zl_15, zl_16, zl_17, zl_18, zl_19, zl_20, zl_21, zl_22, zl_23, zl_24, zl_25, zl_26, zl_27, zl_28, zl_29, zl_30, zl_31, zl_32, zl_46, zl_96, zl_127, zl_128, zl_255, zl_1000, nI_ltI, nI_leI, nI_eq, pk_lLT, pk_lLE, pk_lEQ, nI_add, zi_sub, zi_mul, zi_dec, nI_clamp, lN_add, lN_mul]
      simp [d1, c1, c2, c3, c4, c5, nI_add, zi_sub]
    · rw [e2]; simp [zs_II]
    · intro j hj
      rw [zs_II, if_neg (by omega), zs_II, if_neg (by omega), zs_II, if_neg (by omega), zs_Ic, if_pos rfl, nI_clamp (by omega), if_neg (by omega)]
      exact dp j hj
    · rw [zs_II, if_neg (by omega), zs_II, if_pos ⟨rfl, rfl⟩]
    · intro _; rw [zs_II, if_pos ⟨rfl, rfl⟩]
    · intro g; exact absurd h7 g
    · intro j hj
      rw [e2]
      rw [zs_II, if_neg (by omega), zs_II, if_neg (by omega), zs_II, if_neg (by omega), zs_Ic, if_pos rfl, nI_clamp (by omega), nI_clamp (by omega), nI_clamp (by omega), if_pos (by omega), show p.length + (p.length + 2 + j - (p.length + 2)) = p.length + j by omega]
      exact dq j hj
    · refine ((((?_ : zq_F zq_PD s (zh_cpy s 2 (nI p.length) 2 (nI (p.length + 2)) (nI q.length))).uI (Or.inr ⟨rfl, rfl⟩) _).uI (Or.inl rfl) _).uI (Or.inl rfl) _)
      exact ⟨⟨rfl, rfl, rfl, rfl⟩, fun b j g => ⟨by rw [zs_Ic, if_neg (fun e => g (Or.inl e))], rfl⟩⟩
  · have e2 : zq_hl q.length = 3 := by unfold zq_hl; rw [if_neg h7]
    rw [if_neg (show ¬ nI q.length ≤ (127 : Int32) from nI_ge (a := 127) (by omega) (by omega)), zb_Draft_wrap_18, if_neg (nI_pos (by omega)), if_neg (nI_pos (by omega))]
    refine ⟨zh_uI (zh_uI (zh_uI (zh_uI (zh_cpy s 2 (nI p.length) 2 (nI (p.length + 3)) (nI q.length)) 1 1 (nI (p.length + q.length + 3))) 2 p.length (nI tag)) 2 (p.length + 1) (nI 129)) 2 (p.length + 2) (nI q.length), ?_, zq_wrapped ht db hl ?_ ?_ ?_ ?_ ?_ ?_, ?_⟩
    · have c1 : p.length + q.length + 3 ≤ 200 := by omega
      have c2 : p.length + 3 + q.length ≤ 200 := by omega
      have c3 : p.length + q.length ≤ 200 := by omega
      have c4 : p.length < 200 := by omega
      have c5 : p.length + 1 < 200 := by omega
      have c6 : p.length + 2 < 200 := by omega
      simp only [zk_p, zk_l, zh_oo, zh_oa, zh_oc, zs_RI, zs_KI, zs_NI, zs_Rc, zs_Kc, zs_Nc, zs_RJ, zs_KJ, zs_NJ, zs_JI, zs_IJ, zs_Jc, zw_N0 w, zw_N1 w, zw_N2 w, zw_N3 w, zw_N4 w, zw_N5 w, zw_N6 w, zw_N7 w, zw_N8 w, zw_N9 w, zw_N44 w, zw_N45 w, zw_N46 w, zw_N47 w, zw_N48 w, zw_N49 w, zw_N50 w, zw_N51 w, zw_N52 w, zw_N53 w, zw_N54 w, zw_N55 w, zw_N56 w, zw_N57 w, zw_N58 w, zw_N59 w, zw_N60 w, zw_N61 w, zw_K0 w, zw_K1 w, zw_K2 w, zw_K3 w, zw_K4 w, zw_K5 w, zw_K6 w, zw_K7 w, zw_K8 w, zw_K9 w, zw_K44 w, zw_K45 w, zw_K46 w, zw_K47 w, zw_K48 w, zw_K49 w, zw_K50 w, zw_K51 w, zw_K52 w, zw_K53 w, zw_K54 w, zw_K55 w, zw_K56 w, zw_K57 w, zw_K58 w, zw_K59 w, zw_K60 w, zw_K61 w, zw_R0_0 w, zw_R0_1 w, zw_R0_2 w, zw_R1_0 w, zw_R3_0 w, zw_R3_1 w, zw_R3_2 w, zw_R7_0 w, zw_R7_1 w, zw_R44_0 w, zw_R44_2 w, zw_R44_4 w, zw_R44_5 w, zw_R44_6 w, zw_R44_7 w, zw_R44_8 w, zw_R44_11 w, zw_R44_13 w, zw_R44_14 w, zw_R44_16 w, zw_R44_18 w, zw_R44_19 w, zw_R44_20 w, zw_R44_21 w, zw_R44_22 w, zw_R44_23 w, d1, zb_Draft_wrap_94, zs_II, zs_Ic, true_and, and_true, and_self, ↓reduceIte, not_false_eq_true, Nat.not_lt_zero, not_true_eq_false, false_and, and_false, if_true, if_false]
      simp (disch := omega) only [zi_0, zi_1, zi_2, zi_3, zi_4, zi_5, zi_6, zi_7, zi_8, zi_9, zi_10, zi_11, zi_12, zi_13, zi_14, zi_15, zi_16, zi_17, zi_18, zi_19, zi_20, zi_21, zi_22, zi_23, zi_24, zi_25, zi_26, zi_27, zi_28, zi_29, zi_30, zi_31, zi_32, zi_40, zi_45, zi_46, zi_48, zi_49, zi_50, zi_55, zi_60, zi_63, zi_96, zi_97, zi_110, zi_122, zi_123, zi_127, zi_128, zi_129, zi_130, zi_150, zi_180, zi_200, zi_255, zl_0, zl_1, zl_2, zl_3, zl_4, zl_5, zl_6, zl_7, zl_8, zl_9, zl_10, zl_11, zl_12, zl_13, zl_14, zl_15, zl_16, zl_17, zl_18, zl_19, zl_20, zl_21, zl_22, zl_23, zl_24, zl_25, zl_26, zl_27, zl_28, zl_29, zl_30, zl_31, zl_32, zl_46, zl_96, zl_127, zl_128, zl_255, zl_1000, nI_ltI, nI_leI, nI_eq, pk_lLT, pk_lLE, pk_lEQ, nI_add, zi_sub, zi_mul, zi_dec, nI_clamp, lN_add, lN_mul]
      simp [d1, c1, c2, c3, c4, c5, c6, nI_add, zi_sub]
    · rw [e2]; simp [zs_II]
    · intro j hj
      rw [zs_II, if_neg (by omega), zs_II, if_neg (by omega), zs_II, if_neg (by omega), zs_II, if_neg (by omega), zs_Ic, if_pos rfl, nI_clamp (by omega), if_neg (by omega)]
      exact dp j hj
    · rw [zs_II, if_neg (by omega), zs_II, if_neg (by omega), zs_II, if_pos ⟨rfl, rfl⟩]
    · intro g; exact absurd g h7
    · intro _; exact ⟨by rw [zs_II, if_neg (by omega), zs_II, if_pos ⟨rfl, rfl⟩], by rw [zs_II, if_pos ⟨rfl, rfl⟩]⟩
    · intro j hj
      rw [e2]
      rw [zs_II, if_neg (by omega), zs_II, if_neg (by omega), zs_II, if_neg (by omega), zs_II, if_neg (by omega), zs_Ic, if_pos rfl, nI_clamp (by omega), nI_clamp (by omega), nI_clamp (by omega), if_pos (by omega), show p.length + (p.length + 3 + j - (p.length + 3)) = p.length + j by omega]
      exact dq j hj
    · refine (((((?_ : zq_F zq_PD s (zh_cpy s 2 (nI p.length) 2 (nI (p.length + 3)) (nI q.length))).uI (Or.inr ⟨rfl, rfl⟩) _).uI (Or.inl rfl) _).uI (Or.inl rfl) _).uI (Or.inl rfl) _)
      exact ⟨⟨rfl, rfl, rfl, rfl⟩, fun b j g => ⟨by rw [zs_Ic, if_neg (fun e => g (Or.inl e))], rfl⟩⟩
/-- the loop of the reference's wrap: the bytes from k on have moved up -/
theorem zp_mwrap_l (n : Nat) {p q : List Nat} {h : Nat} {s0 : zh_S} (w0 : zq_w s0) (hh : h = 2 ∨ h = 3) (hl : p.length + q.length + 3 ≤ 200) (tag : Int32) (x : Int32) : ∀ (r f k : Nat) (s : zh_S), k - p.length = r → p.length ≤ k → k ≤ p.length + q.length → r < f → zq_F zq_PE s0 s → zh_I s 44 1 = zh_I s0 44 1 → (∀ j, j < k → zh_I s 45 j = zh_I s0 45 j) → (∀ j, k ≤ j → j < p.length + q.length → zh_I s 45 (j + h) = zh_I s0 45 j) →
    ∃ u f', zl_M_wrap_29 n f s 44 (nI p.length) tag x (nI h) (nI k - 1) = zl_M_wrap_29 n (f' + 1) u 44 (nI p.length) tag x (nI h) (nI p.length - 1) ∧ zq_F zq_PE s0 u ∧ zh_I u 44 1 = zh_I s0 44 1 ∧ (∀ j, j < p.length → zh_I u 45 j = zh_I s0 45 j) ∧ (∀ j, p.length ≤ j → j < p.length + q.length → zh_I u 45 (j + h) = zh_I s0 45 j) := by
  intro r
  induction r with
  | zero =>
    intro f k s h1 h2 h3 hf g1 g2 g3 g4
    have : k = p.length := by omega
    subst this
    exact ⟨s, f - 1, by rw [show f - 1 + 1 = f by omega], g1, g2, g3, g4⟩
  | succ r ih =>
    intro f k s h1 h2 h3 hf g1 g2 g3 g4
    obtain ⟨f, rfl⟩ : ∃ q, f = q + 1 := ⟨f - 1, by omega⟩
    obtain ⟨k, rfl⟩ : ∃ q, k = q + 1 := ⟨k - 1, by omega⟩
    have w := g1.w w0
    have step := ih f k (zh_uI s 45 (k + h) (zh_I s 45 k)) (by omega) (by omega) (by omega) (by omega) (g1.uI (Or.inl rfl) _) (by rw [zs_II, if_neg (by omega)]; exact g2)
      (fun j hj => by rw [zs_II, if_neg (by omega)]; exact g3 j (by omega))
      (fun j hj1 hj2 => by
        by_cases e : j = k
        · subst e; rw [zs_II, if_pos ⟨rfl, rfl⟩]; exact g3 j (by omega)
        · rw [zs_II, if_neg (by omega)]; exact g4 j (by omega) hj2)
    obtain ⟨u, f', e1, rest⟩ := step
    refine ⟨u, f', ?_, rest⟩
    rw [← e1, zl_M_wrap_29, nI_pred, if_neg (nI_nlt (by omega) (by omega)), if_pos ⟨zw_K44 w, zw_N44 w⟩, zw_R44_0 w]
    simp only [zk_p, zk_l]
    rw [nI_add, if_pos ⟨by rw [zw_K45 w], zw_N45 w, nI_pos (by omega), by rw [zw_K45 w, nI_clamp (by omega)]; show k < 200; omega⟩, if_pos ⟨by rw [zw_K45 w], zw_N45 w, nI_pos (by omega), by rw [zw_K45 w, nI_clamp (by omega)]; show k + h < 200; omega⟩, nI_clamp (show k + h < 2 ^ 31 by omega), nI_clamp (show k < 2 ^ 31 by omega), ← Int32.sub_eq_add_neg]
set_option maxHeartbeats 1000000 in
theorem zp_mwrap {n : Nat} (hn : 300 ≤ n) {s : zh_S} {p q : List Nat} {tag : Nat} (ht : tag < 256) (w : zq_w s) (d : zq_dM s (p ++ q)) (hl : p.length + q.length + 3 ≤ 200) : ∃ t, zf_M_wrap n s 44 (nI p.length) (nI tag) = some t ∧ zq_dM t (p ++ (zq_hd tag q.length ++ q)) ∧ zq_F zq_PE s t := by
  obtain ⟨d1, -, db, dv⟩ := d
  rw [List.length_append] at d1 dv
  have dp : ∀ j, j < p.length → zh_I s 45 j = nI (p.getD j 0) := fun j hj => by rw [dv j (by omega), zq_gd, if_pos hj]
  have dq : ∀ j, j < q.length → zh_I s 45 (p.length + j) = nI (q.getD j 0) := fun j hj => by rw [dv _ (by omega), zq_gd, if_neg (by omega), Nat.add_sub_cancel_left]
  have ed : nI (p.length + q.length) - nI p.length = nI q.length := by rw [zi_sub (by omega), Nat.add_sub_cancel_left]
  rw [zf_M_wrap, if_pos ⟨zw_K44 w, zw_N44 w⟩, d1]
  simp only [zk_l]
  rw [ed]
  have c4 : p.length < 200 := by omega
  have c5 : p.length + 1 < 200 := by omega
  have c6 : p.length + 2 < 200 := by omega
  have n1 : nI p.length - 1 < nI p.length := by
    rw [Int32.lt_iff_toInt_lt, Int32.toInt_sub, nI_toInt (by omega), show (1 : Int32).toInt = 1 from rfl, Int.bmod_eq_of_le (by omega) (by omega)]
    omega
  by_cases h7 : q.length < 128
  · have e2 : zq_hl q.length = 2 := by unfold zq_hl; rw [if_pos h7]
    obtain ⟨u, f', e1, g1, g2, g3, g4⟩ := zp_mwrap_l n (h := 2) w (Or.inl rfl) hl (nI tag) (nI q.length) q.length n (p.length + q.length) s (by omega) (by omega) (by omega) (by omega) zq_F.rf rfl (fun _ _ => rfl) (fun j a b => by omega)
    have wu := g1.w w
    rw [if_neg (show ¬ (128 : Int32) ≤ nI q.length from nI_ge (b := 128) (by omega) (by omega)), zb_M_wrap_19, if_pos ⟨zw_K44 w, zw_N44 w⟩, d1]
    simp only [zk_l]
    rw [show (2 : Int32) = nI 2 from rfl, e1, zl_M_wrap_29, if_pos n1]
    refine ⟨zh_uI (zh_uI (zh_uI u 45 p.length (nI tag)) 45 (p.length + 1) (nI q.length)) 44 1 (nI (p.length + q.length + 2)), ?_, zq_wrapped ht db hl ?_ ?_ ?_ ?_ ?_ ?_, ?_⟩
    · simp only [zk_p, zk_l, zh_oo, zh_oa, zs_RI, zs_KI, zs_NI, zs_Rc, zs_Kc, zs_Nc, zs_RJ, zs_KJ, zs_NJ, zs_JI, zs_IJ, zs_Jc, zw_N0 wu, zw_N1 wu, zw_N2 wu, zw_N3 wu, zw_N4 wu, zw_N5 wu, zw_N6 wu, zw_N7 wu, zw_N8 wu, zw_N9 wu, zw_N44 wu, zw_N45 wu, zw_N46 wu, zw_N47 wu, zw_N48 wu, zw_N49 wu, zw_N50 wu, zw_N51 wu, zw_N52 wu, zw_N53 wu, zw_N54 wu, zw_N55 wu, zw_N56 wu, zw_N57 wu, zw_N58 wu, zw_N59 wu, zw_N60 wu, zw_N61 wu, zw_K0 wu, zw_K1 wu, zw_K2 wu, zw_K3 wu, zw_K4 wu, zw_K5 wu, zw_K6 wu, zw_K7 wu, zw_K8 wu, zw_K9 wu, zw_K44 wu, zw_K45 wu, zw_K46 wu, zw_K47 wu, zw_K48 wu, zw_K49 wu, zw_K50 wu, zw_K51 wu, zw_K52 wu, zw_K53 wu, zw_K54 wu, zw_K55 wu, zw_K56 wu, zw_K57 wu, zw_K58 wu, zw_K59 wu, zw_K60 wu, zw_K61 wu, zw_R0_0 wu, zw_R0_1 wu, zw_R0_2 wu, zw_R1_0 wu, zw_R3_0 wu, zw_R3_1 wu, zw_R3_2 wu, zw_R7_0 wu, zw_R7_1 wu, zw_R44_0 wu, zw_R44_2 wu, zw_R44_4 wu, zw_R44_5 wu, zw_R44_6 wu, zw_R44_7 wu, zw_R44_8 wu, zw_R44_11 wu, zw_R44_13 wu, zw_R44_14 wu, zw_R44_16 wu, zw_R44_18 wu, zw_R44_19 wu, zw_R44_20 wu, zw_R44_21 wu, zw_R44_22 wu, zw_R44_23 wu, g2, d1, zb_M_wrap_86, zb_M_wrap_103, zs_II, true_and, and_true, and_self, ↓reduceIte, not_false_eq_true, Nat.not_lt_zero, not_true_eq_false, false_and, and_false, if_true, if_false]
      simp (disch := omega) only [zi_0, zi_1, zi_2, zi_3, zi_4, zi_5, zi_6, zi_7, zi_8, zi_9, zi_10, zi_11, zi_12, zi_13, zi_14, zi_15, zi_16, zi_17, zi_18, zi_19, zi_20, zi_21, zi_22, zi_23, zi_24, zi_25, zi_26, zi_27, zi_28, zi_29, zi_30, zi_31, zi_32, zi_40, zi_45, zi_46, zi_48, zi_49, zi_50, zi_55, zi_60, zi_63, zi_96, zi_97, zi_110, zi_122, zi_123, zi_127, zi_128, zi_129, zi_130, zi_150, zi_180, zi_200, zi_255, zl_0, zl_1, zl_2, zl_3, zl_4, zl_5, zl_6, zl_7, zl_8, zl_9, zl_10, zl_11, zl_12, zl_13, zl_14, zl_15, zl_16, zl_17, zl_18, zl_19, zl_20, zl_21, zl_22, zl_23, zl_24, zl_25, zl_26, zl_27, zl_28, zl_29, zl_30, zl_31, zl_32, zl_46, zl_96, zl_127, zl_128, zl_255, zl_1000, nI_ltI, nI_leI, nI_eq, pk_lLT, pk_lLE, pk_lEQ, nI_add, zi_sub, zi_mul, zi_dec, nI_clamp, lN_add, lN_mul]
      simp [g2, d1, c4, c5, h7, nI_add]
      omega
    · rw [e2]; simp [zs_II]
    · intro j hj
      rw [zs_II, if_neg (by omega), zs_II, if_neg (by omega), zs_II, if_neg (by omega), g3 j hj]
      exact dp j hj
    · rw [zs_II, if_neg (by omega), zs_II, if_neg (by omega), zs_II, if_pos ⟨rfl, rfl⟩]
    · intro _; rw [zs_II, if_neg (by omega), zs_II, if_pos ⟨rfl, rfl⟩]
    · intro g; exact absurd h7 g
    · intro j hj
      rw [e2, zs_II, if_neg (by omega), zs_II, if_neg (by omega), zs_II, if_neg (by omega), show p.length + 2 + j = p.length + j + 2 by omega, g4 (p.length + j) (by omega) (by omega)]
      exact dq j hj
    · exact ((g1.uI (Or.inl rfl) _).uI (Or.inl rfl) _).uI (Or.inr ⟨rfl, rfl⟩) _
  · have e2 : zq_hl q.length = 3 := by unfold zq_hl; rw [if_neg h7]
    obtain ⟨u, f', e1, g1, g2, g3, g4⟩ := zp_mwrap_l n (h := 3) w (Or.inr rfl) hl (nI tag) (nI q.length) q.length n (p.length + q.length) s (by omega) (by omega) (by omega) (by omega) zq_F.rf rfl (fun _ _ => rfl) (fun j a b => by omega)
    have wu := g1.w w
    have h7' : 128 ≤ q.length := by omega
    rw [if_pos (show (128 : Int32) ≤ nI q.length from nI_le (a := 128) (by omega) (by omega)), zb_M_wrap_19, if_pos ⟨zw_K44 w, zw_N44 w⟩, d1]
    simp only [zk_l]
    rw [show (3 : Int32) = nI 3 from rfl, e1, zl_M_wrap_29, if_pos n1]
    refine ⟨zh_uI (zh_uI (zh_uI (zh_uI u 45 p.length (nI tag)) 45 (p.length + 1) (nI 129)) 45 (p.length + 2) (nI q.length)) 44 1 (nI (p.length + q.length + 3)), ?_, zq_wrapped ht db hl ?_ ?_ ?_ ?_ ?_ ?_, ?_⟩
    · simp only [zk_p, zk_l, zh_oo, zh_oa, zs_RI, zs_KI, zs_NI, zs_Rc, zs_Kc, zs_Nc, zs_RJ, zs_KJ, zs_NJ, zs_JI, zs_IJ, zs_Jc, zw_N0 wu, zw_N1 wu, zw_N2 wu, zw_N3 wu, zw_N4 wu, zw_N5 wu, zw_N6 wu, zw_N7 wu, zw_N8 wu, zw_N9 wu, zw_N44 wu, zw_N45 wu, zw_N46 wu, zw_N47 wu, zw_N48 wu, zw_N49 wu, zw_N50 wu, zw_N51 wu, zw_N52 wu, zw_N53 wu, zw_N54 wu, zw_N55 wu, zw_N56 wu, zw_N57 wu, zw_N58 wu, zw_N59 wu, zw_N60 wu, zw_N61 wu, zw_K0 wu, zw_K1 wu, zw_K2 wu, zw_K3 wu, zw_K4 wu, zw_K5 wu, zw_K6 wu, zw_K7 wu, zw_K8 wu, zw_K9 wu, zw_K44 wu, zw_K45 wu, zw_K46 wu, zw_K47 wu, zw_K48 wu, zw_K49 wu, zw_K50 wu, zw_K51 wu, zw_K52 wu, zw_K53 wu, zw_K54 wu, zw_K55 wu, zw_K56 wu, zw_K57 wu, zw_K58 wu, zw_K59 wu, zw_K60 wu, zw_K61 wu, zw_R0_0 wu, zw_R0_1 wu, zw_R0_2 wu, zw_R1_0 wu, zw_R3_0 wu, zw_R3_1 wu, zw_R3_2 wu, zw_R7_0 wu, zw_R7_1 wu, zw_R44_0 wu, zw_R44_2 wu, zw_R44_4 wu, zw_R44_5 wu, zw_R44_6 wu, zw_R44_7 wu, zw_R44_8 wu, zw_R44_11 wu, zw_R44_13 wu, zw_R44_14 wu, zw_R44_16 wu, zw_R44_18 wu, zw_R44_19 wu, zw_R44_20 wu, zw_R44_21 wu, zw_R44_22 wu, zw_R44_23 wu, g2, d1, zb_M_wrap_86, zb_M_wrap_103, zs_II, true_and, and_true, and_self, ↓reduceIte, not_false_eq_true, Nat.not_lt_zero, not_true_eq_false, false_and, and_false, if_true, if_false]
      simp (disch := omega) only [zi_0, zi_1, zi_2, zi_3, zi_4, zi_5, zi_6, zi_7, zi_8, zi_9, zi_10, zi_11, zi_12, zi_13, zi_14, zi_15, zi_16, zi_17, zi_18, zi_19, zi_20, zi_21, zi_22, zi_23, zi_24, zi_25, zi_26, zi_27, zi_28, zi_29, zi_30, zi_31, zi_32, zi_40, zi_45, zi_46, zi_48, zi_49, zi_50, zi_55, zi_60, zi_63, zi_96, zi_97, zi_110, zi_122, zi_123, zi_127, zi_128, zi_129, zi_130, zi_150, zi_180, zi_200, zi_255, zl_0, zl_1, zl_2, zl_3, zl_4, zl_5, zl_6, zl_7, zl_8, zl_9, zl_10, zl_11, zl_12, zl_13, zl_14, zl_15, zl_16, zl_17, zl_18, zl_19, zl_20, zl_21, zl_22, zl_23, zl_24, zl_25, zl_26, zl_27, zl_28, zl_29, zl_30, zl_31, zl_32, zl_46, zl_96, zl_127, zl_128, zl_255, zl_1000, nI_ltI, nI_leI, nI_eq, pk_lLT, pk_lLE, pk_lEQ, nI_add, zi_sub, zi_mul, zi_dec, nI_clamp, lN_add, lN_mul]
      simp [g2, d1, c4, c5, c6, h7, h7', nI_add]
    · rw [e2]; simp [zs_II]
    · intro j hj
      rw [zs_II, if_neg (by omega), zs_II, if_neg (by omega), zs_II, if_neg (by omega), zs_II, if_neg (by omega), g3 j hj]
      exact dp j hj
    · rw [zs_II, if_neg (by omega), zs_II, if_neg (by omega), zs_II, if_neg (by omega), zs_II, if_pos ⟨rfl, rfl⟩]
    · intro g; exact absurd g h7
    · intro _; exact ⟨by rw [zs_II, if_neg (by omega), zs_II, if_neg (by omega), zs_II, if_pos ⟨rfl, rfl⟩], by rw [zs_II, if_neg (by omega), zs_II, if_pos ⟨rfl, rfl⟩]⟩
    · intro j hj
      rw [e2, zs_II, if_neg (by omega), zs_II, if_neg (by omega), zs_II, if_neg (by omega), zs_II, if_neg (by omega), show p.length + 3 + j = p.length + j + 3 by omega, g4 (p.length + j) (by omega) (by omega)]
      exact dq j hj
    · exact (((g1.uI (Or.inl rfl) _).uI (Or.inl rfl) _).uI (Or.inl rfl) _).uI (Or.inr ⟨rfl, rfl⟩) _
/-- the hash of the bytes from i to before j -/
def zq_hs (l : List Nat) (j : Nat) : Nat → Nat → Int32 → Int32
  | 0, _, h => h ^^^ zu_i h 15
  | r + 1, i, h => if j ≤ i then h ^^^ zu_i h 15 else zq_hs l j r (i + 1) ((h ^^^ nI (l.getD i 0)) * 16777619)
theorem zp_hash_l (n : Nat) {s : zh_S} {l : List Nat} (w : zq_w s) (d : zq_dV s l) {j : Nat} (hj : j ≤ l.length) : ∀ (r f i : Nat) (h : Int32), j - i ≤ r → r < f → i ≤ 200 → zl_Draft_hash_6 n f s 1 (nI j) h (nI i) = some (zq_hs l j r i h) := by
  have hl := d.2.1
  intro r
  induction r with
  | zero =>
    intro f i h h1 hf hi
    obtain ⟨f, rfl⟩ : ∃ q, f = q + 1 := ⟨f - 1, by omega⟩
    rw [zl_Draft_hash_6, if_pos (nI_le (by omega) (by omega)), zq_hs]
  | succ r ih =>
    intro f i h h1 hf hi
    obtain ⟨f, rfl⟩ : ∃ q, f = q + 1 := ⟨f - 1, by omega⟩
    rw [zl_Draft_hash_6, zq_hs]
    by_cases c : j ≤ i
    · rw [if_pos (nI_le c (by omega)), if_pos c]
    · rw [if_neg (nI_ge (by omega) (by omega)), if_neg c, if_pos ⟨zw_K1 w, zw_N1 w⟩, zw_R1_0 w]
      simp only [zk_p, zk_l]
      rw [if_pos ⟨by rw [zw_K2 w], zw_N2 w, nI_pos (by omega), by rw [zw_K2 w, nI_clamp (by omega)]; show i < 200; omega⟩, nI_clamp (by omega), d.2.2.2 i (by omega), nI_1]
      exact ih f (i + 1) _ (by omega) (by omega) (by omega)
theorem zp_mhash_l (n : Nat) {s : zh_S} {l : List Nat} (w : zq_w s) (d : zq_dM s l) {j : Nat} (hj : j ≤ l.length) : ∀ (r f i : Nat) (h : Int32), j - i ≤ r → r < f → i ≤ 200 → zl_M_hash_6 n f s 44 (nI j) h (nI i) = some (zq_hs l j r i h) := by
  have hl := d.2.1
  intro r
  induction r with
  | zero =>
    intro f i h h1 hf hi
    obtain ⟨f, rfl⟩ : ∃ q, f = q + 1 := ⟨f - 1, by omega⟩
    rw [zl_M_hash_6, if_pos (nI_le (by omega) (by omega)), zq_hs]
  | succ r ih =>
    intro f i h h1 hf hi
    obtain ⟨f, rfl⟩ : ∃ q, f = q + 1 := ⟨f - 1, by omega⟩
    rw [zl_M_hash_6, zq_hs]
    by_cases c : j ≤ i
    · rw [if_pos (nI_le c (by omega)), if_pos c]
    · rw [if_neg (nI_ge (by omega) (by omega)), if_neg c, if_pos ⟨zw_K44 w, zw_N44 w⟩, zw_R44_0 w]
      simp only [zk_p, zk_l]
      rw [if_pos ⟨by rw [zw_K45 w], zw_N45 w, nI_pos (by omega), by rw [zw_K45 w, nI_clamp (by omega)]; show i < 200; omega⟩, nI_clamp (by omega), d.2.2.2 i (by omega), nI_1]
      exact ih f (i + 1) _ (by omega) (by omega) (by omega)
def zq_h (l : List Nat) (i j : Nat) : Int32 := zq_hs l j 200 i (-2128831035)
theorem zp_hash {n : Nat} (hn : 300 ≤ n) {s : zh_S} {l : List Nat} (w : zq_w s) (d : zq_dV s l) {i j : Nat} (hj : j ≤ l.length) (hi : i ≤ 200) : zf_Draft_hash n s 1 (nI i) (nI j) = some (zq_h l i j) :=
  zp_hash_l n w d hj 200 n i _ (by have := d.2.1; omega) (by omega) hi
theorem zp_mhash {n : Nat} (hn : 300 ≤ n) {s : zh_S} {l : List Nat} (w : zq_w s) (d : zq_dM s l) {i j : Nat} (hj : j ≤ l.length) (hi : i ≤ 200) : zf_M_hash n s 44 (nI i) (nI j) = some (zq_h l i j) :=
  zp_mhash_l n w d hj 200 n i _ (by have := d.2.1; omega) (by omega) hi
