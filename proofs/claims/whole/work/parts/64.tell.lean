/-! certificate, list, chain, candidates. -/
section TE
variable {n : Nat} {s : zh_S}
theorem zp_of (w : zq_w s) {c k : Nat} (hc : c < 12) (hk : k < 15) : zf_M_of n s 44 (nI c) (nI k) = some (zh_J s 55 (15 * c + k)) := by
  have hidx : (15 : Int32) * nI c + nI k = nI (15 * c + k) := by rw [zi_15, zi_mul, nI_add]
  rw [zf_M_of]
  refine zv_e (zv_ck ⟨zw_K44 w, zw_N44 w⟩ (zv_p (zw_R44_16 w) (zv_ck (by rw [hidx]; exact zw_A55 w (by omega)) (zv_r ?_))))
  rw [hidx, nI_clamp (by omega)]
theorem zp_flags (b u g a : Bool) : (lN (zq_fv b u g + (if a then 1 else 0)) &&& (7 : Int64)) = (((if a then (1 : Int32) else 0) + (if b then 2 else 0)) + (if u then 4 else 0)).toInt64 := by cases b <;> cases u <;> cases g <;> cases a <;> decide +kernel
theorem zp_tell (w : zq_w s) {c k : Nat} (hc : c < 12) (hk : k < 15) (h : zq_ce s c) : zf_Certificate_tell n s (10 + c) (nI k) = some (if k = 14 then zh_J s 55 (15 * c + k) &&& (7 : Int64) else zh_J s 55 (15 * c + k)) := by
  have o := zw_C w (c := 10 + c) (by omega)
  obtain ⟨⟨v0, v1, v2, v3, v4, v5, v6, v7⟩, ⟨v8, v9, v10, v11, v12, v13⟩, ⟨a, b, u, g, v14, x18, x15, x16, x17⟩, -⟩ := h
  rw [zf_Certificate_tell]
  rcases (show k = 0 ∨ k = 1 ∨ k = 2 ∨ k = 3 ∨ k = 4 ∨ k = 5 ∨ k = 6 ∨ k = 7 ∨ k = 8 ∨ k = 9 ∨ k = 10 ∨ k = 11 ∨ k = 12 ∨ k = 13 ∨ k = 14 by omega) with rfl | rfl | rfl | rfl | rfl | rfl | rfl | rfl | rfl | rfl | rfl | rfl | rfl | rfl | rfl
  · show (if zh_oo s (10 + c) 0 then some (zh_J s (10 + c) 6) else none) = some (zh_J s 55 (15 * c)); rw [if_pos o, v0]
  · show (if zh_oo s (10 + c) 0 then some (zh_J s (10 + c) 0) else none) = some (zh_J s 55 (15 * c + 1)); rw [if_pos o, v1]
  · show (if zh_oo s (10 + c) 0 then some (zh_J s (10 + c) 1) else none) = some (zh_J s 55 (15 * c + 2)); rw [if_pos o, v2]
  · show (if zh_oo s (10 + c) 0 then some (zh_J s (10 + c) 2) else none) = some (zh_J s 55 (15 * c + 3)); rw [if_pos o, v3]
  · show (if zh_oo s (10 + c) 0 then some (zh_J s (10 + c) 7) else none) = some (zh_J s 55 (15 * c + 4)); rw [if_pos o, v4]
  · show (if zh_oo s (10 + c) 0 then some (zh_J s (10 + c) 8) else none) = some (zh_J s 55 (15 * c + 5)); rw [if_pos o, v5]
  · show (if zh_oo s (10 + c) 0 then some (zh_J s (10 + c) 9) else none) = some (zh_J s 55 (15 * c + 6)); rw [if_pos o, v6]
  · show (if zh_oo s (10 + c) 0 then some (zh_J s (10 + c) 3) else none) = some (zh_J s 55 (15 * c + 7)); rw [if_pos o, v7]
  · show (if zh_oo s (10 + c) 0 then some ((zh_I s (10 + c) 4).toInt64) else none) = some (zh_J s 55 (15 * c + 8)); rw [if_pos o, v8]
  · show (if zh_oo s (10 + c) 0 then some (zh_J s (10 + c) 10) else none) = some (zh_J s 55 (15 * c + 9)); rw [if_pos o, v9]
  · show (if zh_oo s (10 + c) 0 then some (zh_J s (10 + c) 11) else none) = some (zh_J s 55 (15 * c + 10)); rw [if_pos o, v10]
  · show (if zh_oo s (10 + c) 0 then some (zh_J s (10 + c) 12) else none) = some (zh_J s 55 (15 * c + 11)); rw [if_pos o, v11]
  · show (if zh_oo s (10 + c) 0 then some (zh_J s (10 + c) 13) else none) = some (zh_J s 55 (15 * c + 12)); rw [if_pos o, v12]
  · show (if zh_oo s (10 + c) 0 then some ((zh_I s (10 + c) 14).toInt64) else none) = some (zh_J s 55 (15 * c + 13)); rw [if_pos o, v13]
  · show (if zh_oo s (10 + c) 0 then (if zh_I s (10 + c) 18 = 0 then zb_Certificate_tell_160 n s (10 + c) 0 else zb_Certificate_tell_160 n s (10 + c) 1) else none) = some (zh_J s 55 (15 * c + 14) &&& (7 : Int64))
    rw [if_pos o, v14, zp_flags]
    have e160 : ∀ z : Int32, zb_Certificate_tell_160 n s (10 + c) z = some (((z + (if b then 2 else 0)) + (if u then 4 else 0)).toInt64) := by
      intro z
      rw [zb_Certificate_tell_160, if_pos o, x15]
      have e172 : ∀ y : Int32, zb_Certificate_tell_172 n s (10 + c) z y = some (((z + y) + (if u then 4 else 0)).toInt64) := by
        intro y
        rw [zb_Certificate_tell_172, if_pos o, x16]
        cases u <;> rfl
      cases b
      · rw [if_pos (show zq_bi false = 0 from rfl), e172]; rfl
      · rw [if_neg (by decide), e172]; rfl
    rw [x18]
    cases a
    · rw [if_pos (show zq_bi false = 0 from rfl), e160]; rfl
    · rw [if_neg (by decide), e160]; rfl
theorem zp_tell0 {a : Nat} {i : Int32} (hne : ∀ k, k < 15 → ¬ i = nI k) : zf_Certificate_tell n s a i = some (-1) := by
  rw [zf_Certificate_tell, if_neg (show ¬ i = 0 from hne 0 (by decide)), if_neg (show ¬ i = 1 from hne 1 (by decide)), if_neg (show ¬ i = 2 from hne 2 (by decide)), if_neg (show ¬ i = 3 from hne 3 (by decide)), if_neg (show ¬ i = 4 from hne 4 (by decide)), if_neg (show ¬ i = 5 from hne 5 (by decide)), if_neg (show ¬ i = 6 from hne 6 (by decide)), if_neg (show ¬ i = 7 from hne 7 (by decide)), if_neg (show ¬ i = 8 from hne 8 (by decide)), if_neg (show ¬ i = 9 from hne 9 (by decide)), if_neg (show ¬ i = 10 from hne 10 (by decide)), if_neg (show ¬ i = 11 from hne 11 (by decide)), if_neg (show ¬ i = 12 from hne 12 (by decide)), if_neg (show ¬ i = 13 from hne 13 (by decide)), if_neg (show ¬ i = 14 from hne 14 (by decide))]
theorem zp_tellL {c k : Nat} (o : zh_oo s (23 + 3 * c) 3) (hk : k < 6) (h : zq_li s c) : zf_RevokedList_tell n s (23 + 3 * c) (nI k) = some (zh_J s 56 (6 * c + k)) := by
  obtain ⟨⟨v0, v1, v2, v4, v5⟩, e, he, i8, v3, -⟩ := h
  rw [zf_RevokedList_tell]
  rcases (show k = 0 ∨ k = 1 ∨ k = 2 ∨ k = 3 ∨ k = 4 ∨ k = 5 by omega) with rfl | rfl | rfl | rfl | rfl | rfl
  · show (if zh_oo s (23 + 3 * c) 3 then some (zh_J s (23 + 3 * c) 0) else none) = some (zh_J s 56 (6 * c)); rw [if_pos o, v0]
  · show (if zh_oo s (23 + 3 * c) 3 then some (zh_J s (23 + 3 * c) 1) else none) = some (zh_J s 56 (6 * c + 1)); rw [if_pos o, v1]
  · show (if zh_oo s (23 + 3 * c) 3 then some (zh_J s (23 + 3 * c) 2) else none) = some (zh_J s 56 (6 * c + 2)); rw [if_pos o, v2]
  · show (if zh_oo s (23 + 3 * c) 3 then some ((zh_I s (23 + 3 * c) 8).toInt64) else none) = some (zh_J s 56 (6 * c + 3)); rw [if_pos o, v3, i8, nI_l (by omega)]
  · show (if zh_oo s (23 + 3 * c) 3 then some (zh_J s (23 + 3 * c) 3) else none) = some (zh_J s 56 (6 * c + 4)); rw [if_pos o, v4]
  · show (if zh_oo s (23 + 3 * c) 3 then some ((zh_I s (23 + 3 * c) 4).toInt64) else none) = some (zh_J s 56 (6 * c + 5)); rw [if_pos o, v5]
theorem zp_tellL0 {a : Nat} {i : Int32} (hne : ∀ k, k < 6 → ¬ i = nI k) : zf_RevokedList_tell n s a i = some (-1) := by
  rw [zf_RevokedList_tell, if_neg (show ¬ i = 0 from hne 0 (by decide)), if_neg (show ¬ i = 1 from hne 1 (by decide)), if_neg (show ¬ i = 2 from hne 2 (by decide)), if_neg (show ¬ i = 3 from hne 3 (by decide)), if_neg (show ¬ i = 4 from hne 4 (by decide)), if_neg (show ¬ i = 5 from hne 5 (by decide))]
theorem zy_certificate (h : zq_In n s) (i j : Int32) : ∃ r, zf_V_certificate n s 0 i j = some r ∧ zf_M_certificate n s 44 i j = some r := by
  obtain ⟨w, -, -, ⟨nc, nl, h3⟩, -⟩ := h
  have hb := h3.1
  have i7 := h3.2.1.1
  have i44 := h3.2.1.2.1
  have no : zf_Shelf_hasCertificate n s 7 i = some 0 → zf_V_certificate n s 0 i j = some (-1) := fun e => by
    rw [zf_V_certificate]
    exact zv_e (zv_ck ⟨zw_K0 w, zw_N0 w⟩ (zv_p (zw_R0_2 w) (zv_ck ⟨zw_K7 w, zw_N7 w⟩ (zv_p e (zv_t rfl (zv_r rfl))))))
  by_cases i0 : i < 0
  · exact ⟨-1, no (by rw [zf_Shelf_hasCertificate, if_pos i0]), by rw [zf_M_certificate, if_pos i0]⟩
  obtain ⟨c, hc, rfl⟩ := zi_of i0
  by_cases hcn : c < nc
  · have ce := h3.2.2.1 c hcn
    have yes : ∀ r, zf_Certificate_tell n s (10 + c) j = some r → zf_V_certificate n s 0 (nI c) j = some r := fun r e => by
      rw [zf_V_certificate]
      exact zv_e (zv_ck ⟨zw_K0 w, zw_N0 w⟩ (zv_p (zw_R0_2 w) (zv_ck ⟨zw_K7 w, zw_N7 w⟩ (zv_p (a := 1) (by rw [zf_Shelf_hasCertificate, if_neg i0, if_pos ⟨zw_K7 w, zw_N7 w⟩, i7, if_neg (nI_ge hcn (by omega))]) (zv_f (by decide) (zv_p (zw_R0_2 w) (zv_ck ⟨zw_K7 w, zw_N7 w⟩ (zv_p (zw_R7_0 w) (zv_ck (zw_A8 w (by omega)) (zv_p (zw_R8c w (by omega)) (zv_ck (zw_C w (by omega)) (zv_p e (zv_r rfl)))))))))))))
    have nle : ¬ zh_I s 44 15 ≤ nI c := by rw [i44]; exact nI_ge hcn (by omega)
    by_cases j0 : j < 0
    · refine ⟨-1, yes _ (zp_tell0 (fun k hk e => ?_)), ?_⟩
      · rw [e] at j0; exact nI_pos (by omega) j0
      · rw [zf_M_certificate]
        exact zv_e (zv_f i0 (zv_ck ⟨zw_K44 w, zw_N44 w⟩ (zv_f nle (zv_t j0 (zv_r rfl)))))
    obtain ⟨k, hk, rfl⟩ := zi_of j0
    by_cases k15 : k < 15
    · refine ⟨_, yes _ (zp_tell w (by omega) k15 ce), ?_⟩
      rw [zf_M_certificate]
      refine zv_e (zv_f i0 (zv_ck ⟨zw_K44 w, zw_N44 w⟩ (zv_f nle (zv_f j0 (zv_t (nI_le (b := 14) (by omega) (by decide)) (zv_p (zp_of w (by omega) k15) ?_))))))
      by_cases k14 : k = 14
      · exact zv_t (by rw [k14]; rfl) (zv_r (by rw [if_pos k14]))
      · exact zv_f (by rw [zi_14, nI_eq hk (by decide)]; exact k14) (zv_r (by rw [if_neg k14]))
    · refine ⟨-1, yes _ (zp_tell0 (fun q hq e => ?_)), ?_⟩
      · rw [nI_eq hk (by omega)] at e; omega
      · rw [zf_M_certificate]
        exact zv_e (zv_f i0 (zv_ck ⟨zw_K44 w, zw_N44 w⟩ (zv_f nle (zv_f j0 (zv_f (nI_ge (a := 14) (by omega) hk) (zv_r rfl))))))
  · refine ⟨-1, no (by rw [zf_Shelf_hasCertificate, if_neg i0, if_pos ⟨zw_K7 w, zw_N7 w⟩, i7, if_pos (nI_le (by omega) hc)]), ?_⟩
    rw [zf_M_certificate]
    exact zv_e (zv_f i0 (zv_ck ⟨zw_K44 w, zw_N44 w⟩ (zv_t (by rw [i44]; exact nI_le (by omega) hc) (zv_r rfl))))
theorem zy_list (h : zq_In n s) (i j : Int32) : ∃ r, zf_V_list n s 0 i j = some r ∧ zf_M_list n s 44 i j = some r := by
  obtain ⟨w, -, -, ⟨nc, nl, h3⟩, -⟩ := h
  have hb := h3.1
  have i7 := h3.2.1.2.2.1
  have i44 := h3.2.1.2.2.2
  by_cases i0 : i < 0
  · exact ⟨-1, by rw [zf_V_list, if_pos i0], by rw [zf_M_list, if_pos i0]⟩
  obtain ⟨c, hc, rfl⟩ := zi_of i0
  by_cases hcn : c < nl
  · have li := h3.2.2.2.1 c hcn
    have o := zw_L w (L := 23 + 3 * c) (by omega)
    have yes : ∀ r, zf_RevokedList_tell n s (23 + 3 * c) j = some r → zf_V_list n s 0 (nI c) j = some r := fun r e => by
      rw [zf_V_list]
      exact zv_e (zv_f i0 (zv_ck ⟨zw_K0 w, zw_N0 w⟩ (zv_p (zw_R0_2 w) (zv_ck ⟨zw_K7 w, zw_N7 w⟩ (zv_f (by rw [i7]; exact nI_ge hcn (by omega)) (zv_p (zw_R0_2 w) (zv_ck ⟨zw_K7 w, zw_N7 w⟩ (zv_p (zw_R7_1 w) (zv_ck (zw_A9 w (by omega)) (zv_p (zw_R9c w (by omega)) (zv_ck o (zv_p e (zv_r rfl)))))))))))))
    have nle : ¬ zh_I s 44 17 ≤ nI c := by rw [i44]; exact nI_ge hcn (by omega)
    by_cases j0 : j < 0
    · refine ⟨-1, yes _ (zp_tellL0 (fun k hk e => ?_)), ?_⟩
      · rw [e] at j0; exact nI_pos (by omega) j0
      · rw [zf_M_list]
        exact zv_e (zv_f i0 (zv_ck ⟨zw_K44 w, zw_N44 w⟩ (zv_f nle (zv_t j0 (zv_r rfl)))))
    obtain ⟨k, hk, rfl⟩ := zi_of j0
    by_cases k6 : k < 6
    · refine ⟨_, yes _ (zp_tellL o k6 li), ?_⟩
      have hidx : (6 : Int32) * nI c + nI k = nI (6 * c + k) := by rw [zi_6, zi_mul, nI_add]
      rw [zf_M_list]
      refine zv_e (zv_f i0 (zv_ck ⟨zw_K44 w, zw_N44 w⟩ (zv_f nle (zv_f j0 (zv_t (nI_le (b := 5) (by omega) (by decide)) (zv_p (zw_R44_18 w) (zv_ck (by rw [hidx]; exact zw_A56 w (by omega)) (zv_r ?_))))))))
      rw [hidx, nI_clamp (by omega)]
    · refine ⟨-1, yes _ (zp_tellL0 (fun q hq e => ?_)), ?_⟩
      · rw [nI_eq hk (by omega)] at e; omega
      · rw [zf_M_list]
        exact zv_e (zv_f i0 (zv_ck ⟨zw_K44 w, zw_N44 w⟩ (zv_f nle (zv_f j0 (zv_f (nI_ge (a := 5) (by omega) hk) (zv_r rfl))))))
  · refine ⟨-1, ?_, ?_⟩
    · rw [zf_V_list]
      exact zv_e (zv_f i0 (zv_ck ⟨zw_K0 w, zw_N0 w⟩ (zv_p (zw_R0_2 w) (zv_ck ⟨zw_K7 w, zw_N7 w⟩ (zv_t (by rw [i7]; exact nI_le (by omega) hc) (zv_r rfl))))))
    · rw [zf_M_list]
      exact zv_e (zv_f i0 (zv_ck ⟨zw_K44 w, zw_N44 w⟩ (zv_t (by rw [i44]; exact nI_le (by omega) hc) (zv_r rfl))))
theorem zv_o {β : Type} {o : Option Nat} {x : Nat} {a : Option β} {f : Nat → Option β} {Q : β → Prop} (h : o = some x) (k : ∃ y, f x = some y ∧ Q y) : ∃ y, zk_o o a f = some y ∧ Q y := by rw [h]; exact k
theorem zv_n {β : Type} {o : Option Nat} {a : Option β} {f : Nat → Option β} {Q : β → Prop} (h : o = none) (k : ∃ y, a = some y ∧ Q y) : ∃ y, zk_o o a f = some y ∧ Q y := by rw [h]; exact k
theorem zy_candidates (h : zq_In n s) : ∃ r, zf_V_candidates n s 0 = some r ∧ zf_M_candidates n s 44 = some r := by
  obtain ⟨w, -, -, -, h4⟩ := h
  refine ⟨zh_I s 44 25, ?_, by rw [zf_M_candidates, if_pos ⟨zw_K44 w, zw_N44 w⟩]⟩
  rw [zf_V_candidates]
  rcases h4 with ⟨h1, h2, h3⟩ | ⟨x, p, f, h1, ⟨h2, h3⟩, h4, ⟨h5, h6, h7⟩, h8, h9, ha, hb, hc⟩
  · exact zv_e (zv_ck ⟨zw_K0 w, zw_N0 w⟩ (zv_n h1 (zv_r h3.symm)))
  · exact zv_e (zv_ck ⟨zw_K0 w, zw_N0 w⟩ (zv_o h1 (zv_o h1 (zv_ck h3 (zv_r hb)))))
theorem zy_chain (h : zq_In n s) (i : Int32) : ∃ r, zf_V_chain n s 0 i = some r ∧ zf_M_chain n s 44 i = some r := by
  obtain ⟨w, -, -, -, h4⟩ := h
  rcases h4 with ⟨h1, h2, h3⟩ | ⟨x, p, f, h1, ⟨h2, h3⟩, h4, ⟨h5, h6, h7⟩, h8, h9, ha, hb, hc⟩
  · refine ⟨-1, ?_, ?_⟩
    · rw [zf_V_chain]
      exact zv_e (zv_ck ⟨zw_K0 w, zw_N0 w⟩ (zv_n h1 (zv_r rfl)))
    · rw [zf_M_chain]
      by_cases i0 : i < 0
      · rw [if_pos i0]
      · exact zv_e (zv_f i0 (zv_ck ⟨zw_K44 w, zw_N44 w⟩ (zv_f (by rw [h2]; exact i0) (zv_r rfl))))
  · have yes : ∀ r, zf_Search_foundAt n s x i = some r → zf_V_chain n s 0 i = some r := fun r e => by
      rw [zf_V_chain]
      exact zv_e (zv_ck ⟨zw_K0 w, zw_N0 w⟩ (zv_o h1 (zv_o h1 (zv_ck h3 (zv_p e (zv_r rfl))))))
    by_cases i0 : i < 0
    · exact ⟨-1, yes _ (by rw [zf_Search_foundAt, if_pos i0]), by rw [zf_M_chain, if_pos i0]⟩
    obtain ⟨k, hk, rfl⟩ := zi_of i0
    by_cases hkf : k < f
    · refine ⟨zh_I s 61 k, yes _ ?_, ?_⟩
      · have hidx : zh_I s x 5 - (1 : Int32) - nI k = nI (f - 1 - k) := by rw [h9, zi_1, zi_sub (by omega), zi_sub (by omega)]
        rw [zf_Search_foundAt]
        refine zv_e (zv_f i0 (zv_ck h3 (zv_f (by rw [h9]; exact nI_ge hkf (by omega)) (zv_p h4 (zv_ck ?_ (zv_r ?_))))))
        · rw [hidx]; exact ⟨by rw [h7], h6, nI_pos (by omega), by rw [h7, nI_clamp (by omega)]; show f - 1 - k < 5; omega⟩
        · rw [hidx, nI_clamp (by omega)]; exact (hc k hkf).symm
      · rw [zf_M_chain]
        refine zv_e (zv_f i0 (zv_ck ⟨zw_K44 w, zw_N44 w⟩ (zv_t (by rw [ha]; exact nI_lt hkf (by omega)) (zv_p (zw_R44_23 w) (zv_ck (zw_A61 w (by omega)) (zv_r ?_))))))
        rw [nI_clamp (by omega)]
    · refine ⟨-1, yes _ ?_, ?_⟩
      · rw [zf_Search_foundAt]
        exact zv_e (zv_f i0 (zv_ck h3 (zv_t (by rw [h9]; exact nI_le (by omega) hk) (zv_r rfl))))
      · rw [zf_M_chain]
        exact zv_e (zv_f i0 (zv_ck ⟨zw_K44 w, zw_N44 w⟩ (zv_f (by rw [ha]; exact nI_nlt (by omega) hk) (zv_r rfl))))
end TE
