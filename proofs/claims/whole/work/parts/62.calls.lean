/-! put, poke, clear, at, compose, composeList. -/
theorem zi_of {i : Int32} (h : ¬ i < 0) : ∃ k : Nat, k < 2 ^ 31 ∧ i = nI k := by
  have h1 : 0 ≤ i.toInt := by rw [Int32.lt_iff_toInt_lt] at h; exact Int.not_lt.mp h
  have h2 : i.toInt < 2 ^ 31 := Int32.toInt_lt i
  refine ⟨i.toInt.toNat, by omega, Int32.toInt_inj.mp ?_⟩
  rw [nI_toInt (by omega)]
  omega
theorem zi_ltl (i : Int32) (k : Nat) (hk : k < 2 ^ 31) : (lN k < i.toInt64 ↔ nI k < i) ∧ (lN k ≤ i.toInt64 ↔ nI k ≤ i) ∧ (i.toInt64 < lN k ↔ i < nI k) ∧ (i.toInt64 ≤ lN k ↔ i ≤ nI k) := by
  rw [Int64.lt_iff_toInt_lt, Int64.le_iff_toInt_le, Int64.lt_iff_toInt_lt, Int64.le_iff_toInt_le, Int32.lt_iff_toInt_lt, Int32.le_iff_toInt_le, Int32.lt_iff_toInt_lt, Int32.le_iff_toInt_le, Int32.toInt_toInt64, lN_toInt hk, nI_toInt hk]
  exact ⟨Iff.rfl, Iff.rfl, Iff.rfl, Iff.rfl⟩
theorem zi_byte (n : Nat) (i : Int32) : (zf_Draft_isByte n i = some 0 ∧ zf_M_in n i.toInt64 0 255 = some 0) ∨ ∃ b : Nat, b < 256 ∧ i = nI b ∧ zf_Draft_isByte n i = some 1 ∧ zf_M_in n i.toInt64 0 255 = some 1 := by
  have e0 := zi_ltl i 0 (by decide)
  have e255 := zi_ltl i 255 (by decide)
  rw [zn_in, zf_Draft_isByte]
  by_cases h0 : i < 0
  · exact Or.inl ⟨by rw [if_pos h0], by rw [if_neg (fun h => absurd (e0.2.1.mp h.1) (Int32.not_le.mpr h0))]⟩
  · by_cases h1 : (255 : Int32) < i
    · exact Or.inl ⟨by rw [if_neg h0, if_pos h1], by rw [if_neg (fun h => absurd (e255.2.2.2.mp h.2) (Int32.not_le.mpr h1))]⟩
    · refine Or.inr ?_
      rw [if_neg h0, if_neg h1, if_pos ⟨e0.2.1.mpr (Int32.not_lt.mp h0), e255.2.2.2.mpr (Int32.not_lt.mp h1)⟩]
      obtain ⟨k, hk, rfl⟩ := zi_of h0
      refine ⟨k, ?_, rfl, rfl, rfl⟩
      rw [show (255 : Int32) = nI 255 from rfl, nI_ltI (by decide) hk] at h1
      omega
theorem zv_e {β : Type} {o : Option β} {r : β} (h : ∃ x, o = some x ∧ x = r) : o = some r := by
  obtain ⟨x, hx, rfl⟩ := h
  exact hx
theorem zq_push1 {s : zh_S} {o k a : Nat} {l : List Nat} (d : zq_L s o k a l) {j b : Nat} (hj : j < l.length) (hb : b < 256) (hne : a ≠ o) : zq_L (zh_uI s a j (nI b)) o k a (l.set j b) := by
  obtain ⟨h1, h2, h3, h4⟩ := d
  refine ⟨?_, ?_, ?_, fun i hi => ?_⟩
  · rw [zs_II, if_neg (fun e => hne e.1.symm), List.length_set]; exact h1
  · rw [List.length_set]; exact h2
  · intro x hx
    rcases List.mem_or_eq_of_mem_set hx with h | h
    · exact h3 x h
    · rw [h]; exact hb
  · rw [List.length_set] at hi
    rw [zs_II]
    by_cases hij : i = j
    · subst hij
      rw [if_pos ⟨rfl, rfl⟩, List.getD_eq_getElem?_getD, List.getElem?_set_self hi]
      rfl
    · rw [if_neg (fun e => hij e.2), h4 i hi, List.getD_eq_getElem?_getD, List.getD_eq_getElem?_getD, List.getElem?_set_ne (fun e => hij e.symm)]
theorem zq_nil {s : zh_S} {o k a : Nat} : zq_L (zh_uI s o k 0) o k a [] := ⟨by rw [zs_II, if_pos ⟨rfl, rfl⟩]; rfl, Nat.zero_le _, fun b hb => absurd hb (List.not_mem_nil), fun j hj => absurd hj (Nat.not_lt_zero j)⟩
section CA
variable {n : Nat} {s : zh_S}
/-- a call that changes the drafts alone -/
theorem zy_draft (h : zq_In n s) {t u : zh_S} {l : List Nat} (d1 : zq_dV t l) (f1 : zq_F zq_PD s t) (d2 : zq_dM u l) (f2 : zq_F zq_PE t u) : zq_w t ∧ zq_In n u ∧ zq_Gr s u := by
  obtain ⟨w, -, ⟨F, A, B, c, h2⟩, ⟨nc, nl, h3⟩, h4⟩ := h
  have hb := h3.1
  have wt := f1.w w
  have hN := w.n
  refine ⟨wt, ⟨f2.w wt, ⟨l, d1.keep f2 (by omega) (fun j => by omega), d2⟩, ⟨F, A, B, c, (h2.ke w f1.h (fun a k p => by omega)).ke wt f2.h (fun a k p => by omega)⟩, ⟨nc, nl, (h3.ke w f1.h (fun a k p => by omega)).ke wt f2.h (fun a k p => by omega)⟩, (h4.ke w f1.h (by rw [f1.1.1]) (fun a k p => by omega)).ke wt f2.h (by rw [f2.1.1]) (fun a k p => by omega)⟩, zq_F.gr (zq_F.gr zq_Gr.rf f1) f2⟩
theorem zy_put (h : zq_In n s) (i : Int32) : ∃ r t u, zf_V_put n s 0 i = some (r, t) ∧ zq_w t ∧ zf_M_put n t 44 i = some (r, u) ∧ zq_In n u ∧ zq_Gr s u := by
  have h' := h
  obtain ⟨w, ⟨l, h1⟩, -, -, -⟩ := h'
  have hl := h1.1.2.1
  have key : ∀ r t, zf_Draft_append n s 1 i = some (r, t) → (r = 0 ∨ r = 1) → zf_V_put n s 0 i = some (r, t) := by
    intro r t e hr
    have : ∃ x, zf_V_put n s 0 i = some x ∧ x = (r, t) := by
      rw [zf_V_put]
      exact zv_ck ⟨zw_K0 w, zw_N0 w⟩ (zv_p (zw_R0_0 w) (zv_ck ⟨zw_K1 w, zw_N1 w⟩ (zv_b e (zv_ck hr (zv_r rfl)))))
    obtain ⟨x, hx, rfl⟩ := this
    exact hx
  rcases zi_byte n i with ⟨e1, e2⟩ | ⟨b, hb, rfl, e1, e2⟩
  · refine ⟨0, s, s, key _ _ ?_ (Or.inl rfl), w, ?_, h, zq_Gr.rf⟩
    · rw [zf_Draft_append, e1]; rfl
    · rw [zf_M_put, e2]; rfl
  · by_cases h200 : l.length < 200
    · obtain ⟨t, e3, d3, f3⟩ := zp_app n w h1.1 hb h200
      have wt := f3.w w
      have dM : zq_dM t l := h1.2.keep f3 (by omega) (fun j => by omega)
      have f4 : zq_F zq_PE t (zh_uI (zh_uI t 45 l.length (nI b)) 44 1 (nI (l.length + 1))) := (zq_F.rf.uI (by omega) _).uI (by omega) _
      obtain ⟨w1, hI, hG⟩ := zy_draft h d3 f3 (zq_push dM hb h200 (by decide)) f4
      have w5 : zq_w (zh_uI t 45 l.length (nI b)) := (zq_F.rf.uI (P := zq_PE) (by omega) _ : zq_F zq_PE t _).w wt
      have hi1 : zh_I (zh_uI t 45 l.length (nI b)) 44 1 = nI l.length := by rw [zs_II, if_neg (by omega)]; exact dM.1
      refine ⟨1, t, _, key _ _ e3 (Or.inr rfl), wt, ?_, hI, hG⟩
      have : ∃ x, zf_M_put n t 44 (nI b) = some x ∧ x = (1, zh_uI (zh_uI t 45 l.length (nI b)) 44 1 (nI (l.length + 1))) := by
        rw [zf_M_put]
        refine zv_p e2 (zv_f (by decide) (zv_ck ⟨zw_K44 wt, zw_N44 wt⟩ ?_))
        rw [dM.1]
        refine zv_f (by rw [zi_200, nI_eq (by omega) (by decide)]; omega) (zv_p (zw_R44_0 wt) (zv_ck (zw_A45 wt (by omega)) (zv_l ?_)))
        rw [nI_clamp (by omega)]
        refine zv_ck ⟨zw_K44 w5, zw_N44 w5⟩ (zv_l (zv_r ?_))
        rw [hi1, zi_1, nI_add]
      obtain ⟨x, hx, rfl⟩ := this
      exact hx
    · have hl2 : l.length = 200 := by omega
      refine ⟨0, s, s, key _ _ ?_ (Or.inl rfl), w, ?_, h, zq_Gr.rf⟩
      · rw [zf_Draft_append]
        exact zv_e (zv_p e1 (zv_f (by decide) (zv_ck ⟨zw_K1 w, zw_N1 w⟩ (zv_f (by rw [h1.1.1, hl2]; decide) (zv_r rfl)))))
      · rw [zf_M_put]
        exact zv_e (zv_p e2 (zv_f (by decide) (zv_ck ⟨zw_K44 w, zw_N44 w⟩ (zv_t (by rw [h1.2.1, hl2]; rfl) (zv_r rfl)))))
theorem zy_poke (h : zq_In n s) (i b : Int32) : ∃ r t u, zf_V_poke n s 0 i b = some (r, t) ∧ zq_w t ∧ zf_M_poke n t 44 i b = some (r, u) ∧ zq_In n u ∧ zq_Gr s u := by
  have h' := h
  obtain ⟨w, ⟨l, h1⟩, -, -, -⟩ := h'
  have hl := h1.1.2.1
  have key : ∀ r t, zf_Draft_replace n s 1 i b = some (r, t) → (r = 0 ∨ r = 1) → zf_V_poke n s 0 i b = some (r, t) := by
    intro r t e hr
    have : ∃ x, zf_V_poke n s 0 i b = some x ∧ x = (r, t) := by
      rw [zf_V_poke]
      exact zv_ck ⟨zw_K0 w, zw_N0 w⟩ (zv_p (zw_R0_0 w) (zv_ck ⟨zw_K1 w, zw_N1 w⟩ (zv_b e (zv_ck hr (zv_r rfl)))))
    obtain ⟨x, hx, rfl⟩ := this
    exact hx
  by_cases i0 : i < 0
  · refine ⟨0, s, s, key _ _ ?_ (Or.inl rfl), w, ?_, h, zq_Gr.rf⟩
    · rw [zf_Draft_replace, if_pos ⟨zw_K1 w, zw_N1 w⟩, zf_Draft_has, if_pos i0]; rfl
    · rw [zf_M_poke, if_pos i0]
  obtain ⟨k, hk, rfl⟩ := zi_of i0
  by_cases hkl : k < l.length
  · have has : zf_Draft_has n s 1 (nI k) = some 1 := by rw [zf_Draft_has, if_neg i0, if_pos ⟨zw_K1 w, zw_N1 w⟩, h1.1.1, if_neg (nI_ge hkl (by omega))]
    rcases zi_byte n b with ⟨e1, e2⟩ | ⟨b, hb, rfl, e1, e2⟩
    · refine ⟨0, s, s, key _ _ ?_ (Or.inl rfl), w, ?_, h, zq_Gr.rf⟩
      · rw [zf_Draft_replace, if_pos ⟨zw_K1 w, zw_N1 w⟩, has, e1]; rfl
      · rw [zf_M_poke, if_neg i0, if_pos ⟨zw_K44 w, zw_N44 w⟩, h1.2.1, if_neg (nI_ge hkl (by omega)), e2]; rfl
    · have f3 : zq_F zq_PD s (zh_uI s 2 k (nI b)) := zq_F.rf.uI (by omega) _
      have wt := f3.w w
      have dM : zq_dM (zh_uI s 2 k (nI b)) l := h1.2.keep f3 (by omega) (fun j => by omega)
      have f4 : zq_F zq_PE (zh_uI s 2 k (nI b)) (zh_uI (zh_uI s 2 k (nI b)) 45 k (nI b)) := zq_F.rf.uI (by omega) _
      obtain ⟨w1, hI, hG⟩ := zy_draft h (zq_push1 h1.1 hkl hb (by decide)) f3 (zq_push1 dM hkl hb (by decide)) f4
      refine ⟨1, zh_uI s 2 k (nI b), _, key _ _ ?_ (Or.inr rfl), wt, ?_, hI, hG⟩
      · have : ∃ x, zf_Draft_replace n s 1 (nI k) (nI b) = some x ∧ x = (1, zh_uI s 2 k (nI b)) := by
          rw [zf_Draft_replace]
          refine zv_ck ⟨zw_K1 w, zw_N1 w⟩ (zv_p has (zv_f (by decide) (zv_p e1 (zv_f (by decide) (zv_p (zw_R1_0 w) (zv_ck (zw_A2 w (by omega)) (zv_l (zv_r ?_))))))))
          rw [nI_clamp (by omega)]
        obtain ⟨x, hx, rfl⟩ := this
        exact hx
      · have : ∃ x, zf_M_poke n (zh_uI s 2 k (nI b)) 44 (nI k) (nI b) = some x ∧ x = (1, zh_uI (zh_uI s 2 k (nI b)) 45 k (nI b)) := by
          rw [zf_M_poke]
          refine zv_f i0 (zv_ck ⟨zw_K44 wt, zw_N44 wt⟩ (zv_f (by rw [dM.1]; exact nI_ge hkl (by omega)) (zv_p e2 (zv_f (by decide) (zv_p (zw_R44_0 wt) (zv_ck (zw_A45 wt (by omega)) (zv_l (zv_r ?_))))))))
          rw [nI_clamp (by omega)]
        obtain ⟨x, hx, rfl⟩ := this
        exact hx
  · have hle : zh_I s 1 1 ≤ nI k := by rw [h1.1.1]; exact nI_le (by omega) hk
    have hle2 : zh_I s 44 1 ≤ nI k := by rw [h1.2.1]; exact nI_le (by omega) hk
    refine ⟨0, s, s, key _ _ ?_ (Or.inl rfl), w, ?_, h, zq_Gr.rf⟩
    · rw [zf_Draft_replace, if_pos ⟨zw_K1 w, zw_N1 w⟩, zf_Draft_has, if_neg i0, if_pos ⟨zw_K1 w, zw_N1 w⟩, if_pos hle]; rfl
    · rw [zf_M_poke, if_neg i0, if_pos ⟨zw_K44 w, zw_N44 w⟩, if_pos hle2]
theorem zy_clear (h : zq_In n s) : ∃ t u, zf_V_clear n s 0 = some t ∧ zq_w t ∧ zf_M_clear n t 44 = some u ∧ zq_In n u ∧ zq_Gr s u := by
  have w := h.1
  have f3 : zq_F zq_PD s (zh_uI s 1 1 0) := zq_F.rf.uI (by omega) _
  have wt := f3.w w
  have f4 : zq_F zq_PE (zh_uI s 1 1 0) (zh_uI (zh_uI s 1 1 0) 44 1 0) := zq_F.rf.uI (by omega) _
  obtain ⟨w1, hI, hG⟩ := zy_draft (l := []) h zq_nil f3 zq_nil f4
  refine ⟨_, _, ?_, wt, ?_, hI, hG⟩
  · rw [zf_V_clear, if_pos ⟨zw_K0 w, zw_N0 w⟩, zw_R0_0 w]
    show (if zh_oo s 1 1 then zk_p (zf_Draft_empty n s 1) _ else none) = _
    rw [if_pos ⟨zw_K1 w, zw_N1 w⟩, zf_Draft_empty, if_pos ⟨zw_K1 w, zw_N1 w⟩]
    rfl
  · rw [zf_M_clear, if_pos ⟨zw_K44 wt, zw_N44 wt⟩]
    rfl
theorem zy_at (h : zq_In n s) (i : Int32) : ∃ r, zf_V_at n s 0 i = some r ∧ zf_M_at n s 44 i = some r := by
  obtain ⟨w, ⟨l, h1⟩, -, -, -⟩ := h
  have hl := h1.1.2.1
  have e0 : ∀ r, (∃ x, zf_V_at n s 0 i = some x ∧ x = r) → (∃ x, zf_M_at n s 44 i = some x ∧ x = r) → ∃ r, zf_V_at n s 0 i = some r ∧ zf_M_at n s 44 i = some r := fun r ⟨x, h1, h2⟩ ⟨y, h3, h4⟩ => ⟨r, by rw [h1, h2], by rw [h3, h4]⟩
  by_cases im : i = -1
  · apply e0 (nI l.length)
    · rw [zf_V_at]
      exact zv_t im (zv_ck ⟨zw_K0 w, zw_N0 w⟩ (zv_p (zw_R0_0 w) (zv_ck ⟨zw_K1 w, zw_N1 w⟩ (zv_r h1.1.1))))
    · rw [zf_M_at]
      exact zv_t im (zv_ck ⟨zw_K44 w, zw_N44 w⟩ (zv_r h1.2.1))
  by_cases i0 : i < 0
  · apply e0 (-1)
    · rw [zf_V_at]
      exact zv_f im (zv_ck ⟨zw_K0 w, zw_N0 w⟩ (zv_p (zw_R0_0 w) (zv_ck ⟨zw_K1 w, zw_N1 w⟩ (zv_p (a := 0) (by rw [zf_Draft_has, if_pos i0]) (zv_t rfl (zv_r rfl))))))
    · rw [zf_M_at]
      exact zv_f im (zv_t i0 (zv_r rfl))
  obtain ⟨k, hk, rfl⟩ := zi_of i0
  by_cases hkl : k < l.length
  · apply e0 (nI (l.getD k 0))
    · rw [zf_V_at]
      refine zv_f im (zv_ck ⟨zw_K0 w, zw_N0 w⟩ (zv_p (zw_R0_0 w) (zv_ck ⟨zw_K1 w, zw_N1 w⟩ (zv_p (a := 1) (by rw [zf_Draft_has, if_neg i0, if_pos ⟨zw_K1 w, zw_N1 w⟩, h1.1.1, if_neg (nI_ge hkl (by omega))]) (zv_f (by decide) (zv_p (zw_R0_0 w) (zv_ck ⟨zw_K1 w, zw_N1 w⟩ (zv_p (zw_R1_0 w) (zv_ck (zw_A2 w (by omega)) (zv_r ?_))))))))))
      rw [nI_clamp hk]; exact h1.1.2.2.2 k hkl
    · rw [zf_M_at]
      refine zv_f im (zv_f i0 (zv_ck ⟨zw_K44 w, zw_N44 w⟩ (zv_t (by rw [h1.2.1]; exact nI_lt hkl (by omega)) (zv_p (zw_R44_0 w) (zv_ck (zw_A45 w (by omega)) (zv_r ?_))))))
      rw [nI_clamp hk]; exact h1.2.2.2.2 k hkl
  · apply e0 (-1)
    · rw [zf_V_at]
      exact zv_f im (zv_ck ⟨zw_K0 w, zw_N0 w⟩ (zv_p (zw_R0_0 w) (zv_ck ⟨zw_K1 w, zw_N1 w⟩ (zv_p (a := 0) (by rw [zf_Draft_has, if_neg i0, if_pos ⟨zw_K1 w, zw_N1 w⟩, h1.1.1, if_pos (nI_le (by omega) hk)]) (zv_t rfl (zv_r rfl))))))
    · rw [zf_M_at]
      exact zv_f im (zv_f i0 (zv_ck ⟨zw_K44 w, zw_N44 w⟩ (zv_f (by rw [h1.2.1]; exact nI_nlt (by omega) hk) (zv_r rfl))))
theorem zy_compose (hn : 300 ≤ n) (h : zq_In n s) : ∃ r t u, zf_V_compose n s 0 = some (r, t) ∧ zq_w t ∧ zf_M_compose n t 44 = some (r, u) ∧ zq_In n u ∧ zq_Gr s u := by
  have h' := h
  obtain ⟨w, ⟨l, h1⟩, ⟨F, A, B, c, ⟨hT, hM, hO⟩, hV, hMT⟩, -, -⟩ := h'
  obtain ⟨x, e1, a1, d1, f1⟩ := zp_wC hn hO w h1.1 hT
  have wt := f1.w w
  have hM' : zq_TM x.2 F := fun k hk => by rw [(f1.2 46 k (by omega)).2]; exact hM k hk
  obtain ⟨y, e2, a2, d2, f2⟩ := zp_mC hn hO wt hM' (hMT.ke f1 (fun a k p => by omega))
  obtain ⟨-, hI, hG⟩ := zy_draft h d1 f1 d2 f2
  exact ⟨x.1, x.2, y.2, e1, wt, by rw [a1, ← a2]; exact e2, hI, hG⟩
theorem zy_composeList (hn : 300 ≤ n) (h : zq_In n s) : ∃ r t u, zf_V_composeList n s 0 = some (r, t) ∧ zq_w t ∧ zf_M_composeList n t 44 = some (r, u) ∧ zq_In n u ∧ zq_Gr s u := by
  have h' := h
  obtain ⟨w, ⟨l, h1⟩, ⟨F, A, B, c, ⟨hT, hM, hO⟩, ⟨hV, hVM, ho⟩, hMT⟩, -, -⟩ := h'
  obtain ⟨x, e1, a1, d1, f1⟩ := zp_wL hn hO ho w hT hV
  have wt := f1.w w
  have hM' : zq_TM x.2 F := fun k hk => by rw [(f1.2 46 k (by omega)).2]; exact hM k hk
  have hVM' : zq_VM x.2 A B c := ⟨by rw [(f1.2 44 3 (by omega)).1]; exact hVM.1, fun k hk => by rw [(f1.2 47 k (by omega)).2, (f1.2 48 k (by omega)).2]; exact hVM.2 k hk⟩
  obtain ⟨y, e2, a2, d2, f2⟩ := zp_mL hn hO ho wt hM' (hMT.ke f1 (fun a k p => by omega)) hVM'
  obtain ⟨-, hI, hG⟩ := zy_draft h d1 f1 d2 f2
  exact ⟨x.1, x.2, y.2, e1, wt, by rw [a1, ← a2]; exact e2, hI, hG⟩
end CA
