/-! The class composes lists. -/
theorem zp_wLl {n : Nat} {F : Nat → Int64} (hn : 300 ≤ n) (ok : zq_ok F) {A B : Nat → Int64} {c : Nat} (vo : zq_vok A B c) (p : List Nat) (hp : p.length ≤ 30) : ∀ (r f k : Nat) (s : zh_S), zq_w s → zq_dV s (p ++ zq_en A B k) → zq_TV s F → zq_VV s A B c → c - k = r → k ≤ c → r < f → ∃ x, zl_Tool_writeList_43 n f s 3 1 (nI p.length) (nI k) = some x ∧ x.1 = nI (zq_fin n F (p ++ zq_el (zq_en A B c))).length ∧ zq_dV x.2 (zq_fin n F (p ++ zq_el (zq_en A B c))) ∧ zq_F zq_PD s x.2 := by
  have c4 := vo.1
  intro r
  induction r with
  | zero =>
    intro f k s w d T V h1 h2 hf
    obtain ⟨f, rfl⟩ : ∃ q, f = q + 1 := ⟨f - 1, by omega⟩
    have : k = c := by omega
    subst this
    have ln := zq_en_len A B k
    obtain ⟨s1, e1, d1, f1⟩ := zp_wr (n := n) w d (by omega)
    have w1 := f1.w w
    have l1 := zq_el_len (zq_en A B k)
    obtain ⟨x, ex, x1, x2, x3⟩ := zp_fin hn ok w1 d1 (T.ke f1) (by rw [List.length_append]; omega)
    rw [zl_Tool_writeList_43]
    refine zv_ck ⟨zw_K3 w, zw_N3 w⟩ (zv_t ?_ (zv_ck ⟨zw_K1 w, zw_N1 w⟩ (zv_p e1 (zv_ck ⟨zw_K3 w1, zw_N3 w1⟩ (zv_b (a := x.1) (b := x.2) ex (zv_r ⟨x1, x2, f1.tr x3⟩))))))
    rw [V.1]; exact nI_le (Nat.le_refl _) (by omega)
  | succ r ih =>
    intro f k s w d T V h1 h2 hf
    obtain ⟨f, rfl⟩ : ∃ q, f = q + 1 := ⟨f - 1, by omega⟩
    have ln := zq_en_len A B k
    have ln1 := zq_en_len A B (k + 1)
    obtain ⟨oa, ob⟩ := vo.2 k (by omega)
    obtain ⟨a1, b1⟩ := zq_v_of oa
    obtain ⟨a2, b2⟩ := zq_v_of ob
    have y1 := zq_eI_len (zq_v (A k))
    have y2 := zq_eI_len (zq_v (B k))
    obtain ⟨s1, e1, d1, f1⟩ := zp_int (n := n) (by omega) b1 w d (by rw [List.length_append]; omega)
    have w1 := f1.w w
    obtain ⟨s2, e2, d2, f2⟩ := zp_int (n := n) (by omega) b2 w1 d1 (by rw [List.length_append, List.length_append]; omega)
    have F2 := f1.tr f2
    have w2 := F2.w w
    have d2' : zq_dV s2 ((p ++ zq_en A B k) ++ (zq_eI (zq_v (A k)) ++ zq_eI (zq_v (B k)))) := by simp only [List.append_assoc] at d2 ⊢; exact d2
    obtain ⟨s3, e3, d3, f3⟩ := zp_wr (n := n) w2 d2' (by simp only [List.length_append]; omega)
    have F3 := F2.tr f3
    have w3 := F3.w w
    have d3' : zq_dV s3 (p ++ zq_en A B (k + 1)) := by rw [zq_en]; simp only [List.append_assoc] at d3 ⊢; exact d3
    obtain ⟨x, ex, x1, x2, x3⟩ := ih f (k + 1) s3 w3 d3' (T.ke F3) (V.ke F3) (by omega) (by omega) (by omega)
    rw [zl_Tool_writeList_43, d.1]
    refine zv_ck ⟨zw_K3 w, zw_N3 w⟩ (zv_f ?_ (zv_ck ⟨zw_K1 w, zw_N1 w⟩ (zv_l (zv_p (zw_R3_1 w) (zv_ck (zw_A5 w (i := k) (by omega)) (zv_p (a := s1) ?_ (zv_ck ⟨zw_K3 w1, zw_N3 w1⟩ (zv_p (zw_R3_2 w1) (zv_ck (zw_A6 w1 (i := k) (by omega)) (zv_ck ⟨zw_K1 w1, zw_N1 w1⟩ (zv_p (a := s2) ?_ (zv_ck ⟨zw_K1 w2, zw_N1 w2⟩ (zv_p e3 (zv_l ?_)))))))))))))) 
    · rw [V.1]; exact nI_ge (by omega) (by omega)
    · show zf_Draft_appendInteger n s 1 (zh_J s 5 (nI k).toNatClampNeg) = _
      rw [nI_clamp (by omega), (V.2 k (by omega)).1, a1]; exact e1
    · show zf_Draft_appendInteger n s1 1 (zh_J s1 6 (nI k).toNatClampNeg) = _
      rw [nI_clamp (by omega), ((V.ke f1).2 k (by omega)).2, a2]; exact e2
    · show ∃ x, zl_Tool_writeList_43 n f s3 3 1 (nI p.length) (nI k + 1) = some x ∧ _
      rw [nI_1]
      exact ⟨x, ex, x1, x2, F3.tr x3⟩
theorem zp_wL {n : Nat} {F : Nat → Int64} (hn : 300 ≤ n) (ok : zq_ok F) {A B : Nat → Int64} {c : Nat} (vo : zq_vok A B c) {s : zh_S} (w : zq_w s) (T : zq_TV s F) (V : zq_VV s A B c) : ∃ x, zf_V_composeList n s 0 = some x ∧ x.1 = nI (zq_fin n F (zq_bl F A B c)).length ∧ zq_dV x.2 (zq_fin n F (zq_bl F A B c)) ∧ zq_F zq_PD s x.2 := by
  obtain ⟨-, o2, o3⟩ := ok.1
  obtain ⟨o1, -⟩ := ok.2.1
  obtain ⟨a2, b2⟩ := zq_v_of o2
  obtain ⟨a3, b3⟩ := zq_v_of o3
  obtain ⟨a1, b1⟩ := zq_v_in o1
  have y1 := zq_eN_len 19 (zq_v (F 1))
  have y2 := zq_eI_len (zq_v (F 2))
  have y3 := zq_eI_len (zq_v (F 3))
  have fE : zq_F zq_PD s (zh_uI s 1 1 0) := zq_F.rf.uI (Or.inr ⟨rfl, rfl⟩) _
  have wE := fE.w w
  have dE : zq_dV (zh_uI s 1 1 0) [] := ⟨by rw [zs_II, if_pos ⟨rfl, rfl⟩]; rfl, by simp, by simp, fun j hj => by simp at hj⟩
  have eE : zf_Draft_empty n s 1 = some (zh_uI s 1 1 0) := by rw [zf_Draft_empty, if_pos ⟨zw_K1 w, zw_N1 w⟩]; rfl
  obtain ⟨s1, e1, d1, f1⟩ := zp_name (n := n) (by omega) (tag := 19) (by decide) b1 wE dE (by simp)
  have F1 := fE.tr f1
  have w1 := F1.w w
  have L1 : ([] ++ zq_eN 19 (zq_v (F 1))).length ≤ 10 := by simp; exact y1
  obtain ⟨s2, e2, d2, f2⟩ := zp_int (n := n) (by omega) b2 w1 d1 (by omega)
  have F2 := F1.tr f2
  have w2 := F2.w w
  have L2 : ([] ++ zq_eN 19 (zq_v (F 1)) ++ zq_eI (zq_v (F 2))).length ≤ 20 := by rw [List.length_append]; omega
  obtain ⟨s3, e3, d3, f3⟩ := zp_int (n := n) (by omega) b3 w2 d2 (by omega)
  have F3 := F2.tr f3
  have w3 := F3.w w
  have L3 : ([] ++ zq_eN 19 (zq_v (F 1)) ++ zq_eI (zq_v (F 2)) ++ zq_eI (zq_v (F 3))).length ≤ 30 := by rw [List.length_append]; omega
  obtain ⟨x, ex, x1, x2, x3⟩ := zp_wLl hn ok vo ([] ++ zq_eN 19 (zq_v (F 1)) ++ zq_eI (zq_v (F 2)) ++ zq_eI (zq_v (F 3))) L3 c n 0 s3 w3 (by rw [zq_en, List.append_nil]; exact d3) (T.ke F3) (V.ke F3) (by omega) (by omega) (by have := vo.1; omega)
  have eb : ([] ++ zq_eN 19 (zq_v (F 1)) ++ zq_eI (zq_v (F 2)) ++ zq_eI (zq_v (F 3))) ++ zq_el (zq_en A B c) = zq_bl F A B c := by
    unfold zq_bl; simp only [List.append_assoc, List.nil_append]
  rw [eb] at x1 x2
  have key : ∃ x, zf_Tool_writeList n s 3 1 = some x ∧ x.1 = nI (zq_fin n F (zq_bl F A B c)).length ∧ zq_dV x.2 (zq_fin n F (zq_bl F A B c)) ∧ zq_F zq_PD s x.2 := by
    rw [zf_Tool_writeList]
    refine zv_ck ⟨zw_K1 w, zw_N1 w⟩ (zv_p eE (zv_ck ⟨zw_K3 wE, zw_N3 wE⟩ (zv_p (zw_R3_0 wE) (zv_ck (zw_A4 wE (i := 1) (by decide)) (zv_ck ⟨zw_K1 wE, zw_N1 wE⟩ (zv_p (a := s1) ?_ ?_))))))
    · show zf_Draft_appendName n _ 1 19 (zh_J (zh_uI s 1 1 0) 4 1) = _
      rw [(T.ke fE) 1 (by decide), a1]; exact e1
    refine zv_ck ⟨zw_K3 w1, zw_N3 w1⟩ (zv_p (zw_R3_0 w1) (zv_ck (zw_A4 w1 (i := 2) (by decide)) (zv_ck ⟨zw_K1 w1, zw_N1 w1⟩ (zv_p (a := s2) ?_ ?_))))
    · show zf_Draft_appendInteger n s1 1 (zh_J s1 4 2) = _
      rw [(T.ke F1) 2 (by decide), a2]; exact e2
    refine zv_ck ⟨zw_K3 w2, zw_N3 w2⟩ (zv_p (zw_R3_0 w2) (zv_ck (zw_A4 w2 (i := 3) (by decide)) (zv_ck ⟨zw_K1 w2, zw_N1 w2⟩ (zv_p (a := s3) ?_ (zv_ck ⟨zw_K1 w3, zw_N1 w3⟩ (zv_l ?_))))))
    · show zf_Draft_appendInteger n s2 1 (zh_J s2 4 3) = _
      rw [(T.ke F2) 3 (by decide), a3]; exact e3
    · show ∃ x, zl_Tool_writeList_43 n n s3 3 1 (zh_I s3 1 1) 0 = some x ∧ _
      rw [d3.1]
      exact ⟨x, ex, x1, x2, F3.tr x3⟩
  obtain ⟨z, ez, hz⟩ := key
  rw [zf_V_composeList]
  exact zv_ck ⟨zw_K0 w, zw_N0 w⟩ (zv_p (zw_R0_1 w) (zv_p (zw_R0_0 w) (zv_ck ⟨zw_K3 w, zw_N3 w⟩ (zv_b (a := z.1) (b := z.2) ez (zv_r hz)))))
/-! The reference composes. -/
/-- the reference's own tables -/
def zq_MT (s : zh_S) : Prop := ∀ k, k < 6 → zh_J s 49 k = zt_MODULI k ∧ zh_J s 50 k = zt_EXPONENTS k ∧ zh_J s 51 k = zt_PRIVATE_EXPONENTS k
theorem zq_MT.ke {s t : zh_S} {P : Nat → Nat → Prop} (h : zq_MT s) (f : zq_F P s t) (hp : ∀ a k, P a k → a < 49 ∨ 51 < a) : zq_MT t := fun k hk => by
  have g : ∀ a, 49 ≤ a → a ≤ 51 → zh_J t a k = zh_J s a k := fun a h1 h2 => (f.2 a k (fun p => by have := hp a k p; omega)).2
  rw [g 49 (by omega) (by omega), g 50 (by omega) (by omega), g 51 (by omega) (by omega)]
  exact h k hk
theorem zq_MT.kE {s t : zh_S} (h : zq_MT s) (f : zq_F zq_PE s t) : zq_MT t := h.ke f (fun a k p => by omega)
theorem zp_msign {n : Nat} (hn : 300 ≤ n) {s : zh_S} (w : zq_w s) (M : zq_MT s) {k : Nat} (hk : k < 6) (h : Int32) : zf_M_sign n s 44 (nI k) h = some (zq_sg n k h) := by
  obtain ⟨v, hv, g1, g2, b, eb, ep⟩ := zn_signature (n := n) (by omega) hk h
  rw [g2]
  have : ∃ x, zf_M_sign n s 44 (nI k) h = some x ∧ x = lN v := by
    rw [zf_M_sign]
    refine zv_f (nI_pos (by omega)) (zv_t (nI_le (b := 5) (by omega) (by omega)) (zv_p eb (zv_ck ⟨zw_K44 w, zw_N44 w⟩ (zv_p (zw_R44_8 w) (zv_ck (zw_A51 w hk) (zv_p (zw_R44_6 w) (zv_ck (zw_A49 w hk) (zv_p (a := lN v) ?_ (zv_r rfl)))))))))
    show zf_M_power n b (zh_J s 51 (nI k).toNatClampNeg) (zh_J s 49 (nI k).toNatClampNeg) = _
    rw [nI_clamp (by omega), (M k hk).1, (M k hk).2.2]; exact ep
  obtain ⟨x, e, rfl⟩ := this
  exact e
section CM
variable {n : Nat} {F : Nat → Int64} {s : zh_S} {l : List Nat}
theorem zp_mfin (hn : 300 ≤ n) (ok : zq_ok F) (w : zq_w s) {q : List Nat} (d : zq_dM s q) (T : zq_TM s F) (M : zq_MT s) (hl : q.length ≤ 160) : ∃ x, zf_M_signed n s 44 = some x ∧ x.1 = nI (zq_fin n F q).length ∧ zq_dM x.2 (zq_fin n F q) ∧ zq_F zq_PE s x.2 := by
  obtain ⟨k, hk, h12⟩ := ok.2.2.2.2.2.2.2.2.2
  have hv12 : zq_v (F 12) = k := by rw [h12, zq_v_lN (by omega)]
  obtain ⟨s1, e1, d1, f1⟩ := zp_mwr hn (l := []) w d (by simp; omega)
  have w1 := f1.w w
  have T1 := T.ke f1
  rw [List.nil_append] at d1
  have l1 := zq_el_len q
  have e2 := zp_mhash hn w1 d1 (i := 0) (Nat.le_refl _) (by omega)
  obtain ⟨v, hv, g1, g2, -⟩ := zn_signature (n := n) (by omega) hk (zq_h (zq_el q) 0 (zq_el q).length)
  have g3 := zp_msign hn w1 (M.kE f1) hk (zq_h (zq_el q) 0 (zq_el q).length)
  obtain ⟨s2, e3, d2, f2⟩ := zp_mint (n := n) (by omega) (v := v) (by omega) w1 d1 (by omega)
  have w2 := f2.w w1
  have l2 := zq_eI_len v
  obtain ⟨s3, e4, d3, f3⟩ := zp_mwr hn (l := []) w2 d2 (by simp; omega)
  have w3 := f3.w w2
  have es : zq_v (zq_sg n (zq_v (F 12)) (zq_h (zq_el q) 0 (zq_el q).length)) = v := by rw [hv12, g2, zq_v_lN (by omega)]
  rw [List.nil_append] at d3
  have d3' : zq_dM s3 (zq_fin n F q) := by unfold zq_fin; rw [es]; exact d3
  rw [zf_M_signed]
  refine zv_ck ⟨zw_K44 w, zw_N44 w⟩ (zv_p e1 (zv_ck ⟨zw_K44 w1, zw_N44 w1⟩ (zv_p (a := zq_h (zq_el q) 0 (zq_el q).length) ?_ (zv_p (zw_R44_2 w1) (zv_ck (zw_A46 w1 (i := 12) (by decide)) (zv_l (zv_p (a := lN v) ?_ (zv_p e3 (zv_ck ⟨zw_K44 w2, zw_N44 w2⟩ (zv_p e4 (zv_ck ⟨zw_K44 w3, zw_N44 w3⟩ (zv_r ⟨d3'.1, d3', (f1.tr f2).tr f3⟩))))))))))))
  · show zf_M_hash n s1 44 0 (zh_I s1 44 1) = _
    rw [d1.1]; exact e2
  · show zf_M_sign n s1 44 (zh_J s1 46 12).toInt32 _ = _
    rw [T1 12 (by decide), h12, lN_i, g3, g2]
theorem zp_mopen (hn : 300 ≤ n) (w : zq_w s) (d : zq_dM s l) {i : Nat} (hi : i < 128) (hl : l.length + 20 ≤ 200) (cr : Bool) : ∃ x, zf_M_open n s 44 (nI i) (if cr then 1 else 0) = some x ∧ x.1 = nI l.length ∧ zq_dM x.2 (l ++ (zq_eI i ++ (if cr then zq_y else []))) ∧ zq_F zq_PE s x.2 := by
  obtain ⟨s1, e1, d1, f1⟩ := zp_mint (n := n) (by omega) (v := i) (by omega) w d (by omega)
  have w1 := f1.w w
  have L1 : (l ++ zq_eI i).length = l.length + 3 := by rw [List.length_append, zq_l3 (by omega)]
  rw [zf_M_open, d.1]
  refine zv_ck ⟨zw_K44 w, zw_N44 w⟩ (zv_l (zv_p (a := s1) (by rw [nI_l (by omega)]; exact e1) ?_))
  cases cr with
  | false => exact zv_t rfl (zv_r ⟨rfl, by simpa using d1, f1⟩)
  | true =>
    obtain ⟨s2, e2, d2, f2⟩ := zp_yes (n := n) w1 d1 (by omega)
    refine zv_f (by decide) (zv_ck ⟨zw_K44 w1, zw_N44 w1⟩ (zv_p e2 (zv_r ⟨rfl, ?_, f1.tr f2⟩)))
    rw [List.append_assoc] at d2
    exact d2
end CM
