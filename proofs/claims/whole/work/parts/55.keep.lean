/-! Keeping certificates and lists. -/
section KC
variable {n : Nat}
theorem zp_kc20 (hn : 300 ≤ n) {nc nl : Nat} (hc : nc < 13) (hl : nl ≤ 6) : ∀ (r f i : Nat) (s : zh_S), zq_w s → nc - i = r → i ≤ nc → r < f → zh_I s 7 3 = nI nl → zh_I s 7 2 = nI nc → (∀ j, j < 7 → zq_sb n s (23 + 3 * j) (fun d => d < nc ∧ j < nl)) → (∀ c, c < 13 → zq_sb n s (10 + c) (fun d => (c < nc ∧ d < nc ∧ d ≠ c) ∨ (c < i ∧ d = nc) ∨ (c = nc ∧ d < i))) → ∃ t, zl_Shelf_keepCertificate_20 n f s 7 (nI nc) (10 + nc) (nI i) = some (nI nc, zh_uI t 7 2 (nI (nc + 1))) ∧ (∀ j, j < 7 → zq_sb n t (23 + 3 * j) (fun d => d < nc + 1 ∧ j < nl)) ∧ (∀ c, c < 13 → zq_sb n t (10 + c) (fun d => d < nc + 1 ∧ c < nc + 1 ∧ d ≠ c)) ∧ zq_F zq_Pg s t := by
  intro r
  induction r with
  | zero =>
    intro f i s w hr hi hf h3 h2 hb hd
    obtain ⟨f, rfl⟩ : ∃ q, f = q + 1 := ⟨f - 1, by omega⟩
    have : i = nc := by omega
    subst this
    obtain ⟨t, e1, b1, c1, k1⟩ := zp_kc60 (n := n) hn hc hl nl n 0 s w (by omega) (by omega) (by omega) h3 h2 (fun j hj => zq_sb_D (hb j hj) (fun d => by omega))
    refine ⟨t, ?_, b1, fun c hc => zq_sb_D (zq_sb_F (hd c hc) k1 ((c1 c).resolve_right (by omega))) (fun d => by omega), k1⟩
    rw [zl_Shelf_keepCertificate_20, if_pos (nI_le (Nat.le_refl _) (by omega))]
    exact e1
  | succ r ih =>
    intro f i s w hr hi hf h3 h2 hb hd
    obtain ⟨f, rfl⟩ : ∃ q, f = q + 1 := ⟨f - 1, by omega⟩
    obtain ⟨u, e1, b1, k1⟩ := zp_noteC (s := s) (n := n) hn (o := 10 + nc) (d := i) (zw_C w (by omega)) (zw_C w (by omega)) (by omega) (hd nc (by omega))
    have wu := k1.w w
    have kg1 : zq_F zq_Pg s u := k1.mo (fun a k p => by omega)
    obtain ⟨v, e2, b2, k2⟩ := zp_noteC (s := u) (n := n) hn (o := 10 + i) (d := nc) (zw_C wu (by omega)) (zw_C wu (by omega)) (by omega) (zq_sb_F (hd i (by omega)) kg1 (k1.2 _ _ (by omega)).1)
    have kg2 : zq_F zq_Pg u v := k2.mo (fun a k p => by omega)
    have kg := kg1.tr kg2
    obtain ⟨t, e3, b3, c3, k3⟩ := ih f (i + 1) v (k2.w wu) (by omega) (by omega) (by omega) (by rw [(kg.2 7 3 (by omega)).1]; exact h3) (by rw [(kg.2 7 2 (by omega)).1]; exact h2) (fun j hj => by
      refine zq_sb_F (hb j hj) kg ?_
      rw [(k2.2 _ _ (by omega)).1, (k1.2 _ _ (by omega)).1]) (fun c hc => by
      by_cases hci : c = i
      · subst hci; exact zq_sb_D b2 (fun d => by omega)
      · by_cases hcn : c = nc
        · subst hcn; exact zq_sb_D (zq_sb_F b1 kg2 (k2.2 _ _ (by omega)).1) (fun d => by omega)
        · refine zq_sb_D (zq_sb_F (hd c hc) kg ?_) (fun d => by omega)
          rw [(k2.2 _ _ (by omega)).1, (k1.2 _ _ (by omega)).1])
    refine ⟨t, ?_, b3, c3, kg.tr k3⟩
    rw [zl_Shelf_keepCertificate_20, if_neg (nI_ge (by omega) (by omega)), if_pos ⟨zw_K7 w, zw_N7 w⟩, zw_R7_0 w]
    show (if zh_oa s 8 3 (nI i) then zk_p (zh_R s 8 (nI i).toNatClampNeg) _ else none) = _
    rw [if_pos (zw_A8 w (by omega)), zw_R8c w (by omega)]
    show (if zh_oo s (10 + nc) 0 then zk_p (zf_Signed_noteSigner_C n s (10 + nc) (nI i) (10 + i)) _ else none) = _
    rw [if_pos (zw_C w (by omega)), e1]
    show (if zh_oo u 7 5 then zk_p (zh_R u 7 0) _ else none) = _
    rw [if_pos ⟨zw_K7 wu, zw_N7 wu⟩, zw_R7_0 wu]
    show (if zh_oa u 8 3 (nI i) then zk_p (zh_R u 8 (nI i).toNatClampNeg) _ else none) = _
    rw [if_pos (zw_A8 wu (by omega)), zw_R8c wu (by omega)]
    show (if zh_oo u (10 + i) 0 then zk_p (zf_Signed_noteSigner_C n u (10 + i) (nI nc) (10 + nc)) _ else none) = _
    rw [if_pos (zw_C wu (by omega)), e2]
    show zl_Shelf_keepCertificate_20 n f v 7 (nI nc) (10 + nc) (nI i + 1) = _
    rw [show (1 : Int32) = nI 1 from rfl, nI_add]
    exact e3
theorem zq_sig_J {s t : zh_S} (hJ : ∀ a k, zh_J t a k = zh_J s a k) {o c : Nat} (h4 : zh_I t o 4 = zh_I s o 4) : zq_sig n t o c ↔ zq_sig n s o c := by
  unfold zq_sig
  rw [hJ, hJ, hJ, hJ, hJ, h4]
theorem zq_sb_u {s : zh_S} {o a k : Nat} {v : Int32} {D : Nat → Prop} (h : zq_sb n s o D) (ha : ¬ (a = o ∧ (k = 4 ∨ k = 5))) : zq_sb n (zh_uI s a k v) o D :=
  h.ke (by rw [zs_II, if_neg (by omega)]) (fun d => and_congr Iff.rfl (zq_sig_J (s := s) (t := zh_uI s a k v) (fun _ _ => rfl) (by rw [zs_II, if_neg (by omega)])))
/-- a certificate is kept -/
theorem zp_keepC (hn : 300 ≤ n) {s : zh_S} {nc nl : Nat} {an : Bool} (hc : nc < 12) (hl : nl ≤ 6) (w : zq_w s) (h3 : zh_I s 7 3 = nI nl) (h2 : zh_I s 7 2 = nI nc) (hb : ∀ j, j < 7 → zq_sb n s (23 + 3 * j) (fun d => d < nc ∧ j < nl)) (hd : ∀ c, c < 13 → zq_sb n s (10 + c) (fun d => d < nc ∧ c < nc ∧ d ≠ c)) : ∃ t, zf_Shelf_keepCertificate n s 7 (zq_bi an) = some (nI nc, t) ∧ zh_I t 7 2 = nI (nc + 1) ∧ zh_I t (10 + nc) 18 = zq_bi an ∧ (∀ j, j < 7 → zq_sb n t (23 + 3 * j) (fun d => d < nc + 1 ∧ j < nl)) ∧ (∀ c, c < 13 → zq_sb n t (10 + c) (fun d => d < nc + 1 ∧ c < nc + 1 ∧ d ≠ c)) ∧ zq_F (fun a k => zq_Pg a k ∨ a = 10 + nc ∧ k = 18 ∨ a = 7 ∧ k = 2) s t := by
  have f0 : zq_F (fun a k => a = 10 + nc ∧ k = 18) s (zh_uI s (10 + nc) 18 (zq_bi an)) := zq_F.rf.uI ⟨rfl, rfl⟩ _
  have hsb : ∀ o D, zq_sb n s o D → zq_sb n (zh_uI s (10 + nc) 18 (zq_bi an)) o D := fun o D h => zq_sb_u h (by omega)
  obtain ⟨t, e1, b1, c1, k1⟩ := zp_kc20 (n := n) hn (show nc < 13 by omega) hl nc n 0 (zh_uI s (10 + nc) 18 (zq_bi an)) (f0.w w) (by omega) (by omega) (by omega) (by rw [(f0.2 7 3 (by omega)).1]; exact h3) (by rw [(f0.2 7 2 (by omega)).1]; exact h2) (fun j hj => hsb _ _ (hb j hj)) (fun c hc => hsb _ _ (zq_sb_D (hd c hc) (fun d => by omega)))
  have ks : ∀ o D, zq_sb n t o D → (10 ≤ o) → zq_sb n (zh_uI t 7 2 (nI (nc + 1))) o D := fun o D h ho => zq_sb_u h (by omega)
  refine ⟨zh_uI t 7 2 (nI (nc + 1)), ?_, ?_, ?_, fun j hj => ks _ _ (b1 j hj) (by omega), fun c hc => ks _ _ (c1 c hc) (by omega), ?_⟩
  · rw [zf_Shelf_keepCertificate, if_pos ⟨zw_K7 w, zw_N7 w⟩, h2, zw_R7_0 w]
    show (if zh_oa s 8 3 (nI nc) then zk_p (zh_R s 8 (nI nc).toNatClampNeg) _ else none) = _
    rw [if_pos (zw_A8 w (by omega)), zw_R8c w (by omega)]
    show (if zh_oo s (10 + nc) 0 then (if zq_bi an = 0 ∨ zq_bi an = 1 then zl_Shelf_keepCertificate_20 n n (zh_uI s (10 + nc) 18 (zq_bi an)) 7 (nI nc) (10 + nc) 0 else none) else none) = _
    rw [if_pos (zw_C w (by omega)), if_pos (by cases an; exact Or.inl rfl; exact Or.inr rfl)]
    exact e1
  · rw [zs_II, if_pos ⟨rfl, rfl⟩]
  · rw [zs_II, if_neg (by omega), (k1.2 _ _ (by omega)).1, zs_II, if_pos ⟨rfl, rfl⟩]
  · exact ((f0.mo (fun a k p => by omega)).tr (k1.mo (fun a k p => Or.inl p))).uI (by omega) _
/-- the loop of keepList -/
theorem zp_kl7 (hn : 300 ≤ n) {nc nl : Nat} (hc : nc ≤ 12) (hl : nl < 6) : ∀ (r f i : Nat) (s : zh_S), zq_w s → nc - i = r → i ≤ nc → r < f → zh_I s 7 3 = nI nl → zh_I s 7 2 = nI nc → (∀ j, j < 7 → zq_sb n s (23 + 3 * j) (fun d => d < nc ∧ j < nl ∨ d < i ∧ j = nl)) → ∃ t, zl_Shelf_keepList_7 n f s 7 (nI nl) (nI i) = some (nI nl, zh_uI t 7 3 (nI (nl + 1))) ∧ (∀ j, j < 7 → zq_sb n t (23 + 3 * j) (fun d => d < nc ∧ j < nl + 1)) ∧ (∀ c, zh_I t (10 + c) 5 = zh_I s (10 + c) 5 ∨ 13 ≤ c) ∧ zq_F zq_Pg s t := by
  intro r
  induction r with
  | zero =>
    intro f i s w hr hi hf h3 h2 hb
    obtain ⟨f, rfl⟩ : ∃ q, f = q + 1 := ⟨f - 1, by omega⟩
    have : i = nc := by omega
    subst this
    refine ⟨s, ?_, fun j hj => zq_sb_D (hb j hj) (fun d => by omega), fun c => Or.inl rfl, zq_F.rf⟩
    rw [zl_Shelf_keepList_7, if_pos ⟨zw_K7 w, zw_N7 w⟩, h2, if_pos (nI_le (Nat.le_refl _) (by omega)), h3]
    show some _ = some _
    rw [show (1 : Int32) = nI 1 from rfl, nI_add]
  | succ r ih =>
    intro f i s w hr hi hf h3 h2 hb
    obtain ⟨f, rfl⟩ : ∃ q, f = q + 1 := ⟨f - 1, by omega⟩
    obtain ⟨u, e1, b1, k1⟩ := zp_noteR (s := s) (n := n) hn (o := 23 + 3 * nl) (d := i) (zw_L w (by omega)) (zw_C w (by omega)) (by omega) (hb nl (by omega))
    have kg : zq_F zq_Pg s u := k1.mo (fun a k p => by omega)
    obtain ⟨t, e2, b2, c2, k2⟩ := ih f (i + 1) u (k1.w w) (by omega) (by omega) (by omega) (by rw [(k1.2 7 3 (by omega)).1]; exact h3) (by rw [(k1.2 7 2 (by omega)).1]; exact h2) (fun j hj => by
      by_cases hji : j = nl
      · subst hji; exact zq_sb_D b1 (fun d => by omega)
      · exact zq_sb_D (zq_sb_F (hb j hj) kg (k1.2 _ _ (by omega)).1) (fun d => by omega))
    refine ⟨t, ?_, b2, fun c => ?_, kg.tr k2⟩
    · rw [zl_Shelf_keepList_7, if_pos ⟨zw_K7 w, zw_N7 w⟩, h2, if_neg (nI_ge (by omega) (by omega)), zw_R7_1 w]
      show (if zh_oa s 9 4 (nI nl) then zk_p (zh_R s 9 (nI nl).toNatClampNeg) _ else none) = _
      rw [if_pos (zw_A9 w (by omega)), zw_R9c w (by omega)]
      show zk_p (zh_R s 7 0) _ = _
      rw [zw_R7_0 w]
      show (if zh_oa s 8 3 (nI i) then zk_p (zh_R s 8 (nI i).toNatClampNeg) _ else none) = _
      rw [if_pos (zw_A8 w (by omega)), zw_R8c w (by omega)]
      show (if zh_oo s (23 + 3 * nl) 3 then zk_p (zf_Signed_noteSigner_R n s (23 + 3 * nl) (nI i) (10 + i)) _ else none) = _
      rw [if_pos (zw_L w (by omega)), e1]
      show zl_Shelf_keepList_7 n f u 7 (nI nl) (nI i + 1) = _
      rw [show (1 : Int32) = nI 1 from rfl, nI_add]
      exact e2
    · rcases c2 c with h | h
      · by_cases hc : 13 ≤ c
        · exact Or.inr hc
        · exact Or.inl (h.trans (k1.2 _ _ (by omega)).1)
      · exact Or.inr h
theorem zp_keepL (hn : 300 ≤ n) {s : zh_S} {nc nl : Nat} (hc : nc ≤ 12) (hl : nl < 6) (w : zq_w s) (h3 : zh_I s 7 3 = nI nl) (h2 : zh_I s 7 2 = nI nc) (hb : ∀ j, j < 7 → zq_sb n s (23 + 3 * j) (fun d => d < nc ∧ j < nl)) (hd : ∀ c, c < 13 → zq_sb n s (10 + c) (fun d => d < nc ∧ c < nc ∧ d ≠ c)) : ∃ t, zf_Shelf_keepList n s 7 = some (nI nl, t) ∧ zh_I t 7 3 = nI (nl + 1) ∧ (∀ j, j < 7 → zq_sb n t (23 + 3 * j) (fun d => d < nc ∧ j < nl + 1)) ∧ (∀ c, c < 13 → zq_sb n t (10 + c) (fun d => d < nc ∧ c < nc ∧ d ≠ c)) ∧ zq_F (fun a k => zq_Pg a k ∨ a = 7 ∧ k = 3) s t := by
  obtain ⟨t, e1, b1, c1, k1⟩ := zp_kl7 (n := n) hn hc hl nc n 0 s w (by omega) (by omega) (by omega) h3 h2 (fun j hj => zq_sb_D (hb j hj) (fun d => by omega))
  have ks : ∀ o D, zq_sb n t o D → (10 ≤ o) → zq_sb n (zh_uI t 7 3 (nI (nl + 1))) o D := fun o D h ho => zq_sb_u h (by omega)
  refine ⟨zh_uI t 7 3 (nI (nl + 1)), ?_, ?_, fun j hj => ks _ _ (b1 j hj) (by omega), fun c hc => ks _ _ (zq_sb_F (hd c hc) k1 ((c1 c).resolve_right (by omega))) (by omega), ?_⟩
  · rw [zf_Shelf_keepList, if_pos ⟨zw_K7 w, zw_N7 w⟩, h3]
    exact e1
  · rw [zs_II, if_pos ⟨rfl, rfl⟩]
  · exact (k1.mo (fun a k p => Or.inl p)).uI (by omega) _
end KC
