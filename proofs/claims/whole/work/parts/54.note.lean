/-! Signers: bits, and how they are noted. -/
theorem zi_shl : ∀ d : Fin 13, (1 : Int32) <<< (nI d.val &&& 31) = nI (2 ^ d.val) := by decide +kernel
theorem zi_tn {a : Nat} (h : a < 2 ^ 32) : (nI a).toBitVec.toNat = a := by
  show (BitVec.ofNat 32 a).toNat = a
  rw [BitVec.toNat_ofNat]
  exact Nat.mod_eq_of_lt h
theorem zi_or {a b : Nat} (ha : a < 2 ^ 13) (hb : b < 2 ^ 13) : nI a ||| nI b = nI (a ||| b) := by
  have hc : a ||| b < 2 ^ 13 := Nat.or_lt_two_pow ha hb
  apply Int32.toBitVec_inj.mp
  apply BitVec.eq_of_toNat_eq
  rw [Int32.toBitVec_or, BitVec.toNat_or, zi_tn (by omega), zi_tn (by omega), zi_tn (by omega)]
theorem zi_amt : ∀ d : Fin 13, ((nI d.val &&& 31 : Int32).toBitVec.smod 32).toNat = d.val := by decide +kernel
theorem zi_bit {m d : Nat} (hm : m < 2 ^ 13) (hd : d < 13) : ((nI m >>> (nI d &&& 31)) &&& (1 : Int32)) = 1 ↔ m.testBit d = true := by
  have e1 : nI m >>> (nI d &&& 31) = nI (m / 2 ^ d) := by
    apply Int32.toInt_inj.mp
    have h2 : m / 2 ^ d ≤ m := Nat.div_le_self _ _
    rw [nI_toInt (by omega)]
    show ((nI m).toBitVec.sshiftRight ((nI d &&& 31 : Int32).toBitVec.smod 32).toNat).toInt = _
    rw [zi_amt ⟨d, hd⟩, BitVec.toInt_sshiftRight]
    show (nI m).toInt >>> d = _
    rw [nI_toInt (by omega), Int.shiftRight_eq_div_pow]
    rfl
  have h2 : m / 2 ^ d ≤ m := Nat.div_le_self _ _
  rw [e1, pk_and _ 1 (by decide +kernel), zi_tn (by omega), show (1 : Int32) = nI 1 from rfl, nI_eq (by omega) (by decide), Nat.testBit_eq_decide_div_mod_eq, decide_eq_true_eq]
section NO
variable {n : Nat} {s : zh_S}
theorem zq_sb_uI {o a : Nat} {D : Nat → Prop} {v : Int32} (h : zq_sb n s o D) (ha : a ≠ o) : zq_sb n (zh_uI s a 5 v) o D := by
  obtain ⟨m, hm, hi, hb⟩ := h
  refine ⟨m, hm, by rw [zs_II, if_neg (by omega)]; exact hi, fun d => (hb d).trans ?_⟩
  unfold zq_sig
  rw [zs_JI, zs_II, if_neg (by omega)]
theorem zq_sb_no {o d : Nat} {D : Nat → Prop} (hd : d < 13) (hsig : zq_sig n s o (10 + d)) (h : zq_sb n s o D) : zq_sb n (zh_uI s o 5 (zh_I s o 5 ||| ((1 : Int32) <<< (nI d &&& 31)))) o (fun e => D e ∨ e = d) := by
  obtain ⟨m, hm, hi, hb⟩ := h
  have h2 : 2 ^ d < 2 ^ 13 := Nat.pow_lt_pow_right (by decide) hd
  refine ⟨m ||| 2 ^ d, Nat.or_lt_two_pow hm h2, ?_, fun e => ?_⟩
  · rw [zs_II, if_pos ⟨rfl, rfl⟩, hi, zi_shl ⟨d, hd⟩, zi_or hm h2]
  · have hq : zq_sig n (zh_uI s o 5 (zh_I s o 5 ||| ((1 : Int32) <<< (nI d &&& 31)))) o (10 + e) ↔ zq_sig n s o (10 + e) := by
      unfold zq_sig
      rw [zs_JI, zs_II, if_neg (by omega)]
    rw [Nat.testBit_or, Bool.or_eq_true, hb e, hq, Nat.testBit_two_pow, decide_eq_true_eq]
    constructor
    · rintro (h | h)
      · exact ⟨Or.inl h.1, h.2⟩
      · subst h; exact ⟨Or.inr rfl, hsig⟩
    · rintro ⟨h | h, h3⟩
      · exact Or.inl ⟨h, h3⟩
      · exact Or.inr h.symm
theorem zq_sb_nn {o d : Nat} {D : Nat → Prop} (hsig : ¬ zq_sig n s o (10 + d)) (h : zq_sb n s o D) : zq_sb n s o (fun e => D e ∨ e = d) := by
  obtain ⟨m, hm, hi, hb⟩ := h
  refine ⟨m, hm, hi, fun e => (hb e).trans ⟨fun q => ⟨Or.inl q.1, q.2⟩, fun q => ⟨?_, q.2⟩⟩⟩
  rcases q.1 with h | h
  · exact h
  · subst h; exact absurd q.2 hsig
abbrev zq_Pn (o a k : Nat) : Prop := a = o ∧ k = 5
/-- one note -/
theorem zp_noteC (hn : 300 ≤ n) {o d : Nat} {D : Nat → Prop} (ho : zh_oo s o 0) (hc : zh_oo s (10 + d) 0) (hd : d < 13) (h : zq_sb n s o D) : ∃ t, zf_Signed_noteSigner_C n s o (nI d) (10 + d) = some t ∧ zq_sb n t o (fun e => D e ∨ e = d) ∧ zq_F (zq_Pn o) s t := by
  rw [zf_Signed_noteSigner_C]
  refine zv_ck ho (zv_ck hc ?_)
  simp only [lg_cmp_eq]
  by_cases h1 : zh_J s o 0 = zh_J s (10 + d) 7
  · refine zv_t h1 ?_
    obtain ⟨e1, e2⟩ := zn_isgood (n := n) (by omega) (zh_J s o 3) (zh_J s (10 + d) 8) (zh_J s (10 + d) 9) (zh_I s o 4)
    refine zv_p e1 ?_
    rcases e2 with e2 | e2
    · refine zv_t e2 (zv_r ⟨zq_sb_nn (fun q => ?_) h, zq_F.rf⟩)
      exact absurd (e2.symm.trans q.2) (by decide)
    · refine zv_f (by rw [e2]; decide) (zv_l (zv_r ⟨zq_sb_no hd ⟨h1, e2⟩ h, zq_F.rf.uI ⟨rfl, rfl⟩ _⟩))
  · exact zv_f h1 (zv_r ⟨zq_sb_nn (fun q => h1 q.1) h, zq_F.rf⟩)
theorem zp_noteR (hn : 300 ≤ n) {o d : Nat} {D : Nat → Prop} (ho : zh_oo s o 3) (hc : zh_oo s (10 + d) 0) (hd : d < 13) (h : zq_sb n s o D) : ∃ t, zf_Signed_noteSigner_R n s o (nI d) (10 + d) = some t ∧ zq_sb n t o (fun e => D e ∨ e = d) ∧ zq_F (zq_Pn o) s t := by
  rw [zf_Signed_noteSigner_R]
  refine zv_ck ho (zv_ck hc ?_)
  simp only [lg_cmp_eq]
  by_cases h1 : zh_J s o 0 = zh_J s (10 + d) 7
  · refine zv_t h1 ?_
    obtain ⟨e1, e2⟩ := zn_isgood (n := n) (by omega) (zh_J s o 3) (zh_J s (10 + d) 8) (zh_J s (10 + d) 9) (zh_I s o 4)
    refine zv_p e1 ?_
    rcases e2 with e2 | e2
    · refine zv_t e2 (zv_r ⟨zq_sb_nn (fun q => ?_) h, zq_F.rf⟩)
      exact absurd (e2.symm.trans q.2) (by decide)
    · refine zv_f (by rw [e2]; decide) (zv_l (zv_r ⟨zq_sb_no hd ⟨h1, e2⟩ h, zq_F.rf.uI ⟨rfl, rfl⟩ _⟩))
  · exact zv_f h1 (zv_r ⟨zq_sb_nn (fun q => h1 q.1) h, zq_F.rf⟩)
/-- nothing but signers has changed -/
abbrev zq_Pg (a k : Nat) : Prop := (10 ≤ a ∧ a < 23 ∨ zq_lid a) ∧ k = 5
theorem zq_sig_F {t : zh_S} (f : zq_F zq_Pg s t) (o c : Nat) : zq_sig n t o c ↔ zq_sig n s o c := zq_sig_eq (fun k hk => f.2 o k (by omega)) (fun k hk => (f.2 c k (by omega)).2)
theorem zq_sb_F {t : zh_S} {o : Nat} {D : Nat → Prop} (h : zq_sb n s o D) (f : zq_F zq_Pg s t) (e : zh_I t o 5 = zh_I s o 5) : zq_sb n t o D := h.ke e (fun d => by rw [zq_sig_F f])
theorem zq_sb_D {o : Nat} {D E : Nat → Prop} (h : zq_sb n s o D) (e : ∀ d, E d ↔ D d) : zq_sb n s o E := h.ke rfl (fun d => by rw [e d])
theorem zw_R8 {s : zh_S} (w : zq_w s) {k : Nat} (h : k < 13) : zh_R s 8 k = some (10 + k) := by
  have e : zq_R 8 k = some (10 + k) := by unfold zq_R; rw [if_pos rfl, if_pos h]
  rw [w.2.2 8 k (by rw [e]; rfl), e]
theorem zw_R8c {s : zh_S} (w : zq_w s) {k : Nat} (h : k < 13) : zh_R s 8 (nI k).toNatClampNeg = some (10 + k) := by rw [nI_clamp (by omega)]; exact zw_R8 w h
theorem zw_R9 {s : zh_S} (w : zq_w s) {k : Nat} (h : k < 7) : zh_R s 9 k = some (23 + 3 * k) := by
  have e : zq_R 9 k = some (23 + 3 * k) := by unfold zq_R; rw [if_neg (by decide), if_pos rfl, if_pos h]
  rw [w.2.2 9 k (by rw [e]; rfl), e]
theorem zw_R9c {s : zh_S} (w : zq_w s) {k : Nat} (h : k < 7) : zh_R s 9 (nI k).toNatClampNeg = some (23 + 3 * k) := by rw [nI_clamp (by omega)]; exact zw_R9 w h
theorem zw_A8 {s : zh_S} (w : zq_w s) {i : Nat} (h : i < 13) : zh_oa s 8 3 (nI i) := ⟨by rw [zw_K8 w], zw_N8 w, nI_pos (by omega), by rw [zw_K8 w, nI_clamp (by omega)]; exact h⟩
theorem zw_A9 {s : zh_S} (w : zq_w s) {i : Nat} (h : i < 7) : zh_oa s 9 4 (nI i) := ⟨by rw [zw_K9 w], zw_N9 w, nI_pos (by omega), by rw [zw_K9 w, nI_clamp (by omega)]; exact h⟩
/-- the loop over the lists -/
theorem zp_kc60 (hn : 300 ≤ n) {nc nl : Nat} (hc : nc < 13) (hl : nl ≤ 6) : ∀ (r f i : Nat) (s : zh_S), zq_w s → nl - i = r → i ≤ nl → r < f → zh_I s 7 3 = nI nl → zh_I s 7 2 = nI nc → (∀ j, j < 7 → zq_sb n s (23 + 3 * j) (fun d => d < nc ∧ j < nl ∨ d = nc ∧ j < i)) → ∃ t, zl_Shelf_keepCertificate_60 n f s 7 (nI nc) (10 + nc) (nI i) = some (nI nc, zh_uI t 7 2 (nI (nc + 1))) ∧ (∀ j, j < 7 → zq_sb n t (23 + 3 * j) (fun d => d < nc + 1 ∧ j < nl)) ∧ (∀ c, zh_I t (10 + c) 5 = zh_I s (10 + c) 5 ∨ 13 ≤ c) ∧ zq_F zq_Pg s t := by
  intro r
  induction r with
  | zero =>
    intro f i s w hr hi hf h3 h2 hb
    obtain ⟨f, rfl⟩ : ∃ q, f = q + 1 := ⟨f - 1, by omega⟩
    have : i = nl := by omega
    subst this
    refine ⟨s, ?_, fun j hj => zq_sb_D (hb j hj) (fun d => by omega), fun c => Or.inl rfl, zq_F.rf⟩
    rw [zl_Shelf_keepCertificate_60, if_pos ⟨zw_K7 w, zw_N7 w⟩, h3, if_pos (nI_le (Nat.le_refl _) (by omega)), h2]
    show some _ = some _
    rw [show (1 : Int32) = nI 1 from rfl, nI_add]
  | succ r ih =>
    intro f i s w hr hi hf h3 h2 hb
    obtain ⟨f, rfl⟩ : ∃ q, f = q + 1 := ⟨f - 1, by omega⟩
    obtain ⟨u, e1, b1, k1⟩ := zp_noteR (s := s) (n := n) hn (o := 23 + 3 * i) (d := nc) (zw_L w (by omega)) (zw_C w (by omega)) (by omega) (hb i (by omega))
    have kg : zq_F zq_Pg s u := k1.mo (fun a k p => by omega)
    obtain ⟨t, e2, b2, c2, k2⟩ := ih f (i + 1) u (k1.w w) (by omega) (by omega) (by omega) (by rw [(k1.2 7 3 (by omega)).1]; exact h3) (by rw [(k1.2 7 2 (by omega)).1]; exact h2) (fun j hj => by
      by_cases hji : j = i
      · subst hji; exact zq_sb_D b1 (fun d => by omega)
      · exact zq_sb_D (zq_sb_F (hb j hj) kg (k1.2 _ _ (by omega)).1) (fun d => by omega))
    refine ⟨t, ?_, b2, fun c => ?_, kg.tr k2⟩
    · rw [zl_Shelf_keepCertificate_60, if_pos ⟨zw_K7 w, zw_N7 w⟩, h3, if_neg (nI_ge (by omega) (by omega)), zw_R7_1 w]
      show (if zh_oa s 9 4 (nI i) then zk_p (zh_R s 9 (nI i).toNatClampNeg) _ else none) = _
      rw [if_pos (zw_A9 w (by omega)), nI_clamp (by omega), zw_R9 w (by omega)]
      show (if zh_oo s (23 + 3 * i) 3 then zk_p (zf_Signed_noteSigner_R n s (23 + 3 * i) (nI nc) (10 + nc)) _ else none) = _
      rw [if_pos (zw_L w (by omega)), e1]
      show zl_Shelf_keepCertificate_60 n f u 7 (nI nc) (10 + nc) (nI i + 1) = _
      rw [show (1 : Int32) = nI 1 from rfl, nI_add]
      exact e2
    · rcases c2 c with h | h
      · by_cases hc : 13 ≤ c
        · exact Or.inr hc
        · exact Or.inl (h.trans (k1.2 _ _ (by omega)).1)
      · exact Or.inr h
end NO
