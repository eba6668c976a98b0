/-! The reference stores. -/
section MS
variable {n : Nat}
abbrev zq_Pc (nc a k : Nat) : Prop := a = 55 ∧ 15 * nc ≤ k ∧ k < 15 * nc + 15 ∨ a = 44 ∧ k = 15
theorem zp_mst {nc : Nat} (hc : nc < 12) (i1 : Int32) : ∀ (r f k : Nat) (s : zh_S), zq_w s → 15 - k = r → k ≤ 15 → r < f → zh_I s 44 15 = nI nc → (∀ j, j < k → zh_J s 55 (15 * nc + j) = zh_J s 52 j) → ∃ x, zl_M_store_69 n f s 44 i1 (nI k) = some x ∧ x.1 = nI nc ∧ zh_I x.2 44 15 = nI (nc + 1) ∧ (∀ j, j < 14 → zh_J x.2 55 (15 * nc + j) = zh_J s 52 j) ∧ (zh_J x.2 55 (15 * nc + 14) = zh_J s 52 14 ||| (if i1 = 0 then 1 else 0)) ∧ zq_F (zq_Pc nc) s x.2 := by
  intro r
  induction r with
  | zero =>
    intro f k s w hr hk hf h hj
    obtain ⟨f, rfl⟩ : ∃ q, f = q + 1 := ⟨f - 1, by omega⟩
    have : k = 15 := by omega
    subst this
    have hidx : (15 : Int32) * zh_I s 44 15 + (14 : Int32) = nI (15 * nc + 14) := by rw [h, zi_15, zi_mul, zi_14, nI_add]
    have ha : zh_oa s 55 1 ((15 : Int32) * zh_I s 44 15 + (14 : Int32)) := by rw [hidx]; exact zw_A55 w (by omega)
    have fin : ∀ v : Int64, ∃ x, zb_M_store_131 n s 44 55 ((15 : Int32) * zh_I s 44 15 + (14 : Int32)) (zh_J s 52 ((14 : Int32).toNatClampNeg)) v = some x ∧ x.1 = nI nc ∧ zh_I x.2 44 15 = nI (nc + 1) ∧ (∀ j, j < 14 → zh_J x.2 55 (15 * nc + j) = zh_J s 52 j) ∧ (zh_J x.2 55 (15 * nc + 14) = zh_J s 52 14 ||| v) ∧ zq_F (zq_Pc nc) s x.2 := by
      intro v
      rw [zb_M_store_131]
      have e14 : (14 : Int32).toNatClampNeg = 14 := rfl
      have est : zh_uJ s 55 (((15 : Int32) * zh_I s 44 15 + (14 : Int32)).toNatClampNeg) (zh_J s 52 ((14 : Int32).toNatClampNeg) ||| v) = zh_uJ s 55 (15 * nc + 14) (zh_J s 52 14 ||| v) := by rw [hidx, nI_clamp (by omega), e14]
      refine zv_ck ha (zv_l ?_)
      rw [est]
      refine zv_ck ⟨zw_K44 w, zw_N44 w⟩ (zv_l (zv_r ⟨?_, ?_, fun j hj2 => ?_, ?_, ?_⟩))
      · show zh_I (zh_uI _ 44 15 (zh_I s 44 15 + 1)) 44 15 - 1 = nI nc
        rw [zs_II, if_pos ⟨rfl, rfl⟩, h, zi_1, nI_add, zi_sub (by omega)]
        rfl
      · show zh_I (zh_uI _ 44 15 (zh_I s 44 15 + 1)) 44 15 = _
        rw [zs_II, if_pos ⟨rfl, rfl⟩, h, zi_1, nI_add]
      · rw [zs_JI, zs_JJ, if_neg (by omega)]; exact hj j (by omega)
      · rw [zs_JI, zs_JJ, if_pos ⟨rfl, rfl⟩]
      · exact (zq_F.rf.uJ (by omega) _).uI (by omega) _
    rw [zl_M_store_69]
    refine zv_t (by decide) (zv_ck ⟨zw_K44 w, zw_N44 w⟩ (zv_p (zw_R44_16 w) (zv_p (zw_R44_11 w) (zv_ck (zw_A52 w (i := 14) (by decide)) ?_))))
    by_cases h0 : i1 = 0
    · rw [if_pos h0, if_pos h0]; exact fin 1
    · rw [if_neg h0, if_neg h0]; exact fin 0
  | succ r ih =>
    intro f k s w hr hk hf h hj
    obtain ⟨f, rfl⟩ : ∃ q, f = q + 1 := ⟨f - 1, by omega⟩
    have hidx : (15 : Int32) * zh_I s 44 15 + nI k = nI (15 * nc + k) := by rw [h, zi_15, zi_mul, nI_add]
    have est : zh_uJ s 55 (((15 : Int32) * zh_I s 44 15 + nI k).toNatClampNeg) (zh_J s 52 ((nI k).toNatClampNeg)) = zh_uJ s 55 (15 * nc + k) (zh_J s 52 k) := by rw [hidx, nI_clamp (by omega), nI_clamp (by omega)]
    have f1 : zq_F (zq_Pc nc) s (zh_uJ s 55 (15 * nc + k) (zh_J s 52 k)) := zq_F.rf.uJ (by omega) _
    obtain ⟨x, e1, b1, b2, b3, b4, k1⟩ := ih f (k + 1) (zh_uJ s 55 (15 * nc + k) (zh_J s 52 k)) (f1.w w) (by omega) (by omega) (by omega) h (fun j hj2 => by
      rw [zs_JJ, zs_JJ, if_neg (show ¬ (52 = 55 ∧ j = 15 * nc + k) by omega)]
      by_cases hjk : j = k
      · subst hjk; rw [if_pos ⟨rfl, rfl⟩]
      · rw [if_neg (by omega)]; exact hj j (by omega))
    rw [zl_M_store_69]
    refine zv_f (nI_ge (a := k) (b := 15) (by omega) (by decide)) (zv_ck ⟨zw_K44 w, zw_N44 w⟩ (zv_p (zw_R44_16 w) (zv_p (zw_R44_11 w) (zv_ck (zw_A52 w (by omega)) (zv_ck (by rw [hidx]; exact zw_A55 w (by omega)) (zv_l (zv_l ?_)))))))
    rw [est, zi_1, nI_add]
    exact ⟨x, e1, b1, b2, b3, b4, f1.tr k1⟩
abbrev zq_Pl (nl a k : Nat) : Prop := a = 56 ∧ 6 * nl ≤ k ∧ k < 6 * nl + 6 ∨ (a = 57 ∨ a = 58) ∧ 4 * nl ≤ k ∧ k < 4 * nl + 4 ∨ a = 44 ∧ k = 17
theorem zp_msl {nl e : Nat} (hl : nl < 6) (he : e ≤ 4) : ∀ (r f k : Nat) (s : zh_S), zq_w s → e - k = r → k ≤ e → r < f → zh_I s 44 12 = nI e → zh_I s 44 17 = nI nl → (∀ j, j < k → zh_J s 57 (4 * nl + j) = zh_J s 53 j ∧ zh_J s 58 (4 * nl + j) = zh_J s 54 j) → ∃ x, zl_M_storeList_108 n f s 44 (nI nl) (nI k) = some x ∧ x.1 = nI nl ∧ zh_I x.2 44 17 = nI (nl + 1) ∧ (∀ j, j < e → zh_J x.2 57 (4 * nl + j) = zh_J s 53 j ∧ zh_J x.2 58 (4 * nl + j) = zh_J s 54 j) ∧ (∀ k, zh_J x.2 56 k = zh_J s 56 k) ∧ zq_F (zq_Pl nl) s x.2 := by
  intro r
  induction r with
  | zero =>
    intro f k s w hr hk hf h1 h2 hj
    obtain ⟨f, rfl⟩ : ∃ q, f = q + 1 := ⟨f - 1, by omega⟩
    have : k = e := by omega
    subst this
    rw [zl_M_storeList_108]
    refine zv_ck ⟨zw_K44 w, zw_N44 w⟩ (zv_t (by rw [h1]; exact nI_le (Nat.le_refl _) (by omega)) (zv_l (zv_r ⟨rfl, ?_, hj, fun _ => rfl, zq_F.rf.uI (by omega) _⟩)))
    rw [zs_II, if_pos ⟨rfl, rfl⟩, h2, zi_1, nI_add]
  | succ r ih =>
    intro f k s w hr hk hf h1 h2 hj
    obtain ⟨f, rfl⟩ : ∃ q, f = q + 1 := ⟨f - 1, by omega⟩
    have hidx : (4 : Int32) * nI nl + nI k = nI (4 * nl + k) := by rw [zi_4, zi_mul, nI_add]
    have est : zh_uJ s 57 (((4 : Int32) * nI nl + nI k).toNatClampNeg) (zh_J s 53 ((nI k).toNatClampNeg)) = zh_uJ s 57 (4 * nl + k) (zh_J s 53 k) := by rw [hidx, nI_clamp (by omega), nI_clamp (by omega)]
    have f1 : zq_F (zq_Pl nl) s (zh_uJ s 57 (4 * nl + k) (zh_J s 53 k)) := zq_F.rf.uJ (by omega) _
    have w1 := f1.w w
    have est2 : zh_uJ (zh_uJ s 57 (4 * nl + k) (zh_J s 53 k)) 58 (((4 : Int32) * nI nl + nI k).toNatClampNeg) (zh_J (zh_uJ s 57 (4 * nl + k) (zh_J s 53 k)) 54 ((nI k).toNatClampNeg)) = zh_uJ (zh_uJ s 57 (4 * nl + k) (zh_J s 53 k)) 58 (4 * nl + k) (zh_J s 54 k) := by rw [hidx, nI_clamp (by omega), nI_clamp (by omega), zs_JJ, if_neg (by omega)]
    have f2 : zq_F (zq_Pl nl) s (zh_uJ (zh_uJ s 57 (4 * nl + k) (zh_J s 53 k)) 58 (4 * nl + k) (zh_J s 54 k)) := f1.uJ (by omega) _
    obtain ⟨x, e1, b1, b2, b3, b4, k1⟩ := ih f (k + 1) _ (f2.w w) (by omega) (by omega) (by omega) h1 h2 (fun j hj2 => by
      simp (disch := omega) only [zs_JJ]
      by_cases hjk : j = k
      · subst hjk; simp
      · have := hj j (by omega)
        simp [hjk, this])
    rw [zl_M_storeList_108]
    refine zv_ck ⟨zw_K44 w, zw_N44 w⟩ (zv_f (by rw [h1]; exact nI_ge (by omega) (by omega)) (zv_p (zw_R44_19 w) (zv_p (zw_R44_13 w) (zv_ck (zw_A53 w (by omega)) (zv_ck (by rw [hidx]; exact zw_A57 w (by omega)) (zv_l ?_))))))
    rw [est]
    refine zv_ck ⟨zw_K44 w1, zw_N44 w1⟩ (zv_p (zw_R44_20 w1) (zv_p (zw_R44_14 w1) (zv_ck (zw_A54 w1 (by omega)) (zv_ck (by rw [hidx]; exact zw_A58 w1 (by omega)) (zv_l (zv_l ?_))))))
    rw [est2, zi_1, nI_add]
    refine ⟨x, e1, b1, b2, fun j hj => ?_, fun k => ?_, f2.tr k1⟩
    · have := b3 j hj
      simp (disch := omega) only [zs_JJ] at this
      simpa using this
    · rw [b4]; simp [zs_JJ]
theorem zp_mstoreL (hn : 300 ≤ n) {s : zh_S} {nl e : Nat} (hl : nl < 6) (he : e ≤ 4) (w : zq_w s) (h1 : zh_I s 44 12 = nI e) (h2 : zh_I s 44 17 = nI nl) : ∃ x, zf_M_storeList n s 44 = some x ∧ x.1 = nI nl ∧ zh_I x.2 44 17 = nI (nl + 1) ∧ (zh_J x.2 56 (6 * nl) = zh_J s 52 1 ∧ zh_J x.2 56 (6 * nl + 1) = zh_J s 52 2 ∧ zh_J x.2 56 (6 * nl + 2) = zh_J s 52 3 ∧ zh_J x.2 56 (6 * nl + 3) = (nI e).toInt64 ∧ zh_J x.2 56 (6 * nl + 4) = zh_J s 52 7 ∧ zh_J x.2 56 (6 * nl + 5) = zh_J s 52 8) ∧ (∀ j, j < e → zh_J x.2 57 (4 * nl + j) = zh_J s 53 j ∧ zh_J x.2 58 (4 * nl + j) = zh_J s 54 j) ∧ zq_F (zq_Pl nl) s x.2 := by
  have i0 : (6 : Int32) * nI nl = nI (6 * nl) := by rw [zi_6, zi_mul]
  have ix : ∀ k, (6 : Int32) * nI nl + nI k = nI (6 * nl + k) := fun k => by rw [i0, nI_add]
  have key : ∀ (u : zh_S) (k j : Nat), 6 * nl + k < 36 → zh_uJ u 56 (((6 : Int32) * nI nl + nI k).toNatClampNeg) (zh_J u 52 j) = zh_uJ u 56 (6 * nl + k) (zh_J u 52 j) := fun u k j hk => by rw [ix, nI_clamp (by omega)]
  obtain ⟨s1, hs1⟩ : ∃ q, q = zh_uJ s 56 (6 * nl) (zh_J s 52 1) := ⟨_, rfl⟩
  have f1 : zq_F (zq_Pl nl) s s1 := by rw [hs1]; exact zq_F.rf.uJ (by omega) _
  obtain ⟨s2, hs2⟩ : ∃ q, q = zh_uJ s1 56 (6 * nl + 1) (zh_J s1 52 2) := ⟨_, rfl⟩
  have f2 : zq_F (zq_Pl nl) s s2 := by rw [hs2]; exact f1.uJ (by omega) _
  obtain ⟨s3, hs3⟩ : ∃ q, q = zh_uJ s2 56 (6 * nl + 2) (zh_J s2 52 3) := ⟨_, rfl⟩
  have f3 : zq_F (zq_Pl nl) s s3 := by rw [hs3]; exact f2.uJ (by omega) _
  obtain ⟨s4, hs4⟩ : ∃ q, q = zh_uJ s3 56 (6 * nl + 3) ((zh_I s3 44 12).toInt64) := ⟨_, rfl⟩
  have f4 : zq_F (zq_Pl nl) s s4 := by rw [hs4]; exact f3.uJ (by omega) _
  obtain ⟨s5, hs5⟩ : ∃ q, q = zh_uJ s4 56 (6 * nl + 4) (zh_J s4 52 7) := ⟨_, rfl⟩
  have f5 : zq_F (zq_Pl nl) s s5 := by rw [hs5]; exact f4.uJ (by omega) _
  obtain ⟨s6, hs6⟩ : ∃ q, q = zh_uJ s5 56 (6 * nl + 5) (zh_J s5 52 8) := ⟨_, rfl⟩
  have f6 : zq_F (zq_Pl nl) s s6 := by rw [hs6]; exact f5.uJ (by omega) _
  obtain ⟨x, e1, b1, b2, b3, b4, k1⟩ := zp_msl (n := n) hl he e n 0 s6 (f6.w w) (by omega) (by omega) (by omega) (by rw [(f6.2 44 12 (by omega)).1]; exact h1) (by have : zh_I s6 44 17 = zh_I s 44 17 := (by rw [hs6, zs_IJ, hs5, zs_IJ, hs4, zs_IJ, hs3, zs_IJ, hs2, zs_IJ, hs1, zs_IJ]); rw [this]; exact h2) (fun j hj => absurd hj (Nat.not_lt_zero j))
  rw [zf_M_storeList, h2]
  have w1 := f1.w w
  have w2 := f2.w w
  have w3 := f3.w w
  have w4 := f4.w w
  have w5 := f5.w w
  refine zv_ck ⟨zw_K44 w, zw_N44 w⟩ (zv_l (zv_p (zw_R44_18 w) (zv_p (zw_R44_11 w) (zv_ck (zw_A52 w (i := 1) (by decide)) (zv_ck (by rw [i0]; exact zw_A56 w (by omega)) (zv_l ?_))))))
  rw [show zh_uJ s 56 (((6 : Int32) * nI nl).toNatClampNeg) (zh_J s 52 ((1 : Int32).toNatClampNeg)) = s1 by rw [i0, nI_clamp (by omega), hs1]; rfl]
  refine zv_ck ⟨zw_K44 w1, zw_N44 w1⟩ (zv_p (zw_R44_18 w1) (zv_p (zw_R44_11 w1) (zv_ck (zw_A52 w1 (i := 2) (by decide)) (zv_ck (by rw [zi_1, ix]; exact zw_A56 w1 (by omega)) (zv_l ?_)))))
  rw [show zh_uJ s1 56 (((6 : Int32) * nI nl + (1 : Int32)).toNatClampNeg) (zh_J s1 52 ((2 : Int32).toNatClampNeg)) = s2 by rw [zi_1, key _ _ _ (by omega), hs2]; rfl]
  refine zv_ck ⟨zw_K44 w2, zw_N44 w2⟩ (zv_p (zw_R44_18 w2) (zv_p (zw_R44_11 w2) (zv_ck (zw_A52 w2 (i := 3) (by decide)) (zv_ck (by rw [zi_2, ix]; exact zw_A56 w2 (by omega)) (zv_l ?_)))))
  rw [show zh_uJ s2 56 (((6 : Int32) * nI nl + (2 : Int32)).toNatClampNeg) (zh_J s2 52 ((3 : Int32).toNatClampNeg)) = s3 by rw [zi_2, key _ _ _ (by omega), hs3]; rfl]
  refine zv_ck ⟨zw_K44 w3, zw_N44 w3⟩ (zv_p (zw_R44_18 w3) (zv_ck (by rw [zi_3, ix]; exact zw_A56 w3 (by omega)) (zv_l ?_)))
  rw [show zh_uJ s3 56 (((6 : Int32) * nI nl + (3 : Int32)).toNatClampNeg) ((zh_I s3 44 12).toInt64) = s4 by rw [zi_3, ix, nI_clamp (by omega), hs4]]
  refine zv_ck ⟨zw_K44 w4, zw_N44 w4⟩ (zv_p (zw_R44_18 w4) (zv_p (zw_R44_11 w4) (zv_ck (zw_A52 w4 (i := 7) (by decide)) (zv_ck (by rw [zi_4, ix]; exact zw_A56 w4 (by omega)) (zv_l ?_)))))
  rw [show zh_uJ s4 56 (((6 : Int32) * nI nl + (4 : Int32)).toNatClampNeg) (zh_J s4 52 ((7 : Int32).toNatClampNeg)) = s5 by rw [zi_4, key _ _ _ (by omega), hs5]; rfl]
  refine zv_ck ⟨zw_K44 w5, zw_N44 w5⟩ (zv_p (zw_R44_18 w5) (zv_p (zw_R44_11 w5) (zv_ck (zw_A52 w5 (i := 8) (by decide)) (zv_ck (by rw [zi_5, ix]; exact zw_A56 w5 (by omega)) (zv_l ?_)))))
  rw [show zh_uJ s5 56 (((6 : Int32) * nI nl + (5 : Int32)).toNatClampNeg) (zh_J s5 52 ((8 : Int32).toNatClampNeg)) = s6 by rw [zi_5, key _ _ _ (by omega), hs6]; rfl]
  refine ⟨x, e1, b1, b2, ?_, fun j hj => ?_, f6.tr k1⟩
  · simp only [b4]
    have j52 : ∀ u j, zq_F (zq_Pl nl) s u → zh_J u 52 j = zh_J s 52 j := fun u j f => (f.2 52 j (by omega)).2
    have i12 : zh_I s3 44 12 = nI e := by rw [(f3.2 44 12 (by omega)).1]; exact h1
    refine ⟨?_, ?_, ?_, ?_, ?_, ?_⟩
    · rw [hs6, zs_JJ, if_neg (by omega), hs5, zs_JJ, if_neg (by omega), hs4, zs_JJ, if_neg (by omega), hs3, zs_JJ, if_neg (by omega), hs2, zs_JJ, if_neg (by omega), hs1, zs_JJ, if_pos ⟨rfl, rfl⟩]
    · rw [hs6, zs_JJ, if_neg (by omega), hs5, zs_JJ, if_neg (by omega), hs4, zs_JJ, if_neg (by omega), hs3, zs_JJ, if_neg (by omega), hs2, zs_JJ, if_pos ⟨rfl, rfl⟩]; exact j52 _ _ f1
    · rw [hs6, zs_JJ, if_neg (by omega), hs5, zs_JJ, if_neg (by omega), hs4, zs_JJ, if_neg (by omega), hs3, zs_JJ, if_pos ⟨rfl, rfl⟩]; exact j52 _ _ f2
    · rw [hs6, zs_JJ, if_neg (by omega), hs5, zs_JJ, if_neg (by omega), hs4, zs_JJ, if_pos ⟨rfl, rfl⟩, i12]
    · rw [hs6, zs_JJ, if_neg (by omega), hs5, zs_JJ, if_pos ⟨rfl, rfl⟩]; exact j52 _ _ f4
    · rw [hs6, zs_JJ, if_pos ⟨rfl, rfl⟩]; exact j52 _ _ f5
  · have := b3 j hj
    rw [(f6.2 53 j (by omega)).2, (f6.2 54 j (by omega)).2] at this
    exact this
end MS
