/-! good and sign: class and reference answer alike -/
theorem zn_in (n : Nat) (v lo hi : Int64) : zf_M_in n v lo hi = some (if lo ≤ v ∧ v ≤ hi then 1 else 0) := by
  rw [zf_M_in]
  simp only [lg_cmp_lt, lg_cmp_gt]
  by_cases h1 : v < lo
  · rw [if_pos h1, if_neg (fun h => absurd h1 (Int64.not_lt.mpr h.1))]
  · rw [if_neg h1]
    by_cases h2 : hi < v
    · rw [if_pos h2, if_neg (fun h => absurd h2 (Int64.not_lt.mpr h.2))]
    · rw [if_neg h2, if_pos ⟨Int64.not_lt.mp h1, Int64.not_lt.mp h2⟩]
/-- the answer of good -/
def zq_g (n : Nat) (sg md ex : Int64) (h : Int32) : Int32 := (zf_Numbers_isGood n sg md ex h).getD 0
theorem zn_block (n : Nat) (h : Int32) : ∃ b : Nat, b < 2 ^ 57 ∧ zf_Numbers_block n h = some (lN b) ∧ zf_M_block n h = some (lN b) := by
  refine ⟨561850441793536 + (h.toInt64.toBitVec.toNat % 2 ^ 32), ?_, ?_, ?_⟩
  · have := Nat.mod_lt (h.toInt64.toBitVec.toNat) (show 0 < 2 ^ 32 by decide); omega
  · rw [zf_Numbers_block, zn_and h.toInt64 32 (by decide +kernel)]
    exact congrArg some (lN_add _ _)
  · rw [zf_M_block, zn_and h.toInt64 32 (by decide +kernel)]
    exact congrArg some (lN_add _ _)
theorem zn_good0 {n : Nat} (hn : 64 ≤ n) (b0 : Nat) (j1 j3 j5 : Int64) (i7 : Int32) : ∃ r, zf_Numbers_isGood n j1 j3 j5 i7 = some r ∧ zf_M_good n b0 j1 j3 j5 i7 = some r ∧ (r = 0 ∨ r = 1) := by
  obtain ⟨b, hb, eb, em⟩ := zn_block n i7
  rw [zf_Numbers_isGood, zf_M_good]
  simp only [lg_cmp_lt, lg_cmp_gt, lg_cmp_ge, zn_in, zk_p]
  rw [if_pos (show ¬ (2 : Int64) = 0 by decide)]
  by_cases c1 : (144115188075855872 : Int64) ≤ j3 ∧ j3 ≤ 4611686018427387903
  · have hj3 : ¬ j3 < 0 := fun h => absurd (Int64.lt_of_lt_of_le h (show (0 : Int64) ≤ 144115188075855872 by decide)) (Int64.not_lt.mpr c1.1)
    obtain ⟨m, hm, rfl⟩ := pk_lOf hj3
    have m1 : 2 ^ 57 ≤ m := (pk_lLE (by decide) hm).mp c1.1
    have m2 : m < 2 ^ 62 := by have := (pk_lLE (b := 4611686018427387903) hm (by decide)).mp c1.2; omega
    rw [if_neg (Int64.not_lt.mpr c1.1), if_neg (Int64.not_lt.mpr c1.2)]
    have eo : (lg_cmp (lN m - lN m / 2 * 2) 1 = 0) ↔ m % 2 = 1 := by
      rw [show (2 : Int64) = lN 2 from rfl, pk_lRem hm (by decide) (by decide), lg_cmp_eq, show (1 : Int64) = lN 1 from rfl, pk_lEQ (by omega) (by decide)]
    by_cases ho : m % 2 = 1
    · rw [if_pos ((zn_odd hm).mpr ho)]
      by_cases c2 : (3 : Int64) ≤ j5 ∧ j5 ≤ 2147483647
      · have hj5 : ¬ j5 < 0 := fun h => absurd (Int64.lt_of_lt_of_le h (show (0 : Int64) ≤ 3 by decide)) (Int64.not_lt.mpr c2.1)
        obtain ⟨e, he, rfl⟩ := pk_lOf hj5
        rw [if_neg (Int64.not_lt.mpr c2.1), if_neg (Int64.not_lt.mpr c2.2)]
        by_cases c3 : j1 < 0
        · rw [if_pos c3, if_pos c3]
          exact ⟨0, rfl, rfl, Or.inl rfl⟩
        · rw [if_neg c3, if_neg c3, if_pos (eo.mpr ho), if_pos c1, if_neg (show ¬ (1 : Int32) = 0 by decide), if_pos c2, if_neg (show ¬ (1 : Int32) = 0 by decide)]
          obtain ⟨x, hx, rfl⟩ := pk_lOf c3
          by_cases c4 : lN m ≤ lN x
          · rw [if_pos c4, if_neg (Int64.not_lt.mpr c4)]
            exact ⟨0, rfl, rfl, Or.inl rfl⟩
          · have hxm : x < m := by
              rw [pk_lLE hm hx] at c4; omega
            rw [if_neg c4, if_pos (Int64.not_le.mp c4), zn_power hn (by omega) m2 hxm he, zn_mpower hn (by omega) m2 hxm he, eb, em]
            simp only []
            by_cases c5 : lg_cmp (lN (x ^ e % m)) (lN b) = 0
            · rw [if_pos c5]; exact ⟨1, rfl, rfl, Or.inr rfl⟩
            · rw [if_neg c5]; exact ⟨0, rfl, rfl, Or.inl rfl⟩
      · refine ⟨0, ?_, ?_, Or.inl rfl⟩
        · by_cases d1 : j5 < 3
          · rw [if_pos d1]
          · rw [if_neg d1, if_pos (Int64.not_le.mp (fun h => c2 ⟨Int64.not_lt.mp d1, h⟩))]
        · by_cases c3 : j1 < 0
          · rw [if_pos c3]
          · rw [if_neg c3, if_pos (eo.mpr ho), if_pos c1, if_neg (show ¬ (1 : Int32) = 0 by decide), if_neg c2, if_pos rfl]
    · refine ⟨0, ?_, ?_, Or.inl rfl⟩
      · rw [if_neg (fun h => ho ((zn_odd hm).mp h))]
      · by_cases c3 : j1 < 0
        · rw [if_pos c3]
        · rw [if_neg c3, if_neg (fun h => ho (eo.mp h))]
  · refine ⟨0, ?_, ?_, Or.inl rfl⟩
    · by_cases d1 : j3 < 144115188075855872
      · rw [if_pos d1]
      · rw [if_neg d1, if_pos (Int64.not_le.mp (fun h => c1 ⟨Int64.not_lt.mp d1, h⟩))]
    · rw [if_neg c1]
      by_cases c3 : j1 < 0
      · rw [if_pos c3]
      · rw [if_neg c3, if_pos rfl]
        split <;> rfl
theorem zn_isgood {n : Nat} (hn : 64 ≤ n) (sg md ex : Int64) (h : Int32) : zf_Numbers_isGood n sg md ex h = some (zq_g n sg md ex h) ∧ (zq_g n sg md ex h = 0 ∨ zq_g n sg md ex h = 1) := by
  obtain ⟨r, e1, -, hr⟩ := zn_good0 hn 0 sg md ex h
  unfold zq_g
  rw [e1]
  exact ⟨rfl, hr⟩
theorem zn_mgood {n : Nat} (hn : 64 ≤ n) (b0 : Nat) (sg md ex : Int64) (h : Int32) : zf_M_good n b0 sg md ex h = some (zq_g n sg md ex h) := by
  obtain ⟨r, e1, e2, -⟩ := zn_good0 hn b0 sg md ex h
  unfold zq_g
  rw [e1, e2]
  rfl
theorem zn_vgood {n : Nat} (hn : 64 ≤ n) (b0 : Nat) (sg md ex : Int64) (h : Int32) : zf_V_good n b0 sg md ex h = some (zq_g n sg md ex h) := by
  obtain ⟨e1, e2⟩ := zn_isgood hn sg md ex h
  rw [zf_V_good, e1]
  simp only [zk_p]
  rw [if_pos e2]
/-- the signature of h by a key -/
def zq_sg (n : Nat) (k : Nat) (h : Int32) : Int64 := (zf_Numbers_signature n (nI k) h).getD 0
theorem zn_key {k : Nat} (hk : k < 6) : ∃ m e : Nat, zt_MODULI k = lN m ∧ zt_PRIVATE_EXPONENTS k = lN e ∧ 2 ^ 57 ≤ m ∧ m < 2 ^ 62 ∧ e < 2 ^ 63 := by
  rcases (show k = 0 ∨ k = 1 ∨ k = 2 ∨ k = 3 ∨ k = 4 ∨ k = 5 by omega) with rfl | rfl | rfl | rfl | rfl | rfl
  · exact ⟨1200000049400000287, 800000031466666827, rfl, rfl, by decide, by decide, by decide⟩
  · exact ⟨1430000491000037023, 84117675800002153, rfl, rfl, by decide, by decide, by decide⟩
  · exact ⟨1536351190290809371, 579867958021467505, rfl, rfl, by decide, by decide, by decide⟩
  · exact ⟨1728395075795061493, 1604812069470515813, rfl, rfl, by decide, by decide, by decide⟩
  · exact ⟨1697785988597898509, 339557197186246361, rfl, rfl, by decide, by decide, by decide⟩
  · exact ⟨1597490175708938519, 1161811034953791779, rfl, rfl, by decide, by decide, by decide⟩
theorem zn_signature {n : Nat} (hn : 64 ≤ n) {k : Nat} (hk : k < 6) (h : Int32) : ∃ v : Nat, v < 2 ^ 62 ∧ zf_Numbers_signature n (nI k) h = some (lN v) ∧ zq_sg n k h = lN v ∧ (∃ b, zf_M_block n h = some b ∧ zf_M_power n b (zt_PRIVATE_EXPONENTS k) (zt_MODULI k) = some (lN v)) := by
  obtain ⟨m, e, hm, he, m1, m2, e1⟩ := zn_key hk
  obtain ⟨b, hb, eb, em⟩ := zn_block n h
  have key : zf_Numbers_signature n (nI k) h = some (lN (b ^ e % m)) := by
    rw [zf_Numbers_signature, eb]
    simp only [zk_p, nI_clamp (show k < 2 ^ 31 by omega)]
    rw [if_pos ⟨nI_pos (by omega), hk⟩, if_pos ⟨nI_pos (by omega), hk⟩, hm, he, zn_power hn (by omega) m2 (by omega) e1]
  refine ⟨b ^ e % m, Nat.lt_trans (Nat.mod_lt _ (by omega)) m2, key, by unfold zq_sg; rw [key]; rfl, lN b, em, ?_⟩
  rw [hm, he, zn_mpower hn (by omega) m2 (by omega) e1]
