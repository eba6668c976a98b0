/-! set, revoke, forgive, sign, good. -/
def zq_al (k : Nat) (v : Int64) : Bool := match k with
  | 0 => decide (¬ v < 0)
  | 1 => zq_in v
  | 2 => decide (¬ v < 0)
  | 3 => decide (¬ v < 0)
  | 4 => zq_in v
  | 5 => decide ((0 : Int64) ≤ v ∧ v ≤ 5)
  | 6 => decide ((-1 : Int64) ≤ v ∧ v ≤ 1)
  | 7 => decide ((-1 : Int64) ≤ v ∧ v ≤ 9)
  | 8 => decide (v = -1 ∨ (1 : Int64) ≤ v ∧ v ≤ 7)
  | 9 => decide (v = 0) || zq_in v
  | 10 => decide (v = 0) || zq_in v
  | 11 => decide ((0 : Int64) ≤ v ∧ v ≤ 2)
  | 12 => decide ((0 : Int64) ≤ v ∧ v ≤ 5)
  | _ => false
theorem zn_isKey (n : Nat) (v : Int64) : zf_Numbers_isKey n v = some (if (0 : Int64) ≤ v ∧ v ≤ 5 then 1 else 0) := by
  rw [zf_Numbers_isKey]
  simp only [lg_cmp_lt, lg_cmp_ge]
  have e6 : (6 : Int32).toInt64 = 6 := by decide
  rw [e6]
  by_cases h1 : v < 0
  · rw [if_pos h1, if_neg (fun h => absurd h1 (Int64.not_lt.mpr h.1))]
  · rw [if_neg h1]
    have h56 : (6 : Int64) ≤ v ↔ ¬ v ≤ 5 := by
      rw [Int64.le_iff_toInt_le, Int64.le_iff_toInt_le, show (6 : Int64).toInt = 6 from rfl, show (5 : Int64).toInt = 5 from rfl]; omega
    by_cases h2 : (6 : Int64) ≤ v
    · rw [if_pos h2, if_neg (fun h => absurd h.2 (h56.mp h2))]
    · rw [if_neg h2, if_pos ⟨Int64.not_lt.mp h1, Classical.not_not.mp (fun h => h2 (h56.mpr h))⟩]
theorem zn_ran (v lo hi : Int64) : (if v < lo then some (0 : Int32) else if hi < v then some 0 else some 1) = some (if lo ≤ v ∧ v ≤ hi then 1 else 0) := by
  by_cases h1 : v < lo
  · rw [if_pos h1, if_neg (fun h => absurd h1 (Int64.not_lt.mpr h.1))]
  · rw [if_neg h1]
    by_cases h2 : hi < v
    · rw [if_pos h2, if_neg (fun h => absurd h2 (Int64.not_lt.mpr h.2))]
    · rw [if_neg h2, if_pos ⟨Int64.not_lt.mp h1, Int64.not_lt.mp h2⟩]
theorem zi_01 {c : Prop} [Decidable c] : (if c then (1 : Int32) else 0) = 0 ∨ (if c then (1 : Int32) else 0) = 1 := by by_cases h : c; exact Or.inr (if_pos h); exact Or.inl (if_neg h)
theorem zn_allow {n : Nat} (hn : 20 ≤ n) {k : Nat} (hk : k < 13) (v : Int64) : zf_Tool_isAllowed n (nI k) v = some (if zq_al k v = true then 1 else 0) := by
  have hN : zk_p (zf_Names_isName n v) (fun i_1 => if i_1 = 0 ∨ i_1 = 1 then some i_1 else none) = some (if zq_in v = true then 1 else 0) := by
    rw [zn_isName hn]
    show (if (if zq_in v = true then (1 : Int32) else 0) = 0 ∨ _ then _ else none) = _
    rw [if_pos zi_01]
  have hK : zk_p (zf_Numbers_isKey n v) (fun i_1 => if i_1 = 0 ∨ i_1 = 1 then some i_1 else none) = some (if (0 : Int64) ≤ v ∧ v ≤ 5 then 1 else 0) := by
    rw [zn_isKey]
    show (if (if (0 : Int64) ≤ v ∧ v ≤ 5 then (1 : Int32) else 0) = 0 ∨ _ then _ else none) = _
    rw [if_pos zi_01]
  have h0 : (if lg_cmp v (0 : Int64) < 0 then some (0 : Int32) else some 1) = some (if decide (¬ v < 0) = true then 1 else 0) := by
    simp only [lg_cmp_lt]
    by_cases h : v < 0
    · rw [if_pos h, if_neg (fun q => (of_decide_eq_true q) h)]
    · rw [if_neg h, if_pos (decide_eq_true h)]
  have hz : (if lg_cmp v (0 : Int64) = 0 then some (1 : Int32) else zk_p (zf_Names_isName n v) fun i_7 => if i_7 = 0 then some (0 : Int32) else some 1) = some (if (decide (v = 0) || zq_in v) = true then 1 else 0) := by
    simp only [lg_cmp_eq]
    rw [zn_isName hn]
    by_cases h : v = 0
    · rw [if_pos h, if_pos (by rw [decide_eq_true h, Bool.true_or])]
    · rw [if_neg h, decide_eq_false h, Bool.false_or]
      show (if (if zq_in v = true then (1 : Int32) else 0) = 0 then some (0 : Int32) else some 1) = _
      by_cases g : zq_in v = true
      · rw [if_pos g, if_neg (by decide)]
      · rw [if_neg g, if_pos rfl]
  have hr : ∀ lo hi : Int64, (if lg_cmp v lo < 0 then some (0 : Int32) else if 0 < lg_cmp v hi then some 0 else some 1) = some (if decide (lo ≤ v ∧ v ≤ hi) = true then 1 else 0) := fun lo hi => by
    simp only [lg_cmp_lt, lg_cmp_gt, decide_eq_true_eq]
    exact zn_ran v lo hi
  have h8 : (if lg_cmp v (-1 : Int64) = 0 then some (1 : Int32) else if lg_cmp v (1 : Int64) < 0 then some 0 else if 0 < lg_cmp v (7 : Int64) then some 0 else some 1) = some (if decide (v = -1 ∨ (1 : Int64) ≤ v ∧ v ≤ 7) = true then 1 else 0) := by
    by_cases h : v = -1
    · rw [if_pos ((lg_cmp_eq _ _).mpr h), if_pos (decide_eq_true (Or.inl h))]
    · rw [if_neg (fun e => h ((lg_cmp_eq _ _).mp e)), hr]
      by_cases g : (1 : Int64) ≤ v ∧ v ≤ 7
      · rw [if_pos (decide_eq_true g), if_pos (decide_eq_true (Or.inr g))]
      · rw [if_neg (fun e => g (of_decide_eq_true e)), if_neg (fun e => (of_decide_eq_true e).elim h g)]
  have hK' : zk_p (zf_Numbers_isKey n v) (fun i_1 => if i_1 = 0 ∨ i_1 = 1 then some i_1 else none) = some (if decide ((0 : Int64) ≤ v ∧ v ≤ 5) = true then 1 else 0) := by rw [hK]; simp only [decide_eq_true_eq]
  rw [zf_Tool_isAllowed]
  rcases (show k = 0 ∨ k = 1 ∨ k = 2 ∨ k = 3 ∨ k = 4 ∨ k = 5 ∨ k = 6 ∨ k = 7 ∨ k = 8 ∨ k = 9 ∨ k = 10 ∨ k = 11 ∨ k = 12 by omega) with rfl | rfl | rfl | rfl | rfl | rfl | rfl | rfl | rfl | rfl | rfl | rfl | rfl
  · exact h0
  · exact hN
  · exact h0
  · exact h0
  · exact hN
  · exact hK'
  · exact hr (-1) 1
  · exact hr (-1) 9
  · exact h8
  · exact hz
  · exact hz
  · exact hr 0 2
  · exact hK'
theorem zn_mset {n : Nat} (hn : 20 ≤ n) {k : Nat} (hk : k < 13) (t : zh_S) (v : Int64) : zf_M_set n t 44 (nI k) v = zb_M_set_201 n t 44 (nI k) v (if zq_al k v = true then 1 else 0) := by
  have hN : zk_p (zf_M_isName n v) (fun i_1 => zb_M_set_201 n t 44 (nI k) v i_1) = zb_M_set_201 n t 44 (nI k) v (if zq_in v = true then 1 else 0) := by
    rw [zn_misName hn]; rfl
  have hI : ∀ lo hi : Int64, zk_p (zf_M_in n v lo hi) (fun i_1 => zb_M_set_201 n t 44 (nI k) v i_1) = zb_M_set_201 n t 44 (nI k) v (if decide (lo ≤ v ∧ v ≤ hi) = true then 1 else 0) := fun lo hi => by
    rw [zn_in]; simp only [decide_eq_true_eq]; rfl
  have h0 : (if lg_cmp v (0 : Int64) < 0 then zb_M_set_79 n t 44 (nI k) v 0 else zb_M_set_79 n t 44 (nI k) v 1) = zb_M_set_201 n t 44 (nI k) v (if decide (¬ v < 0) = true then 1 else 0) := by
    simp only [lg_cmp_lt]
    by_cases h : v < 0
    · rw [if_pos h, if_neg (fun q => (of_decide_eq_true q) h)]; rfl
    · rw [if_neg h, if_pos (decide_eq_true h)]; rfl
  have hz : (if lg_cmp v (0 : Int64) = 0 then zb_M_set_176 n t 44 (nI k) v else zk_p (zf_M_isName n v) fun i_7 => if i_7 = 0 then zb_M_set_181 n t 44 (nI k) v 0 else zb_M_set_176 n t 44 (nI k) v) = zb_M_set_201 n t 44 (nI k) v (if (decide (v = 0) || zq_in v) = true then 1 else 0) := by
    simp only [lg_cmp_eq]
    rw [zn_misName hn]
    by_cases h : v = 0
    · rw [if_pos h, if_pos (by rw [decide_eq_true h, Bool.true_or])]; rfl
    · rw [if_neg h, decide_eq_false h, Bool.false_or]
      show (if (if zq_in v = true then (1 : Int32) else 0) = 0 then zb_M_set_201 n t 44 (nI k) v 0 else zb_M_set_201 n t 44 (nI k) v 1) = _
      by_cases g : zq_in v = true
      · rw [if_pos g, if_neg (by decide)]
      · rw [if_neg g, if_pos rfl]
  have h8 : (if lg_cmp v (-1 : Int64) = 0 then zb_M_set_153 n t 44 (nI k) v else zk_p (zf_M_in n v (1 : Int64) (7 : Int64)) fun i_6 => if i_6 = 0 then zb_M_set_158 n t 44 (nI k) v 0 else zb_M_set_153 n t 44 (nI k) v) = zb_M_set_201 n t 44 (nI k) v (if decide (v = -1 ∨ (1 : Int64) ≤ v ∧ v ≤ 7) = true then 1 else 0) := by
    rw [zn_in]
    by_cases h : v = -1
    · rw [if_pos ((lg_cmp_eq _ _).mpr h), if_pos (decide_eq_true (Or.inl h))]; rfl
    · rw [if_neg (fun e => h ((lg_cmp_eq _ _).mp e))]
      show (if (if (1 : Int64) ≤ v ∧ v ≤ 7 then (1 : Int32) else 0) = 0 then zb_M_set_201 n t 44 (nI k) v 0 else zb_M_set_201 n t 44 (nI k) v 1) = _
      by_cases g : (1 : Int64) ≤ v ∧ v ≤ 7
      · rw [if_pos g, if_neg (by decide), if_pos (decide_eq_true (Or.inr g))]
      · rw [if_neg g, if_pos rfl, if_neg (fun e => (of_decide_eq_true e).elim h g)]
  rw [zf_M_set]
  rcases (show k = 0 ∨ k = 1 ∨ k = 2 ∨ k = 3 ∨ k = 4 ∨ k = 5 ∨ k = 6 ∨ k = 7 ∨ k = 8 ∨ k = 9 ∨ k = 10 ∨ k = 11 ∨ k = 12 by omega) with rfl | rfl | rfl | rfl | rfl | rfl | rfl | rfl | rfl | rfl | rfl | rfl | rfl
  · exact h0
  · exact hN
  · exact h0
  · exact h0
  · exact hN
  · exact hI 0 5
  · exact hI (-1) 1
  · exact hI (-1) 9
  · exact h8
  · exact hz
  · exact hz
  · exact hI 0 2
  · exact hI 0 5
def zq_upF (F : Nat → Int64) (k : Nat) (v : Int64) (j : Nat) : Int64 := if j = k then v else F j
theorem zn_rangeN {v : Int64} {m : Nat} (hm : m < 2 ^ 31) (h : (0 : Int64) ≤ v ∧ v ≤ lN m) : ∃ k : Nat, k ≤ m ∧ v = lN k := by
  obtain ⟨k, hk, rfl⟩ := pk_lOf (Int64.not_lt.mpr h.1)
  exact ⟨k, (pk_lLE hk (by omega)).mp h.2, rfl⟩
theorem zn_rangeM {v : Int64} {m : Nat} (hm : m < 2 ^ 31) (h : (-1 : Int64) ≤ v ∧ v ≤ lN m) : v = -1 ∨ ∃ k : Nat, k ≤ m ∧ v = lN k := by
  by_cases h0 : v < 0
  · left
    apply Int64.toInt_inj.mp
    rw [Int64.lt_iff_toInt_lt, show (0 : Int64).toInt = 0 from rfl] at h0
    have h1 := h.1
    rw [Int64.le_iff_toInt_le, show (-1 : Int64).toInt = -1 from rfl] at h1
    rw [show (-1 : Int64).toInt = -1 from rfl]
    omega
  · exact Or.inr (zn_rangeN hm ⟨Int64.not_lt.mp h0, h.2⟩)
theorem zq_ok_up {F : Nat → Int64} (ok : zq_ok F) {k : Nat} (hk : k < 13) {v : Int64} (h : zq_al k v = true) : zq_ok (zq_upF F k v) := by
  obtain ⟨⟨a0, a2, a3⟩, ⟨a1, a4⟩, a5, a6, a7, a8, a9, a10, a11, a12⟩ := ok
  rcases (show k = 0 ∨ k = 1 ∨ k = 2 ∨ k = 3 ∨ k = 4 ∨ k = 5 ∨ k = 6 ∨ k = 7 ∨ k = 8 ∨ k = 9 ∨ k = 10 ∨ k = 11 ∨ k = 12 by omega) with rfl | rfl | rfl | rfl | rfl | rfl | rfl | rfl | rfl | rfl | rfl | rfl | rfl
  · exact ⟨⟨of_decide_eq_true h, a2, a3⟩, ⟨a1, a4⟩, a5, a6, a7, a8, a9, a10, a11, a12⟩
  · exact ⟨⟨a0, a2, a3⟩, ⟨h, a4⟩, a5, a6, a7, a8, a9, a10, a11, a12⟩
  · exact ⟨⟨a0, of_decide_eq_true h, a3⟩, ⟨a1, a4⟩, a5, a6, a7, a8, a9, a10, a11, a12⟩
  · exact ⟨⟨a0, a2, of_decide_eq_true h⟩, ⟨a1, a4⟩, a5, a6, a7, a8, a9, a10, a11, a12⟩
  · exact ⟨⟨a0, a2, a3⟩, ⟨a1, h⟩, a5, a6, a7, a8, a9, a10, a11, a12⟩
  · obtain ⟨q, hq, e⟩ := zn_rangeN (m := 5) (by decide) (of_decide_eq_true h)
    exact ⟨⟨a0, a2, a3⟩, ⟨a1, a4⟩, ⟨q, by omega, e⟩, a6, a7, a8, a9, a10, a11, a12⟩
  · have h2 : v = -1 ∨ v = lN 0 ∨ v = lN 1 := by
      rcases zn_rangeM (m := 1) (by decide) (of_decide_eq_true h) with e | ⟨q, hq, e⟩
      · exact Or.inl e
      · rcases (show q = 0 ∨ q = 1 by omega) with rfl | rfl
        · exact Or.inr (Or.inl e)
        · exact Or.inr (Or.inr e)
    exact ⟨⟨a0, a2, a3⟩, ⟨a1, a4⟩, a5, h2, a7, a8, a9, a10, a11, a12⟩
  · exact ⟨⟨a0, a2, a3⟩, ⟨a1, a4⟩, a5, a6, zn_rangeM (m := 9) (by decide) (of_decide_eq_true h), a8, a9, a10, a11, a12⟩
  · have h2 : v = -1 ∨ ∃ q : Nat, 1 ≤ q ∧ q ≤ 7 ∧ v = lN q := by
      rcases of_decide_eq_true h with e | ⟨e1, e2⟩
      · exact Or.inl e
      · obtain ⟨q, hq, rfl⟩ := zn_rangeN (m := 7) (by decide) ⟨Int64.le_trans (by decide) e1, e2⟩
        exact Or.inr ⟨q, (pk_lLE (a := 1) (by decide) (by omega)).mp e1, hq, rfl⟩
    exact ⟨⟨a0, a2, a3⟩, ⟨a1, a4⟩, a5, a6, a7, h2, a9, a10, a11, a12⟩
  · have h2 : v = 0 ∨ zq_in v = true := by
      rcases Bool.or_eq_true_iff.mp (show (decide (v = 0) || zq_in v) = true from h) with e | e
      · exact Or.inl (of_decide_eq_true e)
      · exact Or.inr e
    exact ⟨⟨a0, a2, a3⟩, ⟨a1, a4⟩, a5, a6, a7, a8, h2, a10, a11, a12⟩
  · have h2 : v = 0 ∨ zq_in v = true := by
      rcases Bool.or_eq_true_iff.mp (show (decide (v = 0) || zq_in v) = true from h) with e | e
      · exact Or.inl (of_decide_eq_true e)
      · exact Or.inr e
    exact ⟨⟨a0, a2, a3⟩, ⟨a1, a4⟩, a5, a6, a7, a8, a9, h2, a11, a12⟩
  · obtain ⟨q, hq, e⟩ := zn_rangeN (m := 2) (by decide) (of_decide_eq_true h)
    exact ⟨⟨a0, a2, a3⟩, ⟨a1, a4⟩, a5, a6, a7, a8, a9, a10, ⟨q, by omega, e⟩, a12⟩
  · obtain ⟨q, hq, e⟩ := zn_rangeN (m := 5) (by decide) (of_decide_eq_true h)
    exact ⟨⟨a0, a2, a3⟩, ⟨a1, a4⟩, a5, a6, a7, a8, a9, a10, a11, ⟨q, by omega, e⟩⟩
section TO
variable {n : Nat} {s : zh_S}
abbrev zq_Pa (a k : Nat) : Prop := a = 3 ∧ k = 3 ∨ a = 4 ∨ a = 5 ∨ a = 6
abbrev zq_Pb (a k : Nat) : Prop := a = 44 ∧ k = 3 ∨ a = 46 ∨ a = 47 ∨ a = 48
theorem zy_tool (h : zq_In n s) {t u : zh_S} {F A B : Nat → Int64} {c : Nat} (f1 : zq_F zq_Pa s t) (f2 : zq_F zq_Pb t u) (h2 : zq_I2 u F A B c) : zq_w t ∧ zq_In n u ∧ zq_Gr s u := by
  obtain ⟨w, ⟨l, h1⟩, -, ⟨nc, nl, h3⟩, h4⟩ := h
  have hb := h3.1
  have wt := f1.w w
  have hN := w.n
  exact ⟨wt, ⟨f2.w wt, ⟨l, (h1.ke w f1.h (fun a k p => by omega)).ke wt f2.h (fun a k p => by omega)⟩, ⟨F, A, B, c, h2⟩, ⟨nc, nl, (h3.ke w f1.h (fun a k p => by omega)).ke wt f2.h (fun a k p => by omega)⟩, (h4.ke w f1.h (by rw [f1.1.1]) (fun a k p => by omega)).ke wt f2.h (by rw [f2.1.1]) (fun a k p => by omega)⟩, zq_F.gr (zq_F.gr zq_Gr.rf f1) f2⟩
theorem zy_set (hn : 300 ≤ n) (h : zq_In n s) (i : Int32) (v : Int64) : ∃ r t u, zf_V_set n s 0 i v = some (r, t) ∧ zq_w t ∧ zf_M_set n t 44 i v = some (r, u) ∧ zq_In n u ∧ zq_Gr s u := by
  have h' := h
  obtain ⟨w, -, ⟨F, A, B, c, ⟨hT, hM, hO⟩, ⟨hV, hVM, ho⟩, hMT⟩, -, -⟩ := h'
  have key : ∀ r t, zf_Tool_accept n s 3 i v = some (r, t) → (r = 0 ∨ r = 1) → zf_V_set n s 0 i v = some (r, t) := by
    intro r t e hr
    rw [zf_V_set]
    exact zv_e (zv_ck ⟨zw_K0 w, zw_N0 w⟩ (zv_p (zw_R0_1 w) (zv_ck ⟨zw_K3 w, zw_N3 w⟩ (zv_b e (zv_ck hr (zv_r rfl))))))
  by_cases hi : ∃ k, k < 13 ∧ i = nI k
  · obtain ⟨k, hk, rfl⟩ := hi
    have ea := zn_allow (n := n) (by omega) hk v
    have em := fun t => zn_mset (n := n) (by omega) hk t v
    cases hA : zq_al k v with
    | false =>
      rw [hA] at ea
      refine ⟨0, s, s, key _ _ ?_ (Or.inl rfl), w, ?_, h, zq_Gr.rf⟩
      · rw [zf_Tool_accept, ea]; rfl
      · rw [em, hA]; rfl
    | true =>
      rw [hA] at ea
      have f1 : zq_F zq_Pa s (zh_uJ s 4 k v) := zq_F.rf.uJ (by omega) _
      have wt := f1.w w
      have f2 : zq_F zq_Pb (zh_uJ s 4 k v) (zh_uJ (zh_uJ s 4 k v) 46 k v) := zq_F.rf.uJ (by omega) _
      obtain ⟨-, hI, hG⟩ := zy_tool (F := zq_upF F k v) (A := A) (B := B) (c := c) h f1 f2 ⟨⟨fun j hj => by
          rw [zs_JJ, if_neg (by omega), zs_JJ]
          unfold zq_upF
          by_cases e : j = k
          · rw [if_pos ⟨rfl, e⟩, if_pos e]
          · rw [if_neg (fun q => e q.2), if_neg e]; exact hT j hj, fun j hj => by
          rw [zs_JJ]
          unfold zq_upF
          by_cases e : j = k
          · rw [if_pos ⟨rfl, e⟩, if_pos e]
          · rw [if_neg (fun q => e q.2), if_neg e, zs_JJ, if_neg (by omega)]; exact hM j hj, zq_ok_up hO hk hA⟩, ⟨⟨hV.1, fun j hj => by rw [zs_JJ, if_neg (by omega), zs_JJ, if_neg (by omega), zs_JJ, if_neg (by omega), zs_JJ, if_neg (by omega)]; exact hV.2 j hj⟩, ⟨hVM.1, fun j hj => by rw [zs_JJ, if_neg (by omega), zs_JJ, if_neg (by omega), zs_JJ, if_neg (by omega), zs_JJ, if_neg (by omega)]; exact hVM.2 j hj⟩, ho⟩, fun j hj => by rw [zs_JJ, if_neg (by omega), zs_JJ, if_neg (by omega), zs_JJ, if_neg (by omega), zs_JJ, if_neg (by omega), zs_JJ, if_neg (by omega), zs_JJ, if_neg (by omega)]; exact hMT j hj⟩
      refine ⟨1, zh_uJ s 4 k v, _, key _ _ ?_ (Or.inr rfl), wt, ?_, hI, hG⟩
      · rw [zf_Tool_accept]
        refine zv_e (zv_p ea (zv_f (by decide) (zv_ck ⟨zw_K3 w, zw_N3 w⟩ (zv_p (zw_R3_0 w) (zv_ck (zw_A4 w hk) (zv_l (zv_r ?_)))))))
        rw [nI_clamp (by omega)]
      · rw [em, hA, if_pos rfl, zb_M_set_201]
        refine zv_e (zv_f (by decide) (zv_ck ⟨zw_K44 wt, zw_N44 wt⟩ (zv_p (zw_R44_2 wt) (zv_ck (zw_A46 wt hk) (zv_l (zv_ck (Or.inr rfl) (zv_r ?_)))))))
        rw [nI_clamp (by omega)]
  · have hne : ∀ k, k < 13 → ¬ i = nI k := fun k hk e => hi ⟨k, hk, e⟩
    refine ⟨0, s, s, key _ _ ?_ (Or.inl rfl), w, ?_, h, zq_Gr.rf⟩
    · rw [zf_Tool_accept, zf_Tool_isAllowed, if_neg (show ¬ i = 0 from hne 0 (by decide)), if_neg (show ¬ i = 1 from hne 1 (by decide)), if_neg (show ¬ i = 2 from hne 2 (by decide)), if_neg (show ¬ i = 3 from hne 3 (by decide)), if_neg (show ¬ i = 4 from hne 4 (by decide)), if_neg (show ¬ i = 5 from hne 5 (by decide)), if_neg (show ¬ i = 6 from hne 6 (by decide)), if_neg (show ¬ i = 7 from hne 7 (by decide)), if_neg (show ¬ i = 8 from hne 8 (by decide)), if_neg (show ¬ i = 9 from hne 9 (by decide)), if_neg (show ¬ i = 10 from hne 10 (by decide)), if_neg (show ¬ i = 11 from hne 11 (by decide)), if_neg (show ¬ i = 12 from hne 12 (by decide))]
      rfl
    · rw [zf_M_set, if_neg (show ¬ i = 0 from hne 0 (by decide)), if_neg (show ¬ i = 1 from hne 1 (by decide)), if_neg (show ¬ i = 2 from hne 2 (by decide)), if_neg (show ¬ i = 3 from hne 3 (by decide)), if_neg (show ¬ i = 4 from hne 4 (by decide)), if_neg (show ¬ i = 5 from hne 5 (by decide)), if_neg (show ¬ i = 6 from hne 6 (by decide)), if_neg (show ¬ i = 7 from hne 7 (by decide)), if_neg (show ¬ i = 8 from hne 8 (by decide)), if_neg (show ¬ i = 9 from hne 9 (by decide)), if_neg (show ¬ i = 10 from hne 10 (by decide)), if_neg (show ¬ i = 11 from hne 11 (by decide)), if_neg (show ¬ i = 12 from hne 12 (by decide))]
theorem zy_forgive (h : zq_In n s) : ∃ t u, zf_V_forgive n s 0 = some t ∧ zq_w t ∧ zf_M_forgive n t 44 = some u ∧ zq_In n u ∧ zq_Gr s u := by
  have h' := h
  obtain ⟨w, -, ⟨F, A, B, c, ⟨hT, hM, hO⟩, ⟨hV, hVM, ho⟩, hMT⟩, -, -⟩ := h'
  have f1 : zq_F zq_Pa s (zh_uI s 3 3 0) := zq_F.rf.uI (by omega) _
  have wt := f1.w w
  have f2 : zq_F zq_Pb (zh_uI s 3 3 0) (zh_uI (zh_uI s 3 3 0) 44 3 0) := zq_F.rf.uI (by omega) _
  obtain ⟨-, hI, hG⟩ := zy_tool (F := F) (A := A) (B := B) (c := 0) h f1 f2 ⟨⟨hT, hM, hO⟩, ⟨⟨by rw [zs_II, if_neg (by omega), zs_II, if_pos ⟨rfl, rfl⟩]; rfl, fun k hk => absurd hk (Nat.not_lt_zero k)⟩, ⟨by rw [zs_II, if_pos ⟨rfl, rfl⟩]; rfl, fun k hk => absurd hk (Nat.not_lt_zero k)⟩, ⟨Nat.zero_le _, fun k hk => absurd hk (Nat.not_lt_zero k)⟩⟩, hMT⟩
  refine ⟨_, _, ?_, wt, ?_, hI, hG⟩
  · rw [zf_V_forgive]
    exact zv_e (zv_ck ⟨zw_K0 w, zw_N0 w⟩ (zv_p (zw_R0_1 w) (zv_ck ⟨zw_K3 w, zw_N3 w⟩ (zv_p (by rw [zf_Tool_dropRevoked, if_pos ⟨zw_K3 w, zw_N3 w⟩]; rfl) (zv_r rfl)))))
  · rw [zf_M_forgive, if_pos ⟨zw_K44 wt, zw_N44 wt⟩]; rfl
theorem zy_revoke (h : zq_In n s) (j1 j3 : Int64) : ∃ r t u, zf_V_revoke n s 0 j1 j3 = some (r, t) ∧ zq_w t ∧ zf_M_revoke n t 44 j1 j3 = some (r, u) ∧ zq_In n u ∧ zq_Gr s u := by
  have h' := h
  obtain ⟨w, -, ⟨F, A, B, c, ⟨hT, hM, hO⟩, ⟨hV, hVM, ho⟩, hMT⟩, -, -⟩ := h'
  have hc := ho.1
  have key : ∀ r t, zf_Tool_addRevoked n s 3 j1 j3 = some (r, t) → (r = 0 ∨ r = 1) → zf_V_revoke n s 0 j1 j3 = some (r, t) := by
    intro r t e hr
    rw [zf_V_revoke]
    exact zv_e (zv_ck ⟨zw_K0 w, zw_N0 w⟩ (zv_p (zw_R0_1 w) (zv_ck ⟨zw_K3 w, zw_N3 w⟩ (zv_b e (zv_ck hr (zv_r rfl))))))
  by_cases n1 : j1 < 0
  · refine ⟨0, s, s, key _ _ ?_ (Or.inl rfl), w, ?_, h, zq_Gr.rf⟩
    · rw [zf_Tool_addRevoked, if_pos ((lg_cmp_lt _ _).mpr n1)]
    · rw [zf_M_revoke, if_pos ((lg_cmp_lt _ _).mpr n1)]
  have m1 : ¬ lg_cmp j1 0 < 0 := fun e => n1 ((lg_cmp_lt _ _).mp e)
  by_cases n3 : j3 < 0
  · refine ⟨0, s, s, key _ _ ?_ (Or.inl rfl), w, ?_, h, zq_Gr.rf⟩
    · rw [zf_Tool_addRevoked, if_neg m1, if_pos ((lg_cmp_lt _ _).mpr n3)]
    · rw [zf_M_revoke, if_neg m1, if_pos ((lg_cmp_lt _ _).mpr n3)]
  have m3 : ¬ lg_cmp j3 0 < 0 := fun e => n3 ((lg_cmp_lt _ _).mp e)
  by_cases h4 : c < 4
  · obtain ⟨t, ht⟩ : ∃ t, t = zh_uI (zh_uJ (zh_uJ s 5 c j1) 6 c j3) 3 3 (nI (c + 1)) := ⟨_, rfl⟩
    have f1 : zq_F zq_Pa s t := by rw [ht]; exact ((zq_F.rf.uJ (by omega) _).uJ (by omega) _).uI (by omega) _
    have wt := f1.w w
    obtain ⟨u, hu⟩ : ∃ u, u = zh_uI (zh_uJ (zh_uJ t 47 c j1) 48 c j3) 44 3 (nI (c + 1)) := ⟨_, rfl⟩
    have f2 : zq_F zq_Pb t u := by rw [hu]; exact ((zq_F.rf.uJ (by omega) _).uJ (by omega) _).uI (by omega) _
    obtain ⟨-, hI, hG⟩ := zy_tool (F := F) (A := zq_upF A c j1) (B := zq_upF B c j3) (c := c + 1) h f1 f2 ⟨⟨fun j hj => by
        rw [hu, zs_JI, zs_JJ, if_neg (by omega), zs_JJ, if_neg (by omega), ht, zs_JI, zs_JJ, if_neg (by omega), zs_JJ, if_neg (by omega)]; exact hT j hj, fun j hj => by
        rw [hu, zs_JI, zs_JJ, if_neg (by omega), zs_JJ, if_neg (by omega), ht, zs_JI, zs_JJ, if_neg (by omega), zs_JJ, if_neg (by omega)]; exact hM j hj, hO⟩, ⟨⟨by rw [hu, zs_II, if_neg (by omega), zs_IJ, zs_IJ, ht, zs_II, if_pos ⟨rfl, rfl⟩], fun j hj => by
          rw [hu, zs_JI, zs_JJ, if_neg (by omega), zs_JJ, if_neg (by omega), zs_JJ, if_neg (by omega), zs_JJ, if_neg (by omega), ht, zs_JI, zs_JJ, if_neg (by omega)]
          unfold zq_upF
          by_cases e : j = c
          · subst e; simp [zs_JJ]
          · have := hV.2 j (by omega)
            simp [zs_JJ, e, this]⟩, ⟨by rw [hu, zs_II, if_pos ⟨rfl, rfl⟩], fun j hj => by
          rw [hu, zs_JI]
          unfold zq_upF
          by_cases e : j = c
          · subst e; simp [zs_JJ]
          · have := hVM.2 j (by omega)
            simp [zs_JJ, e, ht, zs_JI, this]⟩, ⟨by omega, fun j hj => by
          unfold zq_upF
          by_cases e : j = c
          · rw [if_pos e, if_pos e]; exact ⟨n1, n3⟩
          · rw [if_neg e, if_neg e]; exact ho.2 j (by omega)⟩⟩, fun j hj => by
        have := hMT j hj
        simp [hu, ht, zs_JI, zs_JJ, this]⟩
    have g1 : zq_w (zh_uJ s 5 c j1) := (zq_F.rf.uJ (P := zq_Pa) (by omega) _ : zq_F zq_Pa s _).w w
    have g2 : zq_w (zh_uJ (zh_uJ s 5 c j1) 6 c j3) := ((zq_F.rf.uJ (P := zq_Pa) (by omega) _).uJ (by omega) _ : zq_F zq_Pa s _).w w
    have g3 : zq_w (zh_uJ t 47 c j1) := (zq_F.rf.uJ (P := zq_Pb) (by omega) _ : zq_F zq_Pb t _).w wt
    have g4 : zq_w (zh_uJ (zh_uJ t 47 c j1) 48 c j3) := ((zq_F.rf.uJ (P := zq_Pb) (by omega) _).uJ (by omega) _ : zq_F zq_Pb t _).w wt
    have i3 : zh_I s 3 3 = nI c := hV.1
    have i44 : zh_I t 44 3 = nI c := by rw [(f1.2 44 3 (by omega)).1]; exact hVM.1
    refine ⟨1, t, u, key _ _ ?_ (Or.inr rfl), wt, ?_, hI, hG⟩
    · rw [zf_Tool_addRevoked, i3]
      refine zv_e (zv_f m1 (zv_f m3 (zv_ck ⟨zw_K3 w, zw_N3 w⟩ (zv_t (nI_lt (b := 4) h4 (by decide)) (zv_p (zw_R3_1 w) (zv_ck (zw_A5 w h4) (zv_l ?_)))))))
      rw [nI_clamp (by omega)]
      refine zv_ck ⟨zw_K3 g1, zw_N3 g1⟩ (zv_p (zw_R3_2 g1) (zv_ck (by rw [zs_IJ, i3]; exact zw_A6 g1 h4) (zv_l ?_)))
      rw [zs_IJ, i3, nI_clamp (by omega)]
      refine zv_ck ⟨zw_K3 g2, zw_N3 g2⟩ (zv_l (zv_r ?_))
      rw [zs_IJ, zs_IJ, i3, zi_1, nI_add, ht]
    · rw [zf_M_revoke, i44]
      refine zv_e (zv_f m1 (zv_f m3 (zv_ck ⟨zw_K44 wt, zw_N44 wt⟩ (zv_f (by rw [zi_4, nI_eq (by omega) (by decide)]; omega) (zv_p (zw_R44_4 wt) (zv_ck (zw_A47 wt h4) (zv_l ?_)))))))
      rw [nI_clamp (by omega)]
      refine zv_ck ⟨zw_K44 g3, zw_N44 g3⟩ (zv_p (zw_R44_5 g3) (zv_ck (by rw [zs_IJ, i44]; exact zw_A48 g3 h4) (zv_l ?_)))
      rw [zs_IJ, i44, nI_clamp (by omega)]
      refine zv_ck ⟨zw_K44 g4, zw_N44 g4⟩ (zv_l (zv_r ?_))
      rw [zs_IJ, zs_IJ, i44, zi_1, nI_add, hu]
  · have c4 : c = 4 := by omega
    subst c4
    refine ⟨0, s, s, key _ _ ?_ (Or.inl rfl), w, ?_, h, zq_Gr.rf⟩
    · rw [zf_Tool_addRevoked]
      exact zv_e (zv_f m1 (zv_f m3 (zv_ck ⟨zw_K3 w, zw_N3 w⟩ (zv_f (by rw [hV.1]; decide) (zv_r rfl)))))
    · rw [zf_M_revoke]
      exact zv_e (zv_f m1 (zv_f m3 (zv_ck ⟨zw_K44 w, zw_N44 w⟩ (zv_t hVM.1 (zv_r rfl)))))
theorem zy_sign (hn : 300 ≤ n) (h : zq_In n s) (i k : Int32) : ∃ r, zf_V_sign n 0 i k = some r ∧ zf_M_sign n s 44 i k = some r := by
  obtain ⟨w, -, ⟨F, A, B, c, -, -, hMT⟩, -, -⟩ := h
  have e0 := zi_ltl i 0 (by decide)
  have e5 := zi_ltl i 5 (by decide)
  by_cases i0 : i < 0
  · refine ⟨-1, ?_, ?_⟩
    · rw [zf_V_sign]
      exact zv_e (zv_p (zn_isKey n _) (zv_t (if_neg (fun h => absurd (e0.2.1.mp h.1) (Int32.not_le.mpr i0))) (zv_r rfl)))
    · rw [zf_M_sign, if_pos i0]
  by_cases i5 : i ≤ 5
  · obtain ⟨q, hq, rfl⟩ := zi_of i0
    have hq6 : q < 6 := by
      rw [zi_5, nI_leI hq (by decide)] at i5; omega
    obtain ⟨v, hv, ev, eg, -⟩ := zn_signature (n := n) (by omega) hq6 k
    refine ⟨zq_sg n q k, ?_, zp_msign hn w hMT hq6 k⟩
    rw [zf_V_sign]
    exact zv_e (zv_p (zn_isKey n _) (zv_f (by rw [if_pos ⟨e0.2.1.mpr (Int32.not_lt.mp i0), e5.2.2.2.mpr i5⟩]; decide) (zv_p ev (zv_r eg.symm))))
  · refine ⟨-1, ?_, ?_⟩
    · rw [zf_V_sign]
      exact zv_e (zv_p (zn_isKey n _) (zv_t (if_neg (fun h => i5 (e5.2.2.2.mp h.2))) (zv_r rfl)))
    · rw [zf_M_sign, if_neg i0, if_neg i5]
end TO
