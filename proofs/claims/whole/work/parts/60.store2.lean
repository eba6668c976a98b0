/-! store: both. -/
section S2
variable {n : Nat} {s : zh_S} {l : List Nat}
/-- the class stores a certificate -/
theorem zp_vstC (hn : 300 ≤ n) {nc nl : Nat} {an : Bool} {i1 : Int32} (hi : i1 = if an then 0 else 1) (w : zq_w s) (d : zq_dV s l) (h3 : zq_St n s nc nl) (hc : nc < 12) : ∃ y, zq_yC s nc l y ∧ zq_w y.2 ∧ ((¬ zq_gd_ (zq_rc l).1 ∧ zf_V_store n s 0 i1 = some (-2, y.2)) ∨ (zq_gd_ (zq_rc l).1 ∧ ∃ t, zf_V_store n s 0 i1 = some (nI nc, t) ∧ zh_I t 7 2 = nI (nc + 1) ∧ zh_I t (10 + nc) 18 = zq_bi an ∧ (∀ j, j < 7 → zq_sb n t (23 + 3 * j) (fun d => d < nc + 1 ∧ j < nl)) ∧ (∀ c, c < 13 → zq_sb n t (10 + c) (fun d => d < nc + 1 ∧ c < nc + 1 ∧ d ≠ c)) ∧ zq_F (fun a k => zq_Pg a k ∨ a = 10 + nc ∧ k = 18 ∨ a = 7 ∧ k = 2) y.2 t)) := by
  obtain ⟨v, y, e1, wv, o1, x1, r1, wy, hy⟩ := zp_coreC hn w d h3.2.1.1 (by omega)
  have w0 := zw_new0 w
  have hbd := h3.1
  have i2 : ¬ i1 = 2 := by rw [hi]; cases an <;> decide
  have head : zf_V_store n s 0 i1 = zb_V_store_70 n s 0 i1 1 := by
    rw [zf_V_store, if_neg i2, zb_V_store_56]
    cases an with
    | true => rw [if_pos (show i1 = 0 from hi)]; rfl
    | false => rw [if_neg (by rw [hi]; decide), if_pos (show i1 = 1 from hi)]; rfl
  have h12 : ¬ (12 : Int32) ≤ zh_I s 7 2 := by rw [h3.2.1.1]; exact nI_ge (b := 12) hc (by decide)
  refine ⟨y, hy, wy, ?_⟩
  obtain ⟨a1, a2, a3, k1, q1, n1, m1⟩ := hy
  rw [head]
  by_cases g : zq_gd_ (zq_rc l).1
  · right
    refine ⟨g, zv_x ?_⟩
    have hs := h3.ke w k1 (fun a k p => by omega)
    obtain ⟨t, e2, b1, b2, b3, b4, k2⟩ := zp_keepC hn (an := an) hc h3.1.2 wy hs.2.1.2.2.1 hs.2.1.1 hs.2.2.2.2.2 hs.2.2.2.2.1
    have e126 : zb_V_store_126 n y.2 7 (zq_bi an) = some (nI nc, t) := by
      rw [zb_V_store_126, if_pos ⟨zw_K7 wy, zw_N7 wy⟩, e2]; rfl
    rw [zb_V_store_70]
    refine zv_f (by decide) (zv_ck ⟨zw_K0 w, zw_N0 w⟩ (zv_p (zw_R0_2 w) (zv_ck ⟨zw_K7 w, zw_N7 w⟩ (zv_f h12 (zv_l (zv_l (zv_ck ⟨zw_K0 w0, zw_N0 w0⟩ (zv_p (zw_R0_0 w0) (zv_p e1 (zv_ck ⟨zw_K0 wv, zw_N0 wv⟩ (zv_p (zw_R0_2 wv) (zv_ck ⟨zw_K7 wv, zw_N7 wv⟩ (zv_p x1 (zv_ck o1 (zv_b (a := y.1) (b := y.2) r1 (zv_t (a2.mpr g) (zv_ck ⟨zw_K0 wy, zw_N0 wy⟩ (zv_p (zw_R0_2 wy) ?_))))))))))))))))))
    refine ⟨(nI nc, t), ?_, rfl, b1, b2, b3, b4, k2⟩
    cases an with
    | true => rw [if_pos (show i1 = 0 from hi)]; exact e126
    | false => rw [if_neg (by rw [hi]; decide)]; exact e126
  · left
    refine ⟨g, ?_⟩
    have key : ∃ x, zb_V_store_70 n s 0 i1 1 = some x ∧ x = (-2, y.2) := by
      rw [zb_V_store_70]
      exact zv_f (by decide) (zv_ck ⟨zw_K0 w, zw_N0 w⟩ (zv_p (zw_R0_2 w) (zv_ck ⟨zw_K7 w, zw_N7 w⟩ (zv_f h12 (zv_l (zv_l (zv_ck ⟨zw_K0 w0, zw_N0 w0⟩ (zv_p (zw_R0_0 w0) (zv_p e1 (zv_ck ⟨zw_K0 wv, zw_N0 wv⟩ (zv_p (zw_R0_2 wv) (zv_ck ⟨zw_K7 wv, zw_N7 wv⟩ (zv_p x1 (zv_ck o1 (zv_b (a := y.1) (b := y.2) r1 (zv_f (fun e => g (a2.mp e)) (zv_r rfl)))))))))))))))))
    obtain ⟨x, hx, rfl⟩ := key
    exact hx
/-- the class stores a list -/
theorem zp_vstL (hn : 300 ≤ n) {nc nl : Nat} (w : zq_w s) (d : zq_dV s l) (h3 : zq_St n s nc nl) (hl : nl < 6) : ∃ y, zq_yL s nl l y ∧ zq_w y.2 ∧ ((¬ zq_gd_ (zq_rl l).1 ∧ zf_V_store n s 0 2 = some (-2, y.2)) ∨ (zq_gd_ (zq_rl l).1 ∧ ∃ t, zf_V_store n s 0 2 = some (nI nl, t) ∧ zh_I t 7 3 = nI (nl + 1) ∧ (∀ j, j < 7 → zq_sb n t (23 + 3 * j) (fun d => d < nc ∧ j < nl + 1)) ∧ (∀ c, c < 13 → zq_sb n t (10 + c) (fun d => d < nc ∧ c < nc ∧ d ≠ c)) ∧ zq_F (fun a k => zq_Pg a k ∨ a = 7 ∧ k = 3) y.2 t)) := by
  obtain ⟨v, y, e1, wv, o1, x1, r1, wy, hy⟩ := zp_coreL hn w d h3.2.1.2.2.1 (by omega)
  have w0 := zw_new0 w
  have hbd := h3.1
  have h6 : ¬ (6 : Int32) ≤ zh_I s 7 3 := by rw [h3.2.1.2.2.1]; exact nI_ge (b := 6) hl (by decide)
  refine ⟨y, hy, wy, ?_⟩
  obtain ⟨a1, a2, a3, k1, q1, n1, m1⟩ := hy
  by_cases g : zq_gd_ (zq_rl l).1
  · right
    refine ⟨g, zv_x ?_⟩
    have hs := h3.ke w k1 (fun a k p => by omega)
    obtain ⟨t, e2, b1, b3, b4, k2⟩ := zp_keepL hn h3.1.1 hl wy hs.2.1.2.2.1 hs.2.1.1 hs.2.2.2.2.2 hs.2.2.2.2.1
    rw [zf_V_store]
    exact zv_t rfl (zv_ck ⟨zw_K0 w, zw_N0 w⟩ (zv_p (zw_R0_2 w) (zv_ck ⟨zw_K7 w, zw_N7 w⟩ (zv_f h6 (zv_l (zv_l (zv_ck ⟨zw_K0 w0, zw_N0 w0⟩ (zv_p (zw_R0_0 w0) (zv_p e1 (zv_ck ⟨zw_K0 wv, zw_N0 wv⟩ (zv_p (zw_R0_2 wv) (zv_ck ⟨zw_K7 wv, zw_N7 wv⟩ (zv_p x1 (zv_ck o1 (zv_b (a := y.1) (b := y.2) r1 (zv_t (a2.mpr g) (zv_ck ⟨zw_K0 wy, zw_N0 wy⟩ (zv_p (zw_R0_2 wy) (zv_ck ⟨zw_K7 wy, zw_N7 wy⟩ (zv_b e2 (zv_r ⟨rfl, b1, b3, b4, k2⟩)))))))))))))))))))))
  · left
    refine ⟨g, ?_⟩
    have key : ∃ x, zf_V_store n s 0 2 = some x ∧ x = (-2, y.2) := by
      rw [zf_V_store]
      exact zv_t rfl (zv_ck ⟨zw_K0 w, zw_N0 w⟩ (zv_p (zw_R0_2 w) (zv_ck ⟨zw_K7 w, zw_N7 w⟩ (zv_f h6 (zv_l (zv_l (zv_ck ⟨zw_K0 w0, zw_N0 w0⟩ (zv_p (zw_R0_0 w0) (zv_p e1 (zv_ck ⟨zw_K0 wv, zw_N0 wv⟩ (zv_p (zw_R0_2 wv) (zv_ck ⟨zw_K7 wv, zw_N7 wv⟩ (zv_p x1 (zv_ck o1 (zv_b (a := y.1) (b := y.2) r1 (zv_f (fun e => g (a2.mp e)) (zv_r rfl)))))))))))))))))
    obtain ⟨x, hx, rfl⟩ := key
    exact hx
/-- the reference stores a certificate -/
theorem zp_mstC (hn : 300 ≤ n) {nc : Nat} {an : Bool} {i1 : Int32} (hi : i1 = if an then 0 else 1) (w : zq_w s) (d : zq_dM s l) (h15 : zh_I s 44 15 = nI nc) (hc : nc < 12) (hg : zq_an (zq_rc l).1 = 0 ↔ zq_gd_ (zq_rc l).1) : ∃ t1, (zq_gd_ (zq_rc l).1 → zq_CM t1 (zq_rc l).2) ∧ zq_F zq_PU s t1 ∧ ((¬ zq_gd_ (zq_rc l).1 ∧ zf_M_store n s 44 i1 = some (-2, t1)) ∨ (zq_gd_ (zq_rc l).1 ∧ ∃ u, zf_M_store n s 44 i1 = some (nI nc, u) ∧ zh_I u 44 15 = nI (nc + 1) ∧ (∀ j, j < 14 → zh_J u 55 (15 * nc + j) = zh_J t1 52 j) ∧ (zh_J u 55 (15 * nc + 14) = zh_J t1 52 14 ||| (if an then 1 else 0)) ∧ zq_F (zq_Pc nc) t1 u)) := by
  obtain ⟨t1, e1, a1, k1⟩ := zp_mchkC hn w d
  have wt := k1.w w
  refine ⟨t1, a1, k1, ?_⟩
  have head : zf_M_store n s 44 i1 = zb_M_store_48 n s 44 i1 44 1 := by
    have h12 : ¬ zh_I s 44 15 = (12 : Int32) := by rw [h15, zi_12, nI_eq (by omega) (by decide)]; omega
    rw [zf_M_store]
    cases an with
    | true =>
      have hi : i1 = 0 := hi
      rw [hi, if_neg (by decide), if_neg (by decide), if_neg (by decide), if_pos ⟨zw_K44 w, zw_N44 w⟩, if_neg h12, zb_M_store_37, if_neg (by decide)]
    | false =>
      have hi : i1 = 1 := hi
      rw [hi, if_neg (by decide), if_neg (by decide), if_neg (by decide), if_pos ⟨zw_K44 w, zw_N44 w⟩, if_neg h12, zb_M_store_37, if_neg (by decide)]
  rw [head]
  by_cases g : zq_gd_ (zq_rc l).1
  · right
    refine ⟨g, zv_x ?_⟩
    obtain ⟨x, e2, b1, b2, b3, b4, k2⟩ := zp_mst (n := n) hc i1 15 n 0 t1 wt (by omega) (by omega) (by omega) (by rw [(k1.2 44 15 (by omega)).1]; exact h15) (fun j hj => absurd hj (Nat.not_lt_zero j))
    rw [zb_M_store_48]
    refine zv_ck ⟨zw_K44 w, zw_N44 w⟩ (zv_b e1 (zv_t (hg.mpr g) (zv_f (by rw [hi]; cases an <;> decide) ⟨x, e2, b1, b2, b3, ?_, k2⟩)))
    rw [b4]
    cases an with
    | true => rw [if_pos (show i1 = 0 from hi)]; rfl
    | false => rw [if_neg (by rw [hi]; decide)]; rfl
  · left
    refine ⟨g, ?_⟩
    have key : ∃ x, zb_M_store_48 n s 44 i1 44 1 = some x ∧ x = (-2, t1) := by
      rw [zb_M_store_48]
      exact zv_ck ⟨zw_K44 w, zw_N44 w⟩ (zv_b e1 (zv_f (fun e => g (hg.mp e)) (zv_r rfl)))
    obtain ⟨x, hx, rfl⟩ := key
    exact hx
theorem zp_mstL (hn : 300 ≤ n) {nl : Nat} (w : zq_w s) (d : zq_dM s l) (h17 : zh_I s 44 17 = nI nl) (hl : nl < 6) (hg : zq_an (zq_rl l).1 = 0 ↔ zq_gd_ (zq_rl l).1) : ∃ t1, (zq_gd_ (zq_rl l).1 → zq_RM t1 (zq_rl l).2) ∧ zq_F zq_PW s t1 ∧ ((¬ zq_gd_ (zq_rl l).1 ∧ zf_M_store n s 44 2 = some (-2, t1)) ∨ (zq_gd_ (zq_rl l).1 ∧ ∃ u, zf_M_store n s 44 2 = some (nI nl, u) ∧ zh_I u 44 17 = nI (nl + 1) ∧ (zh_J u 56 (6 * nl) = zh_J t1 52 1 ∧ zh_J u 56 (6 * nl + 1) = zh_J t1 52 2 ∧ zh_J u 56 (6 * nl + 2) = zh_J t1 52 3 ∧ zh_J u 56 (6 * nl + 3) = (nI (zq_rl l).2.2.1.1).toInt64 ∧ zh_J u 56 (6 * nl + 4) = zh_J t1 52 7 ∧ zh_J u 56 (6 * nl + 5) = zh_J t1 52 8) ∧ (∀ j, j < (zq_rl l).2.2.1.1 → zh_J u 57 (4 * nl + j) = zh_J t1 53 j ∧ zh_J u 58 (4 * nl + j) = zh_J t1 54 j) ∧ zq_F (zq_Pl nl) t1 u)) := by
  obtain ⟨t1, e1, a1, k1⟩ := zp_mchkL hn w d
  have wt := k1.w w
  refine ⟨t1, a1, k1, ?_⟩
  have head : zf_M_store n s 44 2 = zb_M_store_48 n s 44 2 44 0 := by
    have h6 : ¬ zh_I s 44 17 = (6 : Int32) := by rw [h17, zi_6, nI_eq (by omega) (by decide)]; omega
    rw [zf_M_store, if_neg (by decide), if_neg (by decide), if_pos rfl, if_pos ⟨zw_K44 w, zw_N44 w⟩, if_neg h6, zb_M_store_37, if_pos (by decide)]
  rw [head]
  by_cases g : zq_gd_ (zq_rl l).1
  · right
    refine ⟨g, zv_x ?_⟩
    obtain ⟨x, e2, b1, b2, b3, b4, k2⟩ := zp_mstoreL (n := n) hn hl (zq_rl_len l) wt (a1 g).2.2.1 (by rw [(k1.2 44 17 (by omega)).1]; exact h17)
    rw [zb_M_store_48]
    exact zv_ck ⟨zw_K44 w, zw_N44 w⟩ (zv_b e1 (zv_t (hg.mpr g) (zv_t rfl (zv_ck ⟨zw_K44 wt, zw_N44 wt⟩ (zv_b (a := x.1) (b := x.2) e2 (zv_r ⟨b1, b2, b3, b4, k2⟩))))))
  · left
    refine ⟨g, ?_⟩
    have key : ∃ x, zb_M_store_48 n s 44 2 44 0 = some x ∧ x = (-2, t1) := by
      rw [zb_M_store_48]
      exact zv_ck ⟨zw_K44 w, zw_N44 w⟩ (zv_b e1 (zv_f (fun e => g (hg.mp e)) (zv_r rfl)))
    obtain ⟨x, hx, rfl⟩ := key
    exact hx
end S2
