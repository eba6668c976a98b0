/-! store keeps the invariant. -/
theorem zi_three {i : Int32} (h0 : ¬ i < 0) (h2 : ¬ (2 : Int32) < i) : i = 0 ∨ i = 1 ∨ i = 2 := by
  rw [Int32.lt_iff_toInt_lt] at h0 h2
  have e0 : (0 : Int32).toInt = 0 := rfl
  have e2 : (2 : Int32).toInt = 2 := rfl
  rw [e0] at h0
  rw [e2] at h2
  rcases (show i.toInt = 0 ∨ i.toInt = 1 ∨ i.toInt = 2 by omega) with h | h | h
  · exact Or.inl (Int32.toInt_inj.mp h)
  · exact Or.inr (Or.inl (Int32.toInt_inj.mp h))
  · exact Or.inr (Or.inr (Int32.toInt_inj.mp h))
section S3
variable {n : Nat} {s : zh_S}
theorem zy_storeC (hn : 300 ≤ n) (h : zq_In n s) (an : Bool) {i1 : Int32} (hi : i1 = if an then 0 else 1) : ∃ r t u, zf_V_store n s 0 i1 = some (r, t) ∧ zq_w t ∧ zf_M_store n t 44 i1 = some (r, u) ∧ zq_In n u ∧ zq_Gr s u := by
  obtain ⟨w, ⟨l, h1⟩, ⟨F, A, B, c, h2⟩, ⟨nc, nl, h3⟩, h4⟩ := h
  have hb := h3.1
  have hN := w.n
  by_cases hc : nc < 12
  · obtain ⟨y, ⟨a1, a2, a3, k1, q1, n1, m1⟩, wy, hy⟩ := zp_vstC hn hi w h1.1 h3 hc
    have g1 := h1.ke w k1 (fun a k p => by omega)
    have g2 := h2.ke w k1 (fun a k p => by omega)
    have g3 := h3.ke w k1 (fun a k p => by omega)
    have g4 := h4.ke w k1 q1 (fun a k p => by omega)
    have gr : zq_Gr s y.2 := ⟨by omega, by omega⟩
    rcases hy with ⟨ng, e1⟩ | ⟨g, t, e1, b1, b2, b3, b4, k2⟩
    · obtain ⟨t1, -, k3, hm⟩ := zp_mstC hn hi wy g1.2 g3.2.1.2.1 hc (by rw [← a1]; exact a2)
      rcases hm with ⟨-, e2⟩ | ⟨g, -⟩
      · exact ⟨-2, y.2, t1, e1, wy, e2, ⟨k3.w wy, ⟨l, g1.ke wy k3.h (fun a k p => by omega)⟩, ⟨F, A, B, c, g2.ke wy k3.h (fun a k p => by omega)⟩, ⟨nc, nl, g3.ke wy k3.h (fun a k p => by omega)⟩, g4.ke wy k3.h (by rw [k3.1.1]) (fun a k p => by omega)⟩, zq_F.gr gr k3⟩
      · exact absurd g ng
    · have wt := k2.w wy
      have j1 := g1.ke wy k2.h (fun a k p => by omega)
      obtain ⟨t1, cm, k3, hm⟩ := zp_mstC hn hi wt j1.2 (by rw [(k2.2 44 15 (by omega)).1]; exact g3.2.1.2.1) hc (by rw [← a1]; exact a2)
      rcases hm with ⟨ng, -⟩ | ⟨-, u, e2, c1, c2, c3, k4⟩
      · exact absurd g ng
      · have hbt := h1.1.2.2.1
        have f34 : zq_F (fun a _ => 44 ≤ a) t u := (k3.mo (fun a k p => by omega)).tr (k4.mo (fun a k p => by omega))
        have w1 := k3.w wt
        refine ⟨nI nc, t, u, e1, wt, e2, ⟨f34.w wt, ⟨l, ?_⟩, ⟨F, A, B, c, ?_⟩, ⟨nc + 1, nl, ⟨by omega, hb.2⟩, ⟨?_, c1, ?_, ?_⟩, fun c' hc' => ?_, fun i hi' => ?_, fun c' hc' => ?_, fun i hi' => ?_⟩, ?_⟩, ?_⟩
        · exact (j1.ke wt k3.h (fun a k p => by omega)).ke w1 k4.h (fun a k p => by omega)
        · exact ((g2.ke wy k2.h (fun a k p => by omega)).ke wt k3.h (fun a k p => by omega)).ke w1 k4.h (fun a k p => by omega)
        · rw [(f34.2 7 2 (by omega)).1]; exact b1
        · rw [(f34.2 7 3 (by omega)).1, (k2.2 7 3 (by omega)).1]; exact g3.2.1.2.2.1
        · rw [(k4.2 44 17 (by omega)).1, (k3.2 44 17 (by omega)).1, (k2.2 44 17 (by omega)).1]; exact g3.2.1.2.2.2
        · by_cases hcn : c' = nc
          · subst hcn
            exact zq_ce_new hbt hc g (a3 g) k2 b2 k3 (cm g) k4 c2 c3
          · exact (g3.2.2.1 c' (by omega)).ke (fun k hk => by rw [(k4.2 55 (15 * c' + k) (by omega)).2, (k3.2 55 (15 * c' + k) (by omega)).2, (k2.2 55 (15 * c' + k) (by omega)).2]) (fun k h5 => by
              rw [(f34.2 (10 + c') k (by omega)).1, (f34.2 (10 + c') k (by omega)).2]
              exact k2.2 (10 + c') k (by omega))
        · exact (g3.2.2.2.1 i hi').ke (fun k hk => by rw [(k4.2 56 (6 * i + k) (by omega)).2, (k3.2 56 (6 * i + k) (by omega)).2, (k2.2 56 (6 * i + k) (by omega)).2]) (fun k hk => ⟨by rw [(k4.2 57 (4 * i + k) (by omega)).2, (k3.2 57 (4 * i + k) (by omega)).2, (k2.2 57 (4 * i + k) (by omega)).2], by rw [(k4.2 58 (4 * i + k) (by omega)).2, (k3.2 58 (4 * i + k) (by omega)).2, (k2.2 58 (4 * i + k) (by omega)).2]⟩) (fun a k h5 ha1 ha2 => by
            rw [(f34.2 a k (by omega)).1, (f34.2 a k (by omega)).2]
            exact k2.2 a k (by omega))
        · exact zq_sb_H (b4 c' hc') (by omega) (fun d hd => by omega) f34
        · exact zq_sb_H (b3 i hi') (by omega) (fun d hd => by omega) f34
        · have x1 := g4.ke wy k2.h (by rw [k2.1.1]) (fun a k p => by omega)
          have n2 := k2.1.2.2.1
          have n3 := k3.1.2.2.1
          exact (x1.ke wt k3.h (by rw [k3.1.1]) (fun a k p => by omega)).ke w1 k4.h (by rw [k4.1.1]) (fun a k p => by omega)
        · exact zq_F.gr (zq_F.gr (zq_F.gr gr k2) k3) k4
  · have hc12 : nc = 12 := by omega
    subst hc12
    have e1 : zf_V_store n s 0 i1 = some (-1, s) := by
      have i2 : ¬ i1 = 2 := by rw [hi]; cases an <;> decide
      have e70 : zb_V_store_70 n s 0 i1 1 = some (-1, s) := by
        rw [zb_V_store_70, if_neg (by decide), if_pos ⟨zw_K0 w, zw_N0 w⟩, zw_R0_2 w]
        show (if zh_oo s 7 5 then (if (12 : Int32) ≤ zh_I s 7 2 then _ else _) else none) = _
        rw [if_pos ⟨zw_K7 w, zw_N7 w⟩, if_pos (by rw [h3.2.1.1]; decide)]
      rw [zf_V_store, if_neg i2, zb_V_store_56]
      cases an with
      | true => rw [if_pos (show i1 = 0 from hi)]; exact e70
      | false => rw [if_neg (by rw [hi]; decide), if_pos (show i1 = 1 from hi)]; exact e70
    have e2 : zf_M_store n s 44 i1 = some (-1, s) := by
      have h12 : zh_I s 44 15 = (12 : Int32) := h3.2.1.2.1
      rw [zf_M_store]
      cases an with
      | true =>
        have hi : i1 = 0 := hi
        rw [hi, if_neg (by decide), if_neg (by decide), if_neg (by decide), if_pos ⟨zw_K44 w, zw_N44 w⟩, if_pos h12]
      | false =>
        have hi : i1 = 1 := hi
        rw [hi, if_neg (by decide), if_neg (by decide), if_neg (by decide), if_pos ⟨zw_K44 w, zw_N44 w⟩, if_pos h12]
    exact ⟨-1, s, s, e1, w, e2, ⟨w, ⟨l, h1⟩, ⟨F, A, B, c, h2⟩, ⟨12, nl, h3⟩, h4⟩, zq_Gr.rf⟩
theorem zy_storeL (hn : 300 ≤ n) (h : zq_In n s) : ∃ r t u, zf_V_store n s 0 2 = some (r, t) ∧ zq_w t ∧ zf_M_store n t 44 2 = some (r, u) ∧ zq_In n u ∧ zq_Gr s u := by
  obtain ⟨w, ⟨l, h1⟩, ⟨F, A, B, c, h2⟩, ⟨nc, nl, h3⟩, h4⟩ := h
  have hb := h3.1
  have hN := w.n
  by_cases hl : nl < 6
  · obtain ⟨y, ⟨a1, a2, a3, k1, q1, n1, m1⟩, wy, hy⟩ := zp_vstL hn w h1.1 h3 hl
    have g1 := h1.ke w k1 (fun a k p => by omega)
    have g2 := h2.ke w k1 (fun a k p => by omega)
    have g3 := h3.ke w k1 (fun a k p => by omega)
    have g4 := h4.ke w k1 q1 (fun a k p => by omega)
    have gr : zq_Gr s y.2 := ⟨by omega, by omega⟩
    rcases hy with ⟨ng, e1⟩ | ⟨g, t, e1, b1, b3, b4, k2⟩
    · obtain ⟨t1, -, k3, hm⟩ := zp_mstL hn wy g1.2 g3.2.1.2.2.2 hl (by rw [← a1]; exact a2)
      rcases hm with ⟨-, e2⟩ | ⟨g, -⟩
      · exact ⟨-2, y.2, t1, e1, wy, e2, ⟨k3.w wy, ⟨l, g1.ke wy k3.h (fun a k p => by omega)⟩, ⟨F, A, B, c, g2.ke wy k3.h (fun a k p => by omega)⟩, ⟨nc, nl, g3.ke wy k3.h (fun a k p => by omega)⟩, g4.ke wy k3.h (by rw [k3.1.1]) (fun a k p => by omega)⟩, zq_F.gr gr k3⟩
      · exact absurd g ng
    · have wt := k2.w wy
      have j1 := g1.ke wy k2.h (fun a k p => by omega)
      obtain ⟨t1, cm, k3, hm⟩ := zp_mstL hn wt j1.2 (by rw [(k2.2 44 17 (by omega)).1]; exact g3.2.1.2.2.2) hl (by rw [← a1]; exact a2)
      rcases hm with ⟨ng, -⟩ | ⟨-, u, e2, c1, c2, c3, k4⟩
      · exact absurd g ng
      · have f34 : zq_F (fun a _ => 44 ≤ a) t u := (k3.mo (fun a k p => by omega)).tr (k4.mo (fun a k p => by omega))
        have w1 := k3.w wt
        refine ⟨nI nl, t, u, e1, wt, e2, ⟨f34.w wt, ⟨l, ?_⟩, ⟨F, A, B, c, ?_⟩, ⟨nc, nl + 1, ⟨hb.1, by omega⟩, ⟨?_, ?_, ?_, c1⟩, fun c' hc' => ?_, fun i hi' => ?_, fun c' hc' => ?_, fun i hi' => ?_⟩, ?_⟩, ?_⟩
        · exact (j1.ke wt k3.h (fun a k p => by omega)).ke w1 k4.h (fun a k p => by omega)
        · exact ((g2.ke wy k2.h (fun a k p => by omega)).ke wt k3.h (fun a k p => by omega)).ke w1 k4.h (fun a k p => by omega)
        · rw [(f34.2 7 2 (by omega)).1, (k2.2 7 2 (by omega)).1]; exact g3.2.1.1
        · rw [(k4.2 44 15 (by omega)).1, (k3.2 44 15 (by omega)).1, (k2.2 44 15 (by omega)).1]; exact g3.2.1.2.1
        · rw [(f34.2 7 3 (by omega)).1]; exact b1
        · exact (g3.2.2.1 c' hc').ke (fun k hk => by rw [(k4.2 55 (15 * c' + k) (by omega)).2, (k3.2 55 (15 * c' + k) (by omega)).2, (k2.2 55 (15 * c' + k) (by omega)).2]) (fun k h5 => by
              rw [(f34.2 (10 + c') k (by omega)).1, (f34.2 (10 + c') k (by omega)).2]
              exact k2.2 (10 + c') k (by omega))
        · by_cases hin : i = nl
          · subst hin
            exact zq_li_new hl (a3 g) k2 k3 (cm g) k4 c2 c3
          · exact (g3.2.2.2.1 i (by omega)).ke (fun k hk => by rw [(k4.2 56 (6 * i + k) (by omega)).2, (k3.2 56 (6 * i + k) (by omega)).2, (k2.2 56 (6 * i + k) (by omega)).2]) (fun k hk => ⟨by rw [(k4.2 57 (4 * i + k) (by omega)).2, (k3.2 57 (4 * i + k) (by omega)).2, (k2.2 57 (4 * i + k) (by omega)).2], by rw [(k4.2 58 (4 * i + k) (by omega)).2, (k3.2 58 (4 * i + k) (by omega)).2, (k2.2 58 (4 * i + k) (by omega)).2]⟩) (fun a k h5 ha1 ha2 => by
              rw [(f34.2 a k (by omega)).1, (f34.2 a k (by omega)).2]
              exact k2.2 a k (by omega))
        · exact zq_sb_H (b4 c' hc') (by omega) (fun d hd => by omega) f34
        · exact zq_sb_H (b3 i hi') (by omega) (fun d hd => by omega) f34
        · have x1 := g4.ke wy k2.h (by rw [k2.1.1]) (fun a k p => by omega)
          have n2 := k2.1.2.2.1
          have n3 := k3.1.2.2.1
          exact (x1.ke wt k3.h (by rw [k3.1.1]) (fun a k p => by omega)).ke w1 k4.h (by rw [k4.1.1]) (fun a k p => by omega)
        · exact zq_F.gr (zq_F.gr (zq_F.gr gr k2) k3) k4
  · have hc12 : nl = 6 := by omega
    subst hc12
    have e1 : zf_V_store n s 0 2 = some (-1, s) := by
      rw [zf_V_store, if_pos rfl, if_pos ⟨zw_K0 w, zw_N0 w⟩, zw_R0_2 w]
      show (if zh_oo s 7 5 then (if (6 : Int32) ≤ zh_I s 7 3 then _ else _) else none) = _
      rw [if_pos ⟨zw_K7 w, zw_N7 w⟩, if_pos (by rw [h3.2.1.2.2.1]; decide), zb_V_store_56, if_neg (by decide), if_neg (by decide), zb_V_store_70, if_pos rfl]
    have e2 : zf_M_store n s 44 2 = some (-1, s) := by
      have h6 : zh_I s 44 17 = (6 : Int32) := h3.2.1.2.2.2
      rw [zf_M_store, if_neg (by decide), if_neg (by decide), if_pos rfl, if_pos ⟨zw_K44 w, zw_N44 w⟩, if_pos h6]
    exact ⟨-1, s, s, e1, w, e2, ⟨w, ⟨l, h1⟩, ⟨F, A, B, c, h2⟩, ⟨nc, 6, h3⟩, h4⟩, zq_Gr.rf⟩
theorem zy_store (hn : 300 ≤ n) (h : zq_In n s) (i : Int32) : ∃ r t u, zf_V_store n s 0 i = some (r, t) ∧ zq_w t ∧ zf_M_store n t 44 i = some (r, u) ∧ zq_In n u ∧ zq_Gr s u := by
  by_cases i0 : i = 0
  · exact zy_storeC hn h true i0
  by_cases i1 : i = 1
  · exact zy_storeC hn h false i1
  by_cases i2 : i = 2
  · rw [i2]; exact zy_storeL hn h
  refine ⟨-1, s, s, ?_, h.1, ?_, h, zq_Gr.rf⟩
  · rw [zf_V_store, if_neg i2, zb_V_store_56, if_neg i0, if_neg i1, zb_V_store_70, if_pos rfl]
  · rw [zf_M_store]
    by_cases hl : i < 0
    · rw [if_pos hl]
    rw [if_neg hl]
    by_cases hg : (2 : Int32) < i
    · rw [if_pos hg]
    rcases zi_three hl hg with h | h | h <;> contradiction
end S3
