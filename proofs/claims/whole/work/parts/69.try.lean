/-! The reason against, and a candidate tried. -/
theorem zp_fl8 (b u g a : Bool) : (lN (zq_fv b u g + (if a then 1 else 0)) &&& (8 : Int64) = 0) ↔ g = false := by cases b <;> cases u <;> cases g <;> cases a <;> decide +kernel
theorem zp_fl4 (b u g a : Bool) : (lN (zq_fv b u g + (if a then 1 else 0)) &&& (4 : Int64) = 0) ↔ u = false := by cases b <;> cases u <;> cases g <;> cases a <;> decide +kernel
theorem zp_fl1 (b u g a : Bool) : (lN (zq_fv b u g + (if a then 1 else 0)) &&& (1 : Int64) = 0) ↔ a = false := by cases b <;> cases u <;> cases g <;> cases a <;> decide +kernel
section TR
variable {n nc nl : Nat} {x y : zh_S} {q a : Nat} {T : Int64} {dp : Nat} {st : Int32} {p : Nat → Nat} {len : Nat}
theorem zp_flag (w : zq_w y) {c : Nat} (hc : c < 12) {bit : Int64} {g : Bool} (h : (zh_J y 55 (15 * c + 14) &&& bit = 0) ↔ g = false) : zf_M_flag n y 44 (nI c) bit = some (zq_bi g) := by
  rw [zf_M_flag]
  refine ze_t ⟨zw_K44 w, zw_N44 w⟩ (ze_p (zp_of w (k := 14) hc (by decide)) ?_)
  cases g with
  | false => exact ze_t ((lg_cmp_eq _ _).mpr (h.mpr rfl)) rfl
  | true => exact ze_f (fun e => by have := h.mp ((lg_cmp_eq _ _).mp e); cases this) rfl
/-- what both see of the flags of a certificate -/
theorem zp_flags3 (h : zq_xy n nc nl x y) {c : Nat} (hc : c < nc) : ∃ an au sr : Bool, zh_I x (10 + c) 18 = zq_bi an ∧ zh_I x (10 + c) 16 = zq_bi au ∧ zh_I x (10 + c) 17 = zq_bi sr ∧ zf_M_flag n y 44 (nI c) 1 = some (zq_bi an) ∧ zf_M_flag n y 44 (nI c) 4 = some (zq_bi au) ∧ zf_M_flag n y 44 (nI c) 8 = some (zq_bi sr) := by
  obtain ⟨wx, wy, hx, hy, e⟩ := h
  have hb := hx.1
  obtain ⟨-, -, ⟨a, b, u, g, v14, x18, x15, x16, x17⟩, -⟩ := hy.2.2.1 c hc
  refine ⟨a, u, g, by rw [← (e (10 + c) 18 (by omega)).1]; exact x18, by rw [← (e (10 + c) 16 (by omega)).1]; exact x16, by rw [← (e (10 + c) 17 (by omega)).1]; exact x17, zp_flag wy (by omega) ?_, zp_flag wy (by omega) ?_, zp_flag wy (by omega) ?_⟩
  · rw [v14]; exact zp_fl1 b u g a
  · rw [v14]; exact zp_fl4 b u g a
  · rw [v14]; exact zp_fl8 b u g a
theorem zp_88 (hn : 300 ≤ n) (h : zq_xy n nc nl x y) (sx : zq_sx x q a T dp st) (hp : zq_pp nc x y a p len) {k : Nat} (hk : k + 1 < len) : ∃ r, zb_Search_reasonAgainst_88 n x q (nI k) (nI len) (10 + p k) = some r ∧ zb_M_against_105 n y 44 (nI k) (nI len) (nI (p k)) = some r := by
  have h' := h
  obtain ⟨wx, wy, hx, hy, e⟩ := h'
  have hb := hx.1
  have hp5 := hp.1
  have hpk := (hp.2 k (by omega)).1
  have oC := zw_C wx (c := 10 + p k) (by omega)
  obtain ⟨-, ⟨-, v9, v10, -⟩, -, -, -, -, vR⟩ := hy.2.2.1 (p k) hpk
  rw [(e (10 + p k) 10 (by omega)).2] at v9 vR
  rw [(e (10 + p k) 11 (by omega)).2] at v10
  obtain ⟨an, au, sr, -, x16, x17, -, f4, f8⟩ := zp_flags3 h hpk
  obtain ⟨out, o1, o2⟩ := zp_realm hn h sx hp hk
  have e153 : ∃ r, zb_Search_reasonAgainst_153 n x (10 + p k) = some r ∧ zb_M_against_186 n y 44 (nI (p k)) = some r := by
    rw [zb_Search_reasonAgainst_153, zb_M_against_186]
    refine zv_ck oC (zv_p (zp_fit oC 1) (zv_sw (zv_ck ⟨zw_K44 wy, zw_N44 wy⟩ (zv_p (zp_of wy (k := 10) (by omega) (by decide)) ?_))))
    rw [v10, show (1 : Int32).toInt64 = 1 from by decide]
    unfold zq_ft
    by_cases u0 : zh_J x (10 + p k) 11 = 0
    · refine zv_t ((lg_cmp_eq _ _).mpr u0) (zv_sw ?_)
      rw [decide_eq_true u0, Bool.true_or]
      exact zv_f (by decide) (zv_r rfl)
    · refine zv_f (fun e => u0 ((lg_cmp_eq _ _).mp e)) (zv_p (zp_of wy (k := 10) (by omega) (by decide)) ?_)
      rw [v10, decide_eq_false u0]
      by_cases u1 : zh_J x (10 + p k) 11 &&& 1 = 0
      · refine zv_t ((lg_cmp_eq _ _).mpr u1) (zv_sw ?_)
        rw [decide_eq_true u1]
        exact zv_t rfl (zv_r rfl)
      · refine zv_f (fun e => u1 ((lg_cmp_eq _ _).mp e)) (zv_sw ?_)
        rw [decide_eq_false u1]
        exact zv_f (by decide) (zv_r rfl)
  rw [zb_Search_reasonAgainst_88, zb_M_against_105]
  refine zv_ck sx.1 (zv_p o1 (zv_sw (zv_ck ⟨zw_K44 wy, zw_N44 wy⟩ (zv_p o2 ?_))))
  cases out with
  | true => exact zv_f (by decide) (zv_sw (zv_t rfl (zv_r rfl)))
  | false =>
    refine zv_t rfl (zv_p f8 (zv_sw (zv_f (by decide) (zv_ck oC ?_))))
    rw [x17]
    cases sr with
    | true => exact zv_f (by decide) (zv_sw (zv_f (by decide) (zv_r rfl)))
    | false =>
      refine zv_t rfl (zv_sw (zv_t rfl ?_))
      by_cases k0 : k = 0
      · subst k0
        exact zv_t rfl (zv_sw (zv_t rfl (zv_r rfl)))
      · have nk : ¬ nI k = 0 := nI_ne0 (by omega) (by omega)
        refine zv_f nk (zv_p f4 (zv_sw (zv_f nk ?_)))
        rw [x16]
        cases au with
        | false => exact zv_t rfl (zv_sw (zv_t rfl (zv_r rfl)))
        | true =>
          refine zv_f (by decide) (zv_sw (zv_f (by decide) (zv_p (zp_of wy (k := 9) (by omega) (by decide)) ?_)))
          rw [v9]
          rcases vR with vR | vR
          · refine zv_t ((lg_cmp_lt _ _).mpr (by rw [vR]; decide)) (zv_sw (zv_t ((lg_cmp_eq _ _).mpr vR) e153))
          · have hne : ¬ zh_J x (10 + p k) 10 = -1 := fun e => vR (by rw [e]; decide)
            obtain ⟨v, c1, c2⟩ := zp_count (n := n) h sx hp (show k < len by omega) (k - 1) n 1 0 (by omega) (by omega) (by omega)
            refine zv_f (fun e => vR ((lg_cmp_lt _ _).mp e)) (zv_p c2 (zv_p (zp_of wy (k := 9) (by omega) (by decide)) (zv_sw (zv_f (fun e => hne ((lg_cmp_eq _ _).mp e)) (zv_p c1 ?_)))))
            rw [v9]
            by_cases hv : v.toInt64 ≤ zh_J x (10 + p k) 10
            · exact zv_t ((lg_cmp_le _ _).mpr hv) (zv_sw (zv_t ((lg_cmp_le _ _).mpr hv) (zv_sw e153)))
            · exact zv_f (fun e => hv ((lg_cmp_le _ _).mp e)) (zv_sw (zv_f (fun e => hv ((lg_cmp_le _ _).mp e)) (zv_r rfl)))
/-- the reason against -/
theorem zp_reason (hn : 300 ≤ n) (h : zq_xy n nc nl x y) (sx : zq_sx x q a T dp st) (hp : zq_pp nc x y a p len) (lk : zq_lk x p len) {k : Nat} (hk : k + 1 < len) : ∃ r, zf_Search_reasonAgainst n x q (nI k) (nI len) = some r ∧ zf_M_against n y 44 (nI k) (nI len) T st = some r := by
  have h' := h
  obtain ⟨wx, wy, hx, hy, e⟩ := h'
  have hb := hx.1
  have hp5 := hp.1
  have hpk := (hp.2 k (by omega)).1
  have hpd := (hp.2 (k + 1) (by omega)).1
  obtain ⟨hj, hne⟩ := lk k hk
  have oC := zw_C wx (c := 10 + p k) (by omega)
  have k1 : nI k + (1 : Int32) = nI (k + 1) := by rw [zi_1, nI_add]
  have ia : zh_I x a ((nI k + (1 : Int32)).toNatClampNeg) = nI (p (k + 1)) := by rw [k1, nI_clamp (by omega)]; exact (hp.2 (k + 1) (by omega)).2.1
  have i0 : zh_I y 59 (nI k).toNatClampNeg = nI (p k) := by rw [nI_clamp (by omega)]; exact (hp.2 k (by omega)).2.2
  have i1 : zh_I y 59 ((nI k + (1 : Int32)).toNatClampNeg) = nI (p (k + 1)) := by rw [k1, nI_clamp (by omega)]; exact (hp.2 (k + 1) (by omega)).2.2
  obtain ⟨⟨-, -, v2, v3, -, -, -, v7⟩, ⟨v8, -⟩, -⟩ := hy.2.2.1 (p k) hpk
  have hG : zq_gB n y (10 + p k) (p (k + 1)) = zq_gB n x (10 + p k) (p (k + 1)) := by
    unfold zq_gB
    rw [(e (10 + p k) 3 (by omega)).2, (e (10 + p k) 4 (by omega)).1, (e (10 + p (k + 1)) 8 (by omega)).2, (e (10 + p (k + 1)) 9 (by omega)).2]
  have hst := sx.2.2.2.2.2.2.2
  have e88 := zp_88 hn h sx hp hk
  rw [zf_Search_reasonAgainst, zf_M_against]
  refine zv_ck sx.1 (zv_p (zp_inPart wx hb.1 sx hp (by omega)) (zv_p sx.2.2.1 (zv_ck (by rw [k1]; exact sx.oa (by omega)) (zv_ck oC ?_))))
  rw [ia]
  refine zv_p (zp_sgnC wx hx hpk hpd (fun e => hne e.symm) hj) (zv_sw (zv_ck ⟨zw_K44 wy, zw_N44 wy⟩ (zv_p (zw_R44_21 wy) (zv_ck (zw_A59 wy (by omega)) (zv_l (zv_p (zw_R44_21 wy) (zv_ck (by rw [k1]; exact zw_A59 wy (by omega)) (zv_l ?_)))))))) 
  rw [i0, i1]
  refine zv_p (zp_of wy (k := 7) (by omega) (by decide)) (zv_p (zp_of wy (k := 8) (by omega) (by decide)) (zv_p (zp_msgn hn wy hy hpd v7 v8) ?_))
  rw [hG]
  cases zq_gB n x (10 + p k) (p (k + 1)) with
  | false => exact zv_t rfl (zv_sw (zv_t rfl (zv_r rfl)))
  | true =>
    refine zv_f (by decide) (zv_p (zp_of wy (k := 2) (by omega) (by decide)) (zv_p (zp_of wy (k := 3) (by omega) (by decide)) (zv_p (zn_inB n _ _ _) (zv_sw (zv_f (by decide) (zv_p (zp_timC oC) ?_))))))
    rw [sx.2.2.2.2.2.1, v2, v3, (e (10 + p k) 1 (by omega)).2, (e (10 + p k) 2 (by omega)).2]
    show ∃ r, (if zq_bi (zq_tB x (10 + p k) T) = 0 then some (2 : Int32) else _) = some r ∧ (if zq_bi (zq_tB x (10 + p k) T) = 0 then some (2 : Int32) else _) = some r
    cases zq_tB x (10 + p k) T with
    | false => exact zv_t rfl (zv_sw (zv_t rfl (zv_r rfl)))
    | true =>
      obtain ⟨o, ho, t1, t2⟩ := zp_take hn h sx hpk hpd hj
      refine zv_f (by decide) (zv_p sx.2.2.1 (zv_ck (by rw [k1]; exact sx.oa (by omega)) ?_))
      rw [ia]
      refine zv_p t1 (zv_sw (zv_f (by decide) (zv_p t2 ?_)))
      cases o with
      | none =>
        refine zv_p (zp_norevd hn) (zv_t rfl (zv_sw (zv_n rfl ?_)))
        rw [zb_Search_reasonAgainst_74]
        refine zv_n rfl (zv_ck sx.1 ?_)
        rw [hst]
        by_cases s0 : st = 0
        · exact zv_t s0 (zv_sw (zv_t s0 (zv_sw e88)))
        · exact zv_f s0 (zv_sw (zv_f s0 (zv_f (by decide) (zv_r rfl))))
      | some b =>
        have hbl := ho b rfl
        obtain ⟨v, r1, r2⟩ := zp_revd (T := T) hn h hbl hpk
        refine zv_p r2 (zv_sw (zv_o rfl (zv_ck (zw_L wx (by omega)) (zv_p r1 ?_))))
        cases v with
        | true => exact zv_f (by decide) (zv_sw (zv_f (by decide) (zv_r rfl)))
        | false =>
          refine zv_t rfl (zv_sw (zv_t rfl ?_))
          have e74 : zb_Search_reasonAgainst_74 n x q (nI k) (nI len) (10 + p k) (some (23 + 3 * b)) = zb_Search_reasonAgainst_88 n x q (nI k) (nI len) (10 + p k) := rfl
          rw [e74]
          by_cases s0 : st = 0
          · exact zv_t s0 (zv_sw e88)
          · exact zv_f s0 (zv_t (nI_pos' (by omega)) (zv_sw e88))
/-! What is kept while both go on. -/
theorem zq_xy.up {x' y' : zh_S} {P Q : Nat → Nat → Prop} (h : zq_xy n nc nl x y) (f : zq_F P x x') (g : zq_F Q y y') (hP : ∀ a k, zq_P3 nc nl a k → ¬ P a k) (hQ : ∀ a k, zq_P3 nc nl a k → ¬ Q a k) : zq_xy n nc nl x' y' := by
  obtain ⟨wx, wy, hx, hy, e⟩ := h
  refine ⟨f.w wx, g.w wy, hx.sm (fun a k p => f.2 a k (hP a k p)), hy.sm (fun a k p => g.2 a k (hQ a k p)), fun a k p => ?_⟩
  obtain ⟨f1, f2⟩ := f.2 a k (hP a k p)
  obtain ⟨g1, g2⟩ := g.2 a k (hQ a k p)
  obtain ⟨e1, e2⟩ := e a k p
  exact ⟨by rw [g1, f1, e1], by rw [g2, f2, e2]⟩
theorem zq_sx.up {x' : zh_S} {P : Nat → Nat → Prop} (h : zq_sx x q a T dp st) (f : zq_F P x x') (hP : ∀ k, 1 ≤ k → k ≤ 3 → ¬ P q k) : zq_sx x' q a T dp st := by
  obtain ⟨h1, h2, h3, h4, h5, h6, h7, h8⟩ := h
  refine ⟨by unfold zh_oo; rw [f.1.2.1, f.1.2.2.1]; exact h1, by rw [f.1.1]; exact h2, by rw [f.1.1]; exact h3, by rw [f.1.2.1, f.1.2.2.1]; exact h4, h5, ?_, ?_, ?_⟩
  · rw [(f.2 q 1 (hP 1 (by decide) (by decide))).2]; exact h6
  · rw [(f.2 q 2 (hP 2 (by decide) (by decide))).1]; exact h7
  · rw [(f.2 q 3 (hP 3 (by decide) (by decide))).1]; exact h8
theorem zq_pp.up {x' y' : zh_S} {P Q : Nat → Nat → Prop} (h : zq_pp nc x y a p len) (f : zq_F P x x') (g : zq_F Q y y') (hP : ∀ k, k < len → ¬ P a k) (hQ : ∀ k, k < len → ¬ Q 59 k) : zq_pp nc x' y' a p len :=
  ⟨h.1, fun k hk => ⟨(h.2 k hk).1, by rw [(f.2 a k (hP k hk)).1]; exact (h.2 k hk).2.1, by rw [(g.2 59 k (hQ k hk)).1]; exact (h.2 k hk).2.2⟩⟩
theorem zq_lk.up {x' : zh_S} {P : Nat → Nat → Prop} (h : zq_lk x p len) (f : zq_F P x x') (hpn : ∀ k, k < len → p k < nc) (hP : ∀ a k, 10 ≤ a → a < 10 + nc → ¬ P a k) : zq_lk x' p len := by
  intro k hk
  have h1 := hpn k (by omega)
  have h2 := hpn (k + 1) (by omega)
  rw [(f.2 (10 + p k) 0 (hP _ _ (by omega) (by omega))).2, (f.2 (10 + p (k + 1)) 7 (hP _ _ (by omega) (by omega))).2]
  exact h k hk
abbrev zq_Pq (q a k : Nat) : Prop := a = q ∧ (k = 5 ∨ k = 6)
abbrev zq_Pr (a k : Nat) : Prop := a = 44 ∧ k = 26
theorem zp_try46 (h : zq_xy n nc nl x y) (sx : zq_sx x q a T dp st) (h6 : zh_I x q 6 = zh_I y 44 26) : ∃ r x' y', zb_Search_tryCandidate_46 n x q (nI len) = some (r, x') ∧ zb_M_holds_42 n y 44 = some (r, y') ∧ (r = 0 ∨ r = 1) ∧ zh_I x' q 6 = zh_I y' 44 26 ∧ (r = 1 → zh_I x' q 5 = nI len) ∧ (r = 0 → zh_I x' q 5 = zh_I x q 5) ∧ zq_F (zq_Pq q) x x' ∧ zq_F zq_Pr y y' := by
  obtain ⟨wx, wy, -⟩ := h
  rw [zb_Search_tryCandidate_46, zb_M_holds_42]
  by_cases h0 : zh_I x q 6 = 0
  · refine ⟨1, zh_uI x q 5 (nI len), y, ze_t sx.1 (ze_t h0 rfl), ze_t ⟨zw_K44 wy, zw_N44 wy⟩ (ze_t (by rw [← h6]; exact h0) rfl), Or.inr rfl, ?_, fun _ => ?_, fun e => absurd e (by decide), zq_F.rf.uI ⟨rfl, Or.inl rfl⟩ _, zq_F.rf⟩
    · rw [zs_II, if_neg (by omega)]; exact h6
    · rw [zs_II, if_pos ⟨rfl, rfl⟩]
  · exact ⟨0, x, y, ze_t sx.1 (ze_f h0 rfl), ze_t ⟨zw_K44 wy, zw_N44 wy⟩ (ze_f (by rw [← h6]; exact h0) rfl), Or.inl rfl, h6, fun e => absurd e (by decide), fun _ => rfl, zq_F.rf, zq_F.rf⟩
theorem zp_tryl (hn : 300 ≤ n) : ∀ (m f : Nat) (x y : zh_S), zq_xy n nc nl x y → zq_sx x q a T dp st → zq_pp nc x y a p len → zq_lk x p len → m + 1 ≤ len → m < f → zh_I x q 6 = zh_I y 44 26 → ∃ r x' y', zl_Search_tryCandidate_19 n f x q (nI len) (nI m - 1) = some (r, x') ∧ zl_M_holds_10 n f y 44 (nI len) T st (nI m - 1) = some (r, y') ∧ (r = 0 ∨ r = 1) ∧ zh_I x' q 6 = zh_I y' 44 26 ∧ (r = 1 → zh_I x' q 5 = nI len) ∧ (r = 0 → zh_I x' q 5 = zh_I x q 5) ∧ zq_F (zq_Pq q) x x' ∧ zq_F zq_Pr y y' := by
  intro m
  induction m with
  | zero =>
    intro f x y h sx hp lk hm hf h6
    obtain ⟨f, rfl⟩ : ∃ q, f = q + 1 := ⟨f - 1, by omega⟩
    obtain ⟨r, x', y', e1, e2, rest⟩ := zp_try46 (len := len) h sx h6
    refine ⟨r, x', y', ?_, ?_, rest⟩
    · rw [zl_Search_tryCandidate_19]; exact ze_t (by decide) e1
    · rw [zl_M_holds_10]; exact ze_t (by decide) e2
  | succ m ih =>
    intro f x y h sx hp lk hm hf h6
    obtain ⟨f, rfl⟩ : ∃ q, f = q + 1 := ⟨f - 1, by omega⟩
    have hp5 := hp.1
    have em : nI (m + 1) - 1 = nI m := nI_pred m
    have wy := h.2.1
    have hb := h.2.2.1.1
    rw [em, zl_Search_tryCandidate_19, zl_M_holds_10]
    by_cases h0 : zh_I x q 6 = 0
    · obtain ⟨r, e1, e2⟩ := zp_reason hn h sx hp lk (k := m) (by omega)
      have fx : zq_F (zq_Pq q) x (zh_uI x q 6 r) := zq_F.rf.uI ⟨rfl, Or.inr rfl⟩ _
      have fy : zq_F zq_Pr y (zh_uI y 44 26 r) := zq_F.rf.uI ⟨rfl, rfl⟩ _
      have hq := sx.2.2.2.2.1
      obtain ⟨r', x', y', g1, g2, g3, g4, g5, g6, g7, g8⟩ := ih f (zh_uI x q 6 r) (zh_uI y 44 26 r) (h.up fx fy (fun a k p => by omega) (fun a k p => by omega)) (sx.up fx (fun k _ _ => by omega)) (hp.up fx fy (fun k _ => by omega) (fun k _ => by omega)) (lk.up fx (fun k hk => (hp.2 k hk).1) (fun a k _ _ => by omega)) (by omega) (by omega) (by rw [zs_II, if_pos ⟨rfl, rfl⟩, zs_II, if_pos ⟨rfl, rfl⟩])
      have ed : nI m + (-1 : Int32) = nI m - 1 := by rw [Int32.sub_eq_add_neg]
      refine ⟨r', x', y', ?_, ?_, g3, g4, g5, fun e => (g6 e).trans (by rw [zs_II, if_neg (by omega)]), fx.tr g7, fy.tr g8⟩
      · refine ze_f (nI_pos (by omega)) (ze_t sx.1 (ze_t h0 (ze_p e1 (ze_l (ze_l ?_)))))
        rw [ed]; exact g1
      · refine ze_f (nI_pos (by omega)) (ze_t ⟨zw_K44 wy, zw_N44 wy⟩ (ze_t (by rw [← h6]; exact h0) (ze_p e2 (ze_l (ze_l ?_)))))
        rw [ed]; exact g2
    · obtain ⟨r, x', y', e1, e2, rest⟩ := zp_try46 (len := len) h sx h6
      refine ⟨r, x', y', ?_, ?_, rest⟩
      · exact ze_f (nI_pos (by omega)) (ze_t sx.1 (ze_f h0 e1))
      · exact ze_f (nI_pos (by omega)) (ze_t ⟨zw_K44 wy, zw_N44 wy⟩ (ze_f (by rw [← h6]; exact h0) e2))
abbrev zq_Ps (q a k : Nat) : Prop := a = q ∧ (k = 5 ∨ k = 6 ∨ k = 7)
/-- a candidate is tried; the reference has counted it before -/
theorem zp_try (hn : 300 ≤ n) (h : zq_xy n nc nl x y) (sx : zq_sx x q a T dp st) (hp : zq_pp nc x y a p len) (lk : zq_lk x p len) (hl : 1 ≤ len) : ∃ r x' y', zf_Search_tryCandidate n x q (nI len) = some (r, x') ∧ zf_M_holds n y 44 (nI len) T st = some (r, y') ∧ (r = 0 ∨ r = 1) ∧ zh_I x' q 6 = zh_I y' 44 26 ∧ zh_I x' q 7 = zh_I x q 7 + 1 ∧ (r = 1 → zh_I x' q 5 = nI len) ∧ (r = 0 → zh_I x' q 5 = zh_I x q 5) ∧ zq_F (zq_Ps q) x x' ∧ zq_F zq_Pr y y' := by
  have hq := sx.2.2.2.2.1
  have wy := h.2.1
  have hb := h.2.2.1.1
  have hp5 := hp.1
  have fx : zq_F (zq_Ps q) x (zh_uI (zh_uI x q 7 (zh_I x q 7 + 1)) q 6 0) := (zq_F.rf.uI (by omega) _).uI (by omega) _
  have fy : zq_F zq_Pr y (zh_uI y 44 26 0) := zq_F.rf.uI ⟨rfl, rfl⟩ _
  obtain ⟨r, x', y', g1, g2, g3, g4, g5, g6, g7, g8⟩ := zp_tryl hn (len - 1) n (zh_uI (zh_uI x q 7 (zh_I x q 7 + 1)) q 6 0) (zh_uI y 44 26 0) (h.up fx fy (fun a k p => by omega) (fun a k p => by omega)) (sx.up fx (fun k _ _ => by omega)) (hp.up fx fy (fun k _ => by omega) (fun k _ => by omega)) (lk.up fx (fun k hk => (hp.2 k hk).1) (fun a k _ _ => by omega)) (by omega) (by omega) (by rw [zs_II, if_pos ⟨rfl, rfl⟩, zs_II, if_pos ⟨rfl, rfl⟩])
  have e2 : nI len - (2 : Int32) = nI (len - 1) - 1 := by
    obtain ⟨j, rfl⟩ : ∃ j, len = j + 1 := ⟨len - 1, by omega⟩
    rw [show (2 : Int32) = 1 + 1 from rfl, ← Int32.sub_sub, nI_pred, Nat.add_sub_cancel]
  refine ⟨r, x', y', ?_, ?_, g3, g4, ?_, g5, fun e => (g6 e).trans ?_, fx.tr (g7.mo (fun a k p => by omega)), fy.tr g8⟩
  · rw [zf_Search_tryCandidate]
    refine ze_t sx.1 (ze_l (ze_l (ze_l ?_)))
    rw [e2]; exact g1
  · rw [zf_M_holds]
    refine ze_t ⟨zw_K44 wy, zw_N44 wy⟩ (ze_l (ze_l ?_))
    rw [e2]; exact g2
  · rw [(g7.2 q 7 (by omega)).1, zs_II, if_neg (by omega), zs_II, if_pos ⟨rfl, rfl⟩]
  · rw [zs_II, if_neg (by omega), zs_II, if_neg (by omega)]
end TR
