/-! Which certificate comes next. -/
theorem zi_mod12 : ∀ i : Fin 24, nI i.val - nI i.val / (12 : Int32) * (12 : Int32) = nI (i.val % 12) := by decide +kernel
def zq_su (nc : Nat) (x : zh_S) (p : Nat → Nat) (len i : Nat) : Bool := decide (i % 12 < nc) && (decide (zh_I x (10 + i % 12) 18 = zq_bi (decide (i < 12))) && (decide (zh_J x (10 + i % 12) 7 = zh_J x (10 + p (len - 1)) 0) && !zq_any (fun k => decide (p k = i % 12)) len 0))
section SU
variable {n nc nl : Nat} {x y : zh_S} {q a : Nat} {T : Int64} {dp : Nat} {st : Int32} {p : Nat → Nat} {len : Nat}
theorem zp_inp (sx : zq_sx x q a T dp st) (hp : zq_pp nc x y a p len) (hb : nc ≤ 12) {c : Nat} (hc : c < 12) : ∀ (r f k : Nat), len - k = r → k ≤ len → r < f → zl_Search_isInPart_2 n f x q (nI c) (nI len) (nI k) = some (zq_bi (zq_any (fun k => decide (p k = c)) r k)) := by
  have hp5 := hp.1
  intro r
  induction r with
  | zero =>
    intro f k hr hk hf
    obtain ⟨f, rfl⟩ : ∃ q, f = q + 1 := ⟨f - 1, by omega⟩
    rw [zl_Search_isInPart_2]
    exact ze_t (nI_le (by omega) (by omega)) rfl
  | succ r ih =>
    intro f k hr hk hf
    obtain ⟨f, rfl⟩ : ∃ q, f = q + 1 := ⟨f - 1, by omega⟩
    obtain ⟨h1, h2, h3⟩ := hp.2 k (by omega)
    have hi : zh_I x a (nI k).toNatClampNeg = nI (p k) := by rw [nI_clamp (by omega)]; exact h2
    rw [zl_Search_isInPart_2, zq_any]
    refine ze_f (nI_ge (by omega) (by omega)) (ze_t sx.1 (ze_p sx.2.2.1 (ze_t (sx.oa (by omega)) ?_)))
    rw [hi]
    by_cases e : p k = c
    · refine ze_t (by rw [e]) ?_
      rw [decide_eq_true e]; rfl
    · refine ze_f (fun h => e ((nI_eq (by omega) (by omega)).mp h)) (ze_l ?_)
      rw [decide_eq_false e, Bool.false_or, zi_1, nI_add]
      exact ih f (k + 1) (by omega) (by omega) (by omega)
theorem zp_minp (w : zq_w y) (hp : zq_pp nc x y a p len) (hb : nc ≤ 12) {c : Nat} (hc : c < 12) : ∀ (r f k : Nat) (v : Bool), len - k = r → k ≤ len → r < f → zl_M_suits_64 n f y 44 (nI len) (nI c) (zq_bi v) (nI k) = some (zq_bi (!(v || zq_any (fun k => decide (p k = c)) r k))) := by
  have hp5 := hp.1
  intro r
  induction r with
  | zero =>
    intro f k v hr hk hf
    obtain ⟨f, rfl⟩ : ∃ q, f = q + 1 := ⟨f - 1, by omega⟩
    rw [zl_M_suits_64]
    refine ze_t (nI_le (by omega) (by omega)) ?_
    cases v with
    | false => exact ze_t rfl rfl
    | true => exact ze_f (by decide) rfl
  | succ r ih =>
    intro f k v hr hk hf
    obtain ⟨f, rfl⟩ : ∃ q, f = q + 1 := ⟨f - 1, by omega⟩
    obtain ⟨h1, h2, h3⟩ := hp.2 k (by omega)
    have hi : zh_I y 59 (nI k).toNatClampNeg = nI (p k) := by rw [nI_clamp (by omega)]; exact h3
    have go : ∀ z : Bool, zb_M_suits_91 n (zl_M_suits_64 n f) y 44 (nI len) (nI c) (nI k) (zq_bi z) = some (zq_bi (!(z || zq_any (fun k => decide (p k = c)) r (k + 1)))) := by
      intro z
      rw [zb_M_suits_91]
      show zl_M_suits_64 n f y 44 (nI len) (nI c) (zq_bi z) (nI k + 1) = _
      rw [zi_1, nI_add]
      exact ih f (k + 1) z (by omega) (by omega) (by omega)
    rw [zl_M_suits_64, zq_any]
    refine ze_f (nI_ge (by omega) (by omega)) ?_
    cases v with
    | true => exact ze_f (by decide) (go true)
    | false =>
      refine ze_t rfl (ze_t ⟨zw_K44 w, zw_N44 w⟩ (ze_p (zw_R44_21 w) (ze_t (zw_A59 w (by omega)) ?_)))
      rw [hi]
      by_cases e : p k = c
      · refine ze_t (by rw [e]) ((go true).trans ?_)
        rw [decide_eq_true e]; rfl
      · refine ze_f (fun h => e ((nI_eq (by omega) (by omega)).mp h)) ((go false).trans ?_)
        rw [decide_eq_false e]; rfl
theorem zp_suits (hn : 300 ≤ n) (h : zq_xy n nc nl x y) (hp : zq_pp nc x y a p len) (hl : 1 ≤ len) {i : Nat} (hi : i < 24) : zf_M_suits n y 44 (nI i) (nI len) = some (zq_bi (zq_su nc x p len i)) := by
  have h' := h
  obtain ⟨wx, wy, hx, hy, e⟩ := h'
  have hb := hx.1
  have hp5 := hp.1
  have h12 : i % 12 < 12 := Nat.mod_lt _ (by decide)
  have i44 := hy.2.1.2.1
  obtain ⟨c, hcd⟩ : ∃ c, c = i % 12 := ⟨_, rfl⟩
  rw [zf_M_suits]
  refine ze_t (by decide) (ze_l ?_)
  rw [zi_mod12 ⟨i, hi⟩]
  show (if zh_oo y 44 8 then (if zh_I y 44 15 ≤ nI (i % 12) then some (0 : Int32) else zk_p (zf_M_flag n y 44 (nI (i % 12)) 1) fun i_4 => if (12 : Int32) ≤ nI i then zb_M_suits_30 n y 44 (nI len) (nI (i % 12)) i_4 0 else zb_M_suits_30 n y 44 (nI len) (nI (i % 12)) i_4 1) else none) = _
  unfold zq_su
  rw [← hcd]
  refine ze_t ⟨zw_K44 wy, zw_N44 wy⟩ ?_
  rw [i44]
  by_cases hc : c < nc
  · refine ze_f (nI_ge hc (by omega)) ?_
    rw [decide_eq_true hc, Bool.true_and]
    obtain ⟨an, au, sr, x18, -, -, f1, -, -⟩ := zp_flags3 h hc
    refine ze_p f1 ?_
    have hl1 := (hp.2 (len - 1) (by omega))
    have e1 : nI len - (1 : Int32) = nI (len - 1) := by rw [zi_1, zi_sub hl]
    have i59 : zh_I y 59 ((nI len - (1 : Int32)).toNatClampNeg) = nI (p (len - 1)) := by rw [e1, nI_clamp (by omega)]; exact hl1.2.2
    obtain ⟨⟨-, -, -, -, v4, -⟩, -⟩ := hy.2.2.1 c hc
    obtain ⟨⟨-, u1, -⟩, -⟩ := hy.2.2.1 (p (len - 1)) hl1.1
    have e30 : ∀ z : Bool, zb_M_suits_30 n y 44 (nI len) (nI c) (zq_bi an) (zq_bi z) = some (zq_bi (decide (zh_I x (10 + c) 18 = zq_bi z) && (decide (zh_J x (10 + c) 7 = zh_J x (10 + p (len - 1)) 0) && !zq_any (fun k => decide (p k = c)) len 0))) := by
      intro z
      rw [zb_M_suits_30, x18]
      by_cases ez : zq_bi an = zq_bi z
      · refine ze_t ez (ze_t ⟨zw_K44 wy, zw_N44 wy⟩ (ze_p (zp_of wy (k := 4) (by omega) (by decide)) (ze_p (zw_R44_21 wy) (ze_t (by rw [e1]; exact zw_A59 wy (by omega)) ?_))))
        rw [i59, decide_eq_true ez, Bool.true_and]
        refine ze_p (zp_of wy (k := 1) (by omega) (by decide)) ?_
        rw [v4, u1, (e (10 + c) 7 (by omega)).2, (e (10 + p (len - 1)) 0 (by omega)).2]
        by_cases ej : zh_J x (10 + c) 7 = zh_J x (10 + p (len - 1)) 0
        · refine ze_t ((lg_cmp_eq _ _).mpr ej) ((zp_minp wy hp hb.1 (by omega) len n 0 false (by omega) (by omega) (by omega)).trans ?_)
          rw [decide_eq_true ej]; rfl
        · refine ze_f (fun e => ej ((lg_cmp_eq _ _).mp e)) ?_
          rw [decide_eq_false ej]; rfl
      · refine ze_f ez ?_
        rw [decide_eq_false ez]; rfl
    by_cases i12 : i < 12
    · refine ze_f (nI_ge (b := 12) i12 (by decide)) ((e30 true).trans ?_)
      rw [decide_eq_true i12]
    · refine ze_t (nI_le (a := 12) (by omega) (by omega)) ((e30 false).trans ?_)
      rw [decide_eq_false i12]
  · refine ze_t (nI_le (by omega) (by omega)) ?_
    rw [decide_eq_false hc]; rfl
/-- the inner loop does not depend on its fuel -/
theorem zp_105k (r13 : zh_S → Nat → Int64 → Int32 → Int32 → Int32 → Int32 → Option (Int32 × zh_S)) : ∀ (r i k1 k2 : Nat), 24 - i = r → i ≤ 24 → r < k1 → r < k2 → zl_M_search_105 n r13 k1 y 44 T (nI dp) st (nI len) (nI i) = zl_M_search_105 n r13 k2 y 44 T (nI dp) st (nI len) (nI i) := by
  intro r
  induction r with
  | zero =>
    intro i k1 k2 hr hi h1 h2
    obtain ⟨k1, rfl⟩ : ∃ q, k1 = q + 1 := ⟨k1 - 1, by omega⟩
    obtain ⟨k2, rfl⟩ : ∃ q, k2 = q + 1 := ⟨k2 - 1, by omega⟩
    rw [zl_M_search_105, zl_M_search_105]
    have h24 : (24 : Int32) ≤ nI i := nI_le (a := 24) (by omega) (by omega)
    rw [if_pos h24, if_pos h24]
  | succ r ih =>
    intro i k1 k2 hr hi h1 h2
    obtain ⟨k1, rfl⟩ : ∃ q, k1 = q + 1 := ⟨k1 - 1, by omega⟩
    obtain ⟨k2, rfl⟩ : ∃ q, k2 = q + 1 := ⟨k2 - 1, by omega⟩
    have e := ih (i + 1) k1 k2 (by omega) (by omega) (by omega) (by omega)
    have e1 : nI i + (1 : Int32) = nI (i + 1) := by rw [zi_1, nI_add]
    rw [zl_M_search_105, zl_M_search_105]
    simp only [zk_l, e1, e]
/-- one turn of the inner loop -/
theorem zp_105n (hn : 300 ≤ n) (h : zq_xy n nc nl x y) (hp : zq_pp nc x y a p len) (hl : 1 ≤ len) {i : Nat} (hi : i < 24) (r13 : zh_S → Nat → Int64 → Int32 → Int32 → Int32 → Int32 → Option (Int32 × zh_S)) (hs : zq_su nc x p len i = false) : zl_M_search_105 n r13 n y 44 T (nI dp) st (nI len) (nI i) = zl_M_search_105 n r13 n y 44 T (nI dp) st (nI len) (nI (i + 1)) := by
  have wy := h.2.1
  rw [zp_105k r13 (24 - i) i n (n - 1 + 1) rfl (by omega) (by omega) (by omega), zl_M_search_105]
  refine ze_f (nI_ge (b := 24) hi (by decide)) (ze_t ⟨zw_K44 wy, zw_N44 wy⟩ (ze_p (zp_suits hn h hp hl hi) ?_))
  rw [hs]
  refine ze_t rfl (ze_l ?_)
  rw [zi_1, nI_add]
  exact zp_105k r13 (24 - (i + 1)) (i + 1) (n - 1) n rfl (by omega) (by omega) (by omega)
/-- the next one is taken -/
theorem zp_105s (hn : 300 ≤ n) (h : zq_xy n nc nl x y) (hp : zq_pp nc x y a p len) (hl : 1 ≤ len) (hl5 : len < 5) {i : Nat} (hi : i < 24) (r13 : zh_S → Nat → Int64 → Int32 → Int32 → Int32 → Int32 → Option (Int32 × zh_S)) (hs : zq_su nc x p len i = true) : zl_M_search_105 n r13 n y 44 T (nI dp) st (nI len) (nI i) = r13 (zh_uI (zh_uI (zh_uI y 60 (len - 1) (nI (i + 1))) 59 len (nI (i % 12))) 60 len 0) 44 T (nI dp) st (nI (len + 1)) 1 := by
  have wy := h.2.1
  have e1 : nI len - (1 : Int32) = nI (len - 1) := by rw [zi_1, zi_sub hl]
  have w1 : zq_w (zh_uI y 60 (len - 1) (nI (i + 1))) := (zq_F.rf.uI (P := fun a _ => a = 60) rfl _ : zq_F (fun a _ => a = 60) y _).w wy
  have w2 : zq_w (zh_uI (zh_uI y 60 (len - 1) (nI (i + 1))) 59 len (nI (i % 12))) := (zq_F.rf.uI (P := fun a _ => a = 59) rfl _ : zq_F (fun a _ => a = 59) _ _).w w1
  rw [zp_105k r13 (24 - i) i n (n - 1 + 1) rfl (by omega) (by omega) (by omega), zl_M_search_105]
  refine ze_f (nI_ge (b := 24) hi (by decide)) (ze_t ⟨zw_K44 wy, zw_N44 wy⟩ (ze_p (zp_suits hn h hp hl hi) ?_))
  rw [hs]
  refine ze_f (by decide) ?_
  rw [zb_M_search_129]
  refine ze_f (nI_ge (b := 24) hi (by decide)) ?_
  rw [zb_M_search_141]
  refine ze_f (by decide) (ze_t ⟨zw_K44 wy, zw_N44 wy⟩ (ze_p (zw_R44_22 wy) (ze_t (by rw [e1]; exact zw_A60 wy (by omega)) (ze_l ?_))))
  rw [show zh_uI y 60 ((nI len - (1 : Int32)).toNatClampNeg) (nI i + 1) = zh_uI y 60 (len - 1) (nI (i + 1)) by rw [e1, nI_clamp (by omega), zi_1, nI_add]]
  refine ze_t ⟨zw_K44 w1, zw_N44 w1⟩ (ze_p (zw_R44_21 w1) (ze_t (by decide) (ze_t (zw_A59 w1 (by omega)) (ze_l ?_))))
  rw [show zh_uI (zh_uI y 60 (len - 1) (nI (i + 1))) 59 ((nI len).toNatClampNeg) (nI i - nI i / (12 : Int32) * (12 : Int32)) = zh_uI (zh_uI y 60 (len - 1) (nI (i + 1))) 59 len (nI (i % 12)) by rw [nI_clamp (by omega), zi_mod12 ⟨i, hi⟩]]
  refine ze_t ⟨zw_K44 w2, zw_N44 w2⟩ (ze_p (zw_R44_22 w2) (ze_t (zw_A60 w2 (by omega)) (ze_l (ze_l ?_))))
  rw [zb_M_search_190, nI_clamp (by omega), zi_1, nI_add]
/-- there is no next one -/
theorem zp_105e (hn : 300 ≤ n) (hl : 1 ≤ len) (r13 : zh_S → Nat → Int64 → Int32 → Int32 → Int32 → Int32 → Option (Int32 × zh_S)) : zl_M_search_105 n r13 n y 44 T (nI dp) st (nI len) (nI 24) = r13 y 44 T (nI dp) st (nI (len - 1)) 0 := by
  rw [zp_105k r13 0 24 n (n - 1 + 1) rfl (by omega) (by omega) (by omega), zl_M_search_105]
  refine ze_t (by decide) ?_
  rw [zb_M_search_129]
  refine ze_t (by decide) ?_
  rw [zb_M_search_141]
  refine ze_t rfl (ze_l ?_)
  rw [zb_M_search_190, show (-1 : Int32) = -nI 1 from rfl, zi_dec hl]
end SU
