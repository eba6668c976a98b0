/-! The recursion of the class and the loop of the reference. -/
def zq_T (x y : zh_S) (q t : Nat) : Prop := zh_I x q 7 = nI t ∧ zh_I y 44 25 = nI t ∧ t ≤ 40 ∧ zh_I x q 6 = zh_I y 44 26
abbrev zq_Px (q a b k : Nat) : Prop := b = q ∧ (k = 5 ∨ k = 6 ∨ k = 7) ∨ b = a
abbrev zq_Py (b k : Nat) : Prop := b = 44 ∧ (k = 25 ∨ k = 26) ∨ b = 59 ∨ b = 60
/-- how a step ends: found, or not found and the reference is as far -/
def zq_rs (nc : Nat) (x y x' y' : zh_S) (q a : Nat) (p : Nat → Nat) (len : Nat) (r : Int32) (M1 : Nat → Option (Int32 × zh_S)) (M2 : zh_S → Nat → Option (Int32 × zh_S)) (m : Nat) : Prop :=
  zq_F (zq_Px q a) x x' ∧ zq_F zq_Py y y' ∧
  ((r = 1 ∧ ∃ L, 1 ≤ L ∧ L ≤ 5 ∧ zh_I x' q 5 = nI L ∧ (∀ k, k < L → zh_I x' a k = zh_I y' 59 k) ∧ zh_I x' q 7 = zh_I y' 44 25 ∧ ∀ f, 1 ≤ f → M1 (m + f) = some (nI L, y')) ∨
   (r = 0 ∧ zq_pp nc x' y' a p len ∧ (∀ j, j + 1 < len → zh_I y' 60 j = zh_I y 60 j) ∧ zh_I x' q 5 = zh_I x q 5 ∧ ∃ t', zq_T x' y' q t' ∧ ((t' = 40 ∧ ∀ f, 1 ≤ f → M1 (m + f) = some (0, y')) ∨ (t' < 40 ∧ ∀ f, 1 ≤ f → M1 (m + f) = M2 y' f))))
def zq_go (n nc nl q a : Nat) (T : Int64) (dp : Nat) (st : Int32) (g : zh_S → Nat → Int32 → Option (Int32 × zh_S)) (len B : Nat) : Prop :=
  ∀ (x y : zh_S) (p : Nat → Nat) (t : Nat), zq_xy n nc nl x y → zq_sx x q a T dp st → zq_pp nc x y a p len → zq_lk x p len → zq_T x y q t → t < 40 → zh_I y 60 (len - 1) = 0 → len ≤ dp → ∃ r x' y' m, g x q (nI len) = some (r, x') ∧ m ≤ B ∧ zq_rs nc x y x' y' q a p len r (fun F => zl_M_search_13 n F y 44 T (nI dp) st (nI len) 1) (fun y' f => zl_M_search_13 n f y' 44 T (nI dp) st (nI (len - 1)) 0) m
section LO
variable {n nc nl : Nat} {x y : zh_S} {q a : Nat} {T : Int64} {dp : Nat} {st : Int32} {p : Nat → Nat} {len : Nat}
theorem zp_M40 (w : zq_w y) (h : zh_I y 44 25 = nI 40) (i fr : Int32) {f : Nat} (hf : 1 ≤ f) : zl_M_search_13 n f y 44 T (nI dp) st i fr = some (0, y) := by
  obtain ⟨f, rfl⟩ : ∃ q, f = q + 1 := ⟨f - 1, by omega⟩
  rw [zl_M_search_13]
  by_cases h0 : i ≤ 0
  · exact ze_t h0 rfl
  · exact ze_f h0 (ze_t ⟨zw_K44 w, zw_N44 w⟩ (ze_t (by rw [h]; decide) rfl))
/-- where the search of the reference goes on from a certificate that is no anchor -/
theorem zp_78n (w : zq_w y) (hl : 1 ≤ len) (hl5 : len ≤ 5) (hd : len < dp) (hd5 : dp ≤ 5) {i : Nat} (h60 : zh_I y 60 (len - 1) = nI i) (r13 : zh_S → Nat → Int64 → Int32 → Int32 → Int32 → Int32 → Option (Int32 × zh_S)) : zb_M_search_78 n r13 y 44 T (nI dp) st (nI len) 0 = zl_M_search_105 n r13 n y 44 T (nI dp) st (nI len) (nI i) := by
  have e1 : nI len - (1 : Int32) = nI (len - 1) := by rw [zi_1, zi_sub hl]
  have e2 : zh_I y 60 ((nI len - (1 : Int32)).toNatClampNeg) = nI i := by rw [e1, nI_clamp (by omega)]; exact h60
  rw [zb_M_search_78]
  refine ze_t rfl (ze_f (fun e => by rw [nI_eq (by omega) (by omega)] at e; omega) (ze_t ⟨zw_K44 w, zw_N44 w⟩ (ze_p (zw_R44_22 w) (ze_t (by rw [e1]; exact zw_A60 w (by omega)) ?_))))
  rw [e2]; rfl
theorem zp_78a (hn : 300 ≤ n) (hl : 1 ≤ len) (r13 : zh_S → Nat → Int64 → Int32 → Int32 → Int32 → Int32 → Option (Int32 × zh_S)) : zb_M_search_78 n r13 y 44 T (nI dp) st (nI len) 1 = r13 y 44 T (nI dp) st (nI (len - 1)) 0 := by
  rw [zb_M_search_78]
  exact ze_f (by decide) (zp_105e hn hl r13)
theorem zp_78d (hn : 300 ≤ n) (hl : 1 ≤ len) (hd : len = dp) (r13 : zh_S → Nat → Int64 → Int32 → Int32 → Int32 → Int32 → Option (Int32 × zh_S)) : zb_M_search_78 n r13 y 44 T (nI dp) st (nI len) 0 = r13 y 44 T (nI dp) st (nI (len - 1)) 0 := by
  rw [zb_M_search_78]
  exact ze_t rfl (ze_t (by rw [hd]) (zp_105e hn hl r13))
/-- one turn of the reference at a certificate that is no anchor -/
theorem zp_M13 (h : zq_xy n nc nl x y) (hp : zq_pp nc x y a p len) (hl : 1 ≤ len) {t : Nat} (ht : zh_I y 44 25 = nI t) (ht40 : t < 40) (ha : zh_I x (10 + p (len - 1)) 18 = 0) (fr : Int32) (F : Nat) : zl_M_search_13 n (F + 1) y 44 T (nI dp) st (nI len) fr = zb_M_search_78 n (zl_M_search_13 n F) y 44 T (nI dp) st (nI len) 0 := by
  have wy := h.2.1
  have hp5 := hp.1
  have hb := h.2.2.1.1
  have e1 : nI len - (1 : Int32) = nI (len - 1) := by rw [zi_1, zi_sub hl]
  have hl1 := hp.2 (len - 1) (by omega)
  have i59 : zh_I y 59 ((nI len - (1 : Int32)).toNatClampNeg) = nI (p (len - 1)) := by rw [e1, nI_clamp (by omega)]; exact hl1.2.2
  obtain ⟨an, au, sr, x18, -, -, f1, -, -⟩ := zp_flags3 h hl1.1
  have han : an = false := by rw [x18] at ha; cases an; rfl; exact absurd ha (by decide)
  subst han
  rw [zl_M_search_13]
  refine ze_f (nI_nle (by omega) (by omega)) (ze_t ⟨zw_K44 wy, zw_N44 wy⟩ (ze_f (by rw [ht]; exact nI_ge (b := 40) ht40 (by decide)) (ze_p (zw_R44_21 wy) (ze_t (by rw [e1]; exact zw_A59 wy (by omega)) ?_))))
  rw [i59]
  refine ze_p f1 ?_
  by_cases f0 : fr = 0
  · exact ze_t f0 rfl
  · exact ze_f f0 (ze_t rfl rfl)
theorem zp_skip (hn : 300 ≤ n) (h : zq_xy n nc nl x y) (hp : zq_pp nc x y a p len) (hl : 1 ≤ len) {lo : Nat} (hlo : lo = 0 ∨ lo = 12) (r13 : zh_S → Nat → Int64 → Int32 → Int32 → Int32 → Int32 → Option (Int32 × zh_S)) : ∀ (r j : Nat), 12 - j = r → nc ≤ j → j ≤ 12 → zl_M_search_105 n r13 n y 44 T (nI dp) st (nI len) (nI (lo + j)) = zl_M_search_105 n r13 n y 44 T (nI dp) st (nI len) (nI (lo + 12)) := by
  intro r
  induction r with
  | zero => intro j hr h1 h2; rw [show j = 12 by omega]
  | succ r ih =>
    intro j hr h1 h2
    have hs : zq_su nc x p len (lo + j) = false := by
      unfold zq_su
      rw [decide_eq_false (show ¬ (lo + j) % 12 < nc by omega)]; rfl
    rw [zp_105n hn h hp hl (by omega) r13 hs]
    exact ih (j + 1) (by omega) (by omega) (by omega)
theorem zq_any_f {P : Nat → Bool} : ∀ (r i : Nat), zq_any P r i = false → ∀ k, i ≤ k → k < i + r → P k = false := by
  intro r
  induction r with
  | zero => intro i _ k h1 h2; omega
  | succ r ih =>
    intro i h k h1 h2
    rw [zq_any, Bool.or_eq_false_iff] at h
    by_cases e : k = i
    · subst e; exact h.1
    · exact ih (i + 1) h.2 k (by omega) (by omega)
/-- the class at one certificate of its loop -/
theorem zp_gt (hn : 300 ≤ n) (h : zq_xy n nc nl x y) (sx : zq_sx x q a T dp st) (hp : zq_pp nc x y a p len) (hl : 1 ≤ len) (hl5 : len < 5) {t : Nat} (ht : zh_I x q 7 = nI t) (ht40 : t < 40) {c : Nat} (hc : c < nc) (an : Bool) (g : zh_S → Nat → Int32 → Option (Int32 × zh_S)) (f : Nat) : zl_Search_goThrough_14 n g (f + 1) x q (nI len) (zq_bi an) (zh_J x (10 + p (len - 1)) 0) (nI c) = if zq_su nc x p len ((if an then 0 else 12) + c) then (if zh_oo (zh_uI x a len (nI c)) q 4 then zk_b (g (zh_uI x a len (nI c)) q (nI (len + 1))) fun i_21 s_19 => if i_21 = 0 then zl_Search_goThrough_14 n g f s_19 q (nI len) (zq_bi an) (zh_J x (10 + p (len - 1)) 0) (nI (c + 1)) else some (1, s_19) else none) else zl_Search_goThrough_14 n g f x q (nI len) (zq_bi an) (zh_J x (10 + p (len - 1)) 0) (nI (c + 1)) := by
  obtain ⟨wx, wy, hx, hy, e⟩ := h
  have hb := hx.1
  have e96 : ∀ s : zh_S, zb_Search_goThrough_96 n g (zl_Search_goThrough_14 n g f) s q (nI len) (zq_bi an) (zh_J x (10 + p (len - 1)) 0) (nI c) = zl_Search_goThrough_14 n g f s q (nI len) (zq_bi an) (zh_J x (10 + p (len - 1)) 0) (nI (c + 1)) := fun s => by
    rw [zb_Search_goThrough_96]
    show zl_Search_goThrough_14 n g f s q (nI len) (zq_bi an) _ (nI c + 1) = _
    rw [zi_1, nI_add]
  have hmod : ((if an then 0 else 12) + c) % 12 = c := by cases an <;> simp <;> omega
  have hlt : decide ((if an then 0 else 12) + c < 12) = an := by
    cases an
    · exact decide_eq_false (by simp)
    · exact decide_eq_true (by simp; omega)
  have hsu : zq_su nc x p len ((if an then 0 else 12) + c) = (decide (zh_I x (10 + c) 18 = zq_bi an) && (decide (zh_J x (10 + c) 7 = zh_J x (10 + p (len - 1)) 0) && !zq_any (fun k => decide (p k = c)) len 0)) := by
    unfold zq_su
    rw [hmod, hlt, decide_eq_true hc, Bool.true_and]
  rw [zl_Search_goThrough_14]
  refine ze_t sx.1 (ze_p sx.2.1 (ze_t ⟨zw_K7 wx, zw_N7 wx⟩ (ze_f (by rw [hx.2.1.1]; exact nI_ge hc (by omega)) (ze_f (by rw [ht]; exact nI_ge (b := 40) ht40 (by decide)) (ze_p sx.2.1 (ze_t ⟨zw_K7 wx, zw_N7 wx⟩ (ze_p (zw_R7_0 wx) (ze_t (zw_A8 wx (by omega)) (ze_p (zw_R8c wx (by omega)) (ze_t (zw_C wx (by omega)) ?_))))))))))
  rw [hsu]
  by_cases e1 : zh_I x (10 + c) 18 = zq_bi an
  · refine ze_t e1 ?_
    by_cases e2 : zh_J x (10 + c) 7 = zh_J x (10 + p (len - 1)) 0
    · refine ze_t ((lg_cmp_eq _ _).mpr e2) (ze_p (zp_inp sx hp hb.1 (show c < 12 by omega) len n 0 (by omega) (by omega) (by omega)) ?_)
      rw [decide_eq_true e1, decide_eq_true e2]
      cases zq_any (fun k => decide (p k = c)) len 0 with
      | true =>
        refine ze_f (by decide) ((e96 x).trans ?_)
        rfl
      | false =>
        refine ze_t rfl (ze_p sx.2.2.1 (ze_t (sx.oa hl5) (ze_l ?_)))
        rw [nI_clamp (by omega), zi_1, nI_add]
        simp only [e96]
        rfl
    · refine ze_f (fun e => e2 ((lg_cmp_eq _ _).mp e)) ((e96 x).trans ?_)
      rw [decide_eq_false e2, Bool.false_and, Bool.and_false]; rfl
  · refine ze_f e1 ((e96 x).trans ?_)
    rw [decide_eq_false e1]; rfl
end LO
