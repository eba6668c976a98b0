/-! The recursion, level by level. -/
section RU
variable {n nc nl : Nat} {x y : zh_S} {q a : Nat} {T : Int64} {dp : Nat} {st : Int32} {p : Nat → Nat} {len : Nat}
theorem zq_rs.pre {x1 y1 x' y' : zh_S} {r : Int32} {M1 M1' : Nat → Option (Int32 × zh_S)} {M2 : zh_S → Nat → Option (Int32 × zh_S)} {m : Nat} (k : Nat) (fx : zq_F (zq_Px q a) x x1) (fy : zq_F zq_Py y y1) (h60 : ∀ j, j + 1 < len → zh_I y1 60 j = zh_I y 60 j) (h5 : zh_I x1 q 5 = zh_I x q 5) (hM : ∀ f, 1 ≤ f → M1 (k + f) = M1' f) (h : zq_rs nc x1 y1 x' y' q a p len r M1' M2 m) : zq_rs nc x y x' y' q a p len r M1 M2 (k + m) := by
  obtain ⟨h1, h2, h3⟩ := h
  have e : ∀ f, 1 ≤ f → M1 (k + m + f) = M1' (m + f) := fun f hf => by rw [Nat.add_assoc]; exact hM (m + f) (by omega)
  refine ⟨fx.tr h1, fy.tr h2, ?_⟩
  rcases h3 with ⟨h3, L, h4, h5, h6, h7, h8, h9⟩ | ⟨h3, h4, h6, h7, t', h8, h9⟩
  · exact Or.inl ⟨h3, L, h4, h5, h6, h7, h8, fun f hf => (e f hf).trans (h9 f hf)⟩
  · refine Or.inr ⟨h3, h4, fun j hj => (h6 j hj).trans (h60 j hj), h7.trans h5, t', h8, ?_⟩
    rcases h9 with ⟨ht, h9⟩ | ⟨ht, h9⟩
    · exact Or.inl ⟨ht, fun f hf => (e f hf).trans (h9 f hf)⟩
    · exact Or.inr ⟨ht, fun f hf => (e f hf).trans (h9 f hf)⟩
theorem zq_rs.post {x' y' : zh_S} {r : Int32} {M1 : Nat → Option (Int32 × zh_S)} {M2 M2' : zh_S → Nat → Option (Int32 × zh_S)} {m : Nat} (hM : ∀ z f, M2 z f = M2' z f) (h : zq_rs nc x y x' y' q a p len r M1 M2 m) : zq_rs nc x y x' y' q a p len r M1 M2' m := by
  rw [show M2' = M2 from funext fun z => funext fun f => (hM z f).symm]
  exact h
/-- when forty are counted, the class ends its loop -/
theorem zp_g40 (w : zq_w x) (sx : zq_sx x q a T dp st) (ht : zh_I x q 7 = nI 40) (g : zh_S → Nat → Int32 → Option (Int32 × zh_S)) (l an : Int32) (j : Int64) (c : Int32) {f : Nat} (hf : 1 ≤ f) : zl_Search_goThrough_14 n g f x q l an j c = some (0, x) := by
  obtain ⟨f, rfl⟩ : ∃ q, f = q + 1 := ⟨f - 1, by omega⟩
  rw [zl_Search_goThrough_14]
  refine ze_t sx.1 (ze_p sx.2.1 (ze_t ⟨zw_K7 w, zw_N7 w⟩ ?_))
  by_cases h0 : zh_I x 7 2 ≤ c
  · exact ze_t h0 rfl
  · exact ze_f h0 (ze_t (by rw [ht]; decide) rfl)
theorem zp_loop (hn : 300 ≤ n) {B : Nat} {g : zh_S → Nat → Int32 → Option (Int32 × zh_S)} (hg : zq_go n nc nl q a T dp st g (len + 1) B) (hl : 1 ≤ len) (hd : len < dp) (hd5 : dp ≤ 5) (an : Bool) : ∀ (r c f : Nat) (x y : zh_S) (t : Nat), nc - c = r → c ≤ nc → r < f → zq_xy n nc nl x y → zq_sx x q a T dp st → zq_pp nc x y a p len → zq_lk x p len → zq_T x y q t → t < 40 → zh_I x (10 + p (len - 1)) 18 = 0 → ∃ r' x' y' m, zl_Search_goThrough_14 n g f x q (nI len) (zq_bi an) (zh_J x (10 + p (len - 1)) 0) (nI c) = some (r', x') ∧ m ≤ (12 - c) * (B + 1) ∧ zq_rs nc x y x' y' q a p len r' (fun F => zl_M_search_105 n (zl_M_search_13 n F) n y 44 T (nI dp) st (nI len) (nI ((if an then 0 else 12) + c))) (fun y' f => zl_M_search_105 n (zl_M_search_13 n f) n y' 44 T (nI dp) st (nI len) (nI ((if an then 0 else 12) + 12))) m := by
  have hlo : (if an then 0 else 12) = 0 ∨ (if an then 0 else 12) = 12 := by cases an; exact Or.inr rfl; exact Or.inl rfl
  have hlo' : (if an then 0 else 12) ≤ 12 := by cases an <;> decide
  intro r
  induction r with
  | zero =>
    intro c f x y t hr hc hf h sx hp lk hT ht ha
    obtain ⟨f, rfl⟩ : ∃ q, f = q + 1 := ⟨f - 1, by omega⟩
    have hcn : c = nc := by omega
    have hb := h.2.2.1.1
    have wx := h.1
    refine ⟨0, x, y, 0, ?_, Nat.zero_le _, zq_F.rf, zq_F.rf, Or.inr ⟨rfl, hp, fun _ _ => rfl, rfl, t, hT, Or.inr ⟨ht, fun f hf => ?_⟩⟩⟩
    · rw [zl_Search_goThrough_14]
      exact ze_t sx.1 (ze_p sx.2.1 (ze_t ⟨zw_K7 wx, zw_N7 wx⟩ (ze_t (by rw [h.2.2.1.2.1.1]; exact nI_le (by omega) (by omega)) rfl)))
    · show zl_M_search_105 n (zl_M_search_13 n (0 + f)) n y 44 T (nI dp) st (nI len) (nI (_ + c)) = _
      rw [Nat.zero_add]
      exact zp_skip hn h hp hl hlo _ (12 - c) c rfl (by omega) (by omega)
  | succ r ih =>
    intro c f x y t hr hc hf h sx hp lk hT ht ha
    obtain ⟨f, rfl⟩ : ∃ q, f = q + 1 := ⟨f - 1, by omega⟩
    have hb := h.2.2.1.1
    have hq := sx.2.2.2.2.1
    have hp5 := hp.1
    have hpl := (hp.2 (len - 1) (by omega)).1
    have hmul : (12 - c) * (B + 1) = (12 - (c + 1)) * (B + 1) + (B + 1) := by
      rw [show 12 - c = (12 - (c + 1)) + 1 by omega, Nat.succ_mul]
    obtain ⟨lo, hlod⟩ : ∃ lo, lo = (if an then 0 else 12) := ⟨_, rfl⟩
    rw [zp_gt hn h sx hp hl (by omega) hT.1 ht (show c < nc by omega) an g f]
    rw [← hlod] at hlo hlo' ⊢
    cases hs : zq_su nc x p len (lo + c) with
    | false =>
      obtain ⟨r', x', y', m, e1, e2, e3⟩ := ih (c + 1) f x y t (by omega) (by omega) (by omega) h sx hp lk hT ht ha
      rw [← hlod] at e3
      refine ⟨r', x', y', 0 + m, e1, by omega, zq_rs.pre 0 zq_F.rf zq_F.rf (fun _ _ => rfl) rfl (fun f hf => ?_) e3⟩
      show zl_M_search_105 n (zl_M_search_13 n (0 + f)) n y 44 T (nI dp) st (nI len) (nI (lo + c)) = zl_M_search_105 n (zl_M_search_13 n f) n y 44 T (nI dp) st (nI len) (nI (lo + (c + 1)))
      rw [Nat.zero_add]
      exact zp_105n hn h hp hl (by omega) _ hs
    | true =>
      have hmod : (lo + c) % 12 = c := by omega
      obtain ⟨x1, hx1⟩ : ∃ x1, x1 = zh_uI x a len (nI c) := ⟨_, rfl⟩
      obtain ⟨y1, hy1⟩ : ∃ y1, y1 = zh_uI (zh_uI (zh_uI y 60 (len - 1) (nI (lo + c + 1))) 59 len (nI c)) 60 len 0 := ⟨_, rfl⟩
      have fx : zq_F (fun b k => b = a ∧ k = len) x x1 := by rw [hx1]; exact zq_F.rf.uI ⟨rfl, rfl⟩ _
      have fy : zq_F (fun b k => b = 59 ∧ k = len ∨ b = 60 ∧ (k = len ∨ k = len - 1)) y y1 := by rw [hy1]; exact ((zq_F.rf.uI (by omega) _).uI (by omega) _).uI (by omega) _
      have xa : zh_I x1 a len = nI c := by rw [hx1, zs_II, if_pos ⟨rfl, rfl⟩]
      have ya : zh_I y1 59 len = nI c := by rw [hy1, zs_II, if_neg (by omega), zs_II, if_pos ⟨rfl, rfl⟩]
      have yb : zh_I y1 60 len = 0 := by rw [hy1, zs_II, if_pos ⟨rfl, rfl⟩]
      have yc : zh_I y1 60 (len - 1) = nI (lo + c + 1) := by rw [hy1, zs_II, if_neg (by omega), zs_II, if_neg (by omega), zs_II, if_pos ⟨rfl, rfl⟩]
      have M1e : ∀ F, zl_M_search_105 n (zl_M_search_13 n F) n y 44 T (nI dp) st (nI len) (nI (lo + c)) = zl_M_search_13 n F y1 44 T (nI dp) st (nI (len + 1)) 1 := fun F => by
        rw [zp_105s hn h hp hl (by omega) (show lo + c < 24 by omega) _ hs, hmod, hy1]
      rw [← hx1]
      have h1 : zq_xy n nc nl x1 y1 := h.up fx fy (fun b k p => by omega) (fun b k p => by omega)
      have sx1 : zq_sx x1 q a T dp st := sx.up fx (fun k _ _ => by omega)
      obtain ⟨p1, hp1⟩ : ∃ p1 : Nat → Nat, p1 = fun j => if j = len then c else p j := ⟨_, rfl⟩
      have p1l : p1 len = c := by rw [hp1]; exact if_pos rfl
      have p1k : ∀ k, k < len → p1 k = p k := fun k hk => by rw [hp1]; exact if_neg (by omega)
      have hp' := hp.up fx fy (fun k hk => by omega) (fun k hk => by omega)
      have pp1 : zq_pp nc x1 y1 a p1 (len + 1) := ⟨by omega, fun k hk => by
        by_cases e : k = len
        · rw [e, p1l]; exact ⟨by omega, xa, ya⟩
        · rw [p1k k (by omega)]; exact hp'.2 k (by omega)⟩
      have hsu := hs
      unfold zq_su at hsu
      rw [hmod, Bool.and_eq_true, Bool.and_eq_true, Bool.and_eq_true] at hsu
      obtain ⟨-, -, s2, s3⟩ := hsu
      have s2' := of_decide_eq_true s2
      have s3' := zq_any_f len 0 (by rw [Bool.not_eq_true'] at s3; exact s3)
      have lk1 : zq_lk x1 p1 (len + 1) := by
        intro k hk
        by_cases e : k + 1 = len
        · have hk1 : k = len - 1 := by omega
          rw [e, p1l, p1k k (by omega), hk1]
          rw [(fx.2 (10 + p (len - 1)) 0 (by omega)).2, (fx.2 (10 + c) 7 (by omega)).2]
          exact ⟨s2'.symm, of_decide_eq_false (s3' (len - 1) (by omega) (by omega))⟩
        · rw [p1k k (by omega), p1k (k + 1) (by omega)]
          have k1 := (hp.2 k (by omega)).1
          have k2 := (hp.2 (k + 1) (by omega)).1
          rw [(fx.2 (10 + p k) 0 (by omega)).2, (fx.2 (10 + p (k + 1)) 7 (by omega)).2]
          exact lk k (by omega)
      have T1 : zq_T x1 y1 q t := ⟨by rw [(fx.2 q 7 (by omega)).1]; exact hT.1, by rw [(fy.2 44 25 (by omega)).1]; exact hT.2.1, hT.2.2.1, by rw [(fx.2 q 6 (by omega)).1, (fy.2 44 26 (by omega)).1]; exact hT.2.2.2⟩
      obtain ⟨r1, x2, y2, m1, g1, g2, gx, gy, g3⟩ := hg x1 y1 p1 t h1 sx1 pp1 lk1 T1 ht yb (by omega)
      have fx' : zq_F (zq_Px q a) x x1 := fx.mo (fun b k p => by omega)
      have fy' : zq_F zq_Py y y1 := fy.mo (fun b k p => by omega)
      have cl : ∀ C, (if r1 = 0 then zl_Search_goThrough_14 n g f x2 q (nI len) (zq_bi an) (zh_J x (10 + p (len - 1)) 0) (nI (c + 1)) else some (1, x2)) = C → (if true = true then (if zh_oo x1 q 4 then zk_b (g x1 q (nI (len + 1))) fun i_21 s_19 => if i_21 = 0 then zl_Search_goThrough_14 n g f s_19 q (nI len) (zq_bi an) (zh_J x (10 + p (len - 1)) 0) (nI (c + 1)) else some (1, s_19) else none) else zl_Search_goThrough_14 n g f x q (nI len) (zq_bi an) (zh_J x (10 + p (len - 1)) 0) (nI (c + 1))) = C := fun C e => ze_t rfl (ze_t sx1.1 (ze_b g1 e))
      rcases g3 with ⟨hr1, L, l1, l2, l3, l4, l5, l6⟩ | ⟨hr1, q1, q2, q3, t', q4, q5⟩
      · refine ⟨1, x2, y2, m1, cl _ (ze_f (by rw [hr1]; decide) rfl), by omega, fx'.tr gx, fy'.tr gy, Or.inl ⟨rfl, L, l1, l2, l3, l4, l5, fun F hF => ?_⟩⟩
        exact (M1e _).trans (l6 F hF)
      · have hx2 : zq_xy n nc nl x2 y2 := h1.up gx gy (fun b k p => by omega) (fun b k p => by omega)
        have sx2 : zq_sx x2 q a T dp st := sx1.up gx (fun k _ _ => by omega)
        have pp2 : zq_pp nc x2 y2 a p len := ⟨hp5, fun k hk => by rw [← p1k k hk]; exact q1.2 k (by omega)⟩
        have h60 : ∀ j, j + 1 < len → zh_I y2 60 j = zh_I y 60 j := fun j hj => (q2 j (by omega)).trans (by rw [(fy.2 60 j (by omega)).1])
        have h5 : zh_I x2 q 5 = zh_I x q 5 := q3.trans (by rw [(fx.2 q 5 (by omega)).1])
        have fx2 := fx'.tr gx
        have fy2 := fy'.tr gy
        rcases q5 with ⟨ht', q5⟩ | ⟨ht', q5⟩
        · subst ht'
          refine ⟨0, x2, y2, m1, cl _ (ze_t hr1 (zp_g40 hx2.1 sx2 q4.1 g _ _ _ _ (by omega))), by omega, fx2, fy2, Or.inr ⟨rfl, pp2, h60, h5, 40, q4, Or.inl ⟨rfl, fun F hF => ?_⟩⟩⟩
          exact (M1e _).trans (q5 F hF)
        · have lk2 : zq_lk x2 p len := lk.up fx2 (fun k hk => (hp.2 k hk).1) (fun b k _ _ => by omega)
          have ha2 : zh_I x2 (10 + p (len - 1)) 18 = 0 := by rw [(fx2.2 _ 18 (by omega)).1]; exact ha
          have hj2 : zh_J x2 (10 + p (len - 1)) 0 = zh_J x (10 + p (len - 1)) 0 := by rw [(fx2.2 _ 0 (by omega)).2]
          have i60 : zh_I y2 60 (len - 1) = nI (lo + c + 1) := (q2 (len - 1) (by omega)).trans yc
          obtain ⟨r', x', y', m, e1, e2, e3⟩ := ih (c + 1) f x2 y2 t' (by omega) (by omega) (by omega) hx2 sx2 pp2 lk2 q4 ht' ha2
          rw [← hlod] at e3
          rw [hj2] at e1
          refine ⟨r', x', y', (m1 + 1) + m, cl _ (ze_t hr1 e1), by omega, zq_rs.pre (m1 + 1) fx2 fy2 h60 h5 (fun F hF => ?_) e3⟩
          refine (M1e _).trans ((show _ = zl_M_search_13 n (m1 + (F + 1)) y1 44 T (nI dp) st (nI (len + 1)) 1 by rw [show m1 + 1 + F = m1 + (F + 1) by omega]).trans ((q5 (F + 1) (by omega)).trans ?_))
          rw [show len + 1 - 1 = len by omega]
          exact (zp_M13 hx2 pp2 hl q4.2.1 ht' ha2 0 F).trans (zp_78n hx2.2.1 hl (by omega) hd hd5 i60 _)
theorem zp_goT (h : zq_xy n nc nl x y) (sx : zq_sx x q a T dp st) (hp : zq_pp nc x y a p len) (hl : 1 ≤ len) (g : zh_S → Nat → Int32 → Option (Int32 × zh_S)) (i : Int32) : zf_Search_goThrough n g x q (nI len) i = zl_Search_goThrough_14 n g n x q (nI len) i (zh_J x (10 + p (len - 1)) 0) (nI 0) := by
  have hb := h.2.2.1.1
  have hpl := (hp.2 (len - 1) (by omega)).1
  have e1 : nI len - (1 : Int32) = nI (len - 1) := by rw [zi_1, zi_sub hl]
  rw [zf_Search_goThrough]
  exact ze_t sx.1 (ze_p (by rw [e1]; exact zp_inPart h.1 hb.1 sx hp (by omega)) (ze_t (zw_C h.1 (by omega)) (ze_l rfl)))
def zq_Bd : Nat → Nat
  | 0 => 1
  | r + 1 => 1 + 24 * (zq_Bd r + 1)
theorem zq_Bd1 : ∀ r, 1 ≤ zq_Bd r
  | 0 => Nat.le_refl 1
  | r + 1 => by rw [zq_Bd]; omega
/-- an anchor: the candidate is tried -/
theorem zp_anchor (hn : 300 ≤ n) (D : Nat) (h : zq_xy n nc nl x y) (sx : zq_sx x q a T dp st) (hp : zq_pp nc x y a p len) (lk : zq_lk x p len) (hl : 1 ≤ len) {t : Nat} (hT : zq_T x y q t) (ht : t < 40) (ha : zh_I x (10 + p (len - 1)) 18 = 1) : ∃ r x' y', zf_Search_goOn n (D + 1) x q (nI len) = some (r, x') ∧ zq_rs nc x y x' y' q a p len r (fun F => zl_M_search_13 n F y 44 T (nI dp) st (nI len) 1) (fun y' f => zl_M_search_13 n f y' 44 T (nI dp) st (nI (len - 1)) 0) 1 := by
  have hb := h.2.2.1.1
  have wx := h.1
  have wy := h.2.1
  have hq := sx.2.2.2.2.1
  have hp5 := hp.1
  have hl1 := hp.2 (len - 1) (by omega)
  have e1 : nI len - (1 : Int32) = nI (len - 1) := by rw [zi_1, zi_sub hl]
  have i59 : zh_I y 59 ((nI len - (1 : Int32)).toNatClampNeg) = nI (p (len - 1)) := by rw [e1, nI_clamp (by omega)]; exact hl1.2.2
  obtain ⟨an, au, sr, x18, -, -, f1, -, -⟩ := zp_flags3 h hl1.1
  have han : an = true := by rw [x18] at ha; cases an; exact absurd ha (by decide); rfl
  subst han
  have fy : zq_F zq_Py y (zh_uI y 44 25 (zh_I y 44 25 + 1)) := zq_F.rf.uI (by omega) _
  have fx : zq_F (zq_Px q a) x x := zq_F.rf
  obtain ⟨r, x', y', g1, g2, g3, g4, g5, g6, g7, gx, gy⟩ := zp_try hn (h.up fx fy (fun b k p => by omega) (fun b k p => by omega)) sx (hp.up (P := fun _ _ => False) zq_F.rf (zq_F.rf.uI (P := fun b k => b = 44) rfl _ : zq_F (fun b k => b = 44) y (zh_uI y 44 25 (zh_I y 44 25 + 1))) (fun k hk => id) (fun k hk => by omega)) lk hl
  have gx' : zq_F (zq_Px q a) x x' := gx.mo (fun b k p => by omega)
  have gy' : zq_F zq_Py y y' := fy.tr (gy.mo (fun b k p => by omega))
  have fyy : zq_F (fun b k => b = 44 ∧ (k = 25 ∨ k = 26)) y y' := (zq_F.rf.uI (by omega) _ : zq_F (fun b k => b = 44 ∧ (k = 25 ∨ k = 26)) y (zh_uI y 44 25 (zh_I y 44 25 + 1))).tr (gy.mo (fun b k p => by omega))
  have y25 : zh_I y' 44 25 = nI (t + 1) := by rw [(gy.2 44 25 (by omega)).1, zs_II, if_pos ⟨rfl, rfl⟩, hT.2.1, zi_1, nI_add]
  have x7 : zh_I x' q 7 = nI (t + 1) := by rw [g5, hT.1, zi_1, nI_add]
  have hp' : zq_pp nc x' y' a p len := hp.up gx fyy (fun k hk => by omega) (fun k hk => by omega)
  have M1e : ∀ F C, (if r = 0 then zb_M_search_78 n (zl_M_search_13 n F) y' 44 T (nI dp) st (nI len) 1 else some (nI len, y')) = C → zl_M_search_13 n (1 + F) y 44 T (nI dp) st (nI len) 1 = C := fun F C e => by
    rw [Nat.add_comm, zl_M_search_13]
    refine ze_f (nI_nle (by omega) (by omega)) (ze_t ⟨zw_K44 wy, zw_N44 wy⟩ (ze_f (by rw [hT.2.1]; exact nI_ge (b := 40) ht (by decide)) (ze_p (zw_R44_21 wy) (ze_t (by rw [e1]; exact zw_A59 wy (by omega)) ?_))))
    rw [i59]
    exact ze_p f1 (ze_f (by decide) (ze_f (by decide) (ze_l (ze_b g2 e))))
  refine ⟨r, x', y', ?_, gx', gy', ?_⟩
  · rw [zf_Search_goOn]
    exact ze_l (ze_t sx.1 (ze_p (by rw [e1]; exact zp_inPart wx hb.1 sx hp (by omega)) (ze_t (zw_C wx (by omega)) (ze_f (by rw [x18]; decide) (ze_b g1 (ze_t g3 rfl))))))
  · rcases g3 with r0 | r1
    · refine Or.inr ⟨r0, hp', fun j _ => by rw [(fyy.2 60 j (by omega)).1], g7 r0, t + 1, ⟨x7, y25, by omega, g4⟩, ?_⟩
      by_cases ht' : t + 1 = 40
      · exact Or.inl ⟨ht', fun F hF => M1e F _ (ze_t r0 ((zp_78a hn hl _).trans (zp_M40 (gy'.w wy) (by rw [y25, ht']) _ _ hF)))⟩
      · exact Or.inr ⟨by omega, fun F hF => M1e F _ (ze_t r0 (zp_78a hn hl _))⟩
    · refine Or.inl ⟨r1, len, hl, hp5, g6 r1, fun k hk => by rw [(hp'.2 k hk).2.1, (hp'.2 k hk).2.2], by rw [x7, y25], fun F hF => M1e F _ (ze_f (by rw [r1]; decide) rfl)⟩
/-- the search, from a certificate on -/
theorem zp_goOn (hn : 300 ≤ n) (hd5 : dp ≤ 5) : ∀ (rd D len : Nat), 5 - len = rd → 1 ≤ len → len ≤ 5 → rd < D → zq_go n nc nl q a T dp st (zf_Search_goOn n D) len (zq_Bd rd) := by
  intro rd
  induction rd with
  | zero =>
    intro D len hr hl hl5 hD x y p t h sx hp lk hT ht h60 hld
    obtain ⟨D, rfl⟩ : ∃ q, D = q + 1 := ⟨D - 1, by omega⟩
    have hb := h.2.2.1.1
    have hl1 := (hp.2 (len - 1) (by omega)).1
    have e1 : nI len - (1 : Int32) = nI (len - 1) := by rw [zi_1, zi_sub hl]
    obtain ⟨an, -, -, x18, -⟩ := zp_flags3 h hl1
    cases an with
    | true =>
      obtain ⟨r, x', y', g1, g2⟩ := zp_anchor hn D h sx hp lk hl hT ht x18
      exact ⟨r, x', y', 1, g1, Nat.le_refl _, g2⟩
    | false =>
      have hdl : len = dp := by omega
      refine ⟨0, x, y, 1, ?_, Nat.le_refl _, zq_F.rf, zq_F.rf, Or.inr ⟨rfl, hp, fun _ _ => rfl, rfl, t, hT, Or.inr ⟨ht, fun f hf => ?_⟩⟩⟩
      · rw [zf_Search_goOn]
        exact ze_l (ze_t sx.1 (ze_p (by rw [e1]; exact zp_inPart h.1 hb.1 sx hp (by omega)) (ze_t (zw_C h.1 (by omega)) (ze_t x18 (ze_t (by rw [sx.2.2.2.2.2.2.1]; exact nI_le (by omega) (by omega)) rfl)))))
      · show zl_M_search_13 n (1 + f) y 44 T (nI dp) st (nI len) 1 = _
        rw [Nat.add_comm]
        exact (zp_M13 h hp hl hT.2.1 ht x18 1 f).trans (zp_78d hn hl hdl _)
  | succ rd ih =>
    intro D len hr hl hl5 hD x y p t h sx hp lk hT ht h60 hld
    obtain ⟨D, rfl⟩ : ∃ q, D = q + 1 := ⟨D - 1, by omega⟩
    have hB := zq_Bd1 (rd + 1)
    have hb := h.2.2.1.1
    have hq := sx.2.2.2.2.1
    have hl1 := (hp.2 (len - 1) (by omega)).1
    have e1 : nI len - (1 : Int32) = nI (len - 1) := by rw [zi_1, zi_sub hl]
    obtain ⟨an, -, -, x18, -⟩ := zp_flags3 h hl1
    cases an with
    | true =>
      obtain ⟨r, x', y', g1, g2⟩ := zp_anchor hn D h sx hp lk hl hT ht x18
      exact ⟨r, x', y', 1, g1, hB, g2⟩
    | false =>
      by_cases hdl : len = dp
      · refine ⟨0, x, y, 1, ?_, hB, zq_F.rf, zq_F.rf, Or.inr ⟨rfl, hp, fun _ _ => rfl, rfl, t, hT, Or.inr ⟨ht, fun f hf => ?_⟩⟩⟩
        · rw [zf_Search_goOn]
          exact ze_l (ze_t sx.1 (ze_p (by rw [e1]; exact zp_inPart h.1 hb.1 sx hp (by omega)) (ze_t (zw_C h.1 (by omega)) (ze_t x18 (ze_t (by rw [sx.2.2.2.2.2.2.1]; exact nI_le (by omega) (by omega)) rfl)))))
        · show zl_M_search_13 n (1 + f) y 44 T (nI dp) st (nI len) 1 = _
          rw [Nat.add_comm]
          exact (zp_M13 h hp hl hT.2.1 ht x18 1 f).trans (zp_78d hn hl hdl _)
      · have hg := ih D (len + 1) (by omega) (by omega) (by omega) (by omega)
        have hd : len < dp := by omega
        obtain ⟨r1, x1, y1, m1, l1, b1, s1⟩ := zp_loop (p := p) hn hg hl hd hd5 true nc 0 n x y t (by omega) (by omega) (by omega) h sx hp lk hT ht x18
        have M1e : ∀ f, 1 ≤ f → zl_M_search_13 n (1 + f) y 44 T (nI dp) st (nI len) 1 = zl_M_search_105 n (zl_M_search_13 n f) n y 44 T (nI dp) st (nI len) (nI (0 + 0)) := fun f hf => by
          rw [Nat.add_comm]
          exact (zp_M13 h hp hl hT.2.1 ht x18 1 f).trans (zp_78n h.2.1 hl hl5 hd hd5 (i := 0) h60 _)
        have s1' := zq_rs.pre (x := x) (y := y) (M1 := fun F => zl_M_search_13 n F y 44 T (nI dp) st (nI len) 1) 1 zq_F.rf zq_F.rf (fun _ _ => rfl) rfl M1e s1
        have bB : zq_Bd (rd + 1) = 1 + 24 * (zq_Bd rd + 1) := rfl
        have cl : ∀ C, (if r1 = 0 then (if zh_oo x1 q 4 then zk_b (zf_Search_goThrough n (zf_Search_goOn n D) x1 q (nI len) (0 : Int32)) fun i_8 s_6 => if i_8 = 0 then some ((0 : Int32), s_6) else some ((1 : Int32), s_6) else none) else some ((1 : Int32), x1)) = C → zf_Search_goOn n (D + 1) x q (nI len) = C := fun C e => by
          rw [zf_Search_goOn]
          exact ze_l (ze_t sx.1 (ze_p (by rw [e1]; exact zp_inPart h.1 hb.1 sx hp (by omega)) (ze_t (zw_C h.1 (by omega)) (ze_t x18 (ze_f (by rw [sx.2.2.2.2.2.2.1]; exact nI_ge hd (by omega)) (ze_b ((zp_goT h sx hp hl _ 1).trans l1) e))))))
        obtain ⟨fx, fy, s2⟩ := s1'
        rcases s2 with ⟨hr1, s2⟩ | ⟨hr1, q1, q2, q3, t', q4, q5⟩
        · exact ⟨1, x1, y1, 1 + m1, cl _ (ze_f (by rw [hr1]; decide) rfl), by omega, fx, fy, Or.inl ⟨rfl, s2⟩⟩
        · have h1 : zq_xy n nc nl x1 y1 := h.up fx fy (fun b k p => by omega) (fun b k p => by omega)
          have sx1 : zq_sx x1 q a T dp st := sx.up fx (fun k _ _ => by omega)
          have lk1 : zq_lk x1 p len := lk.up fx (fun k hk => (hp.2 k hk).1) (fun b k _ _ => by omega)
          have hp5 := hp.1
          rcases q5 with ⟨ht', q5⟩ | ⟨ht', q5⟩
          · subst ht'
            refine ⟨0, x1, y1, 1 + m1, cl _ (ze_t hr1 (ze_t sx1.1 (ze_b ((zp_goT h1 sx1 q1 hl _ 0).trans (zp_g40 h1.1 sx1 q4.1 _ _ _ _ _ (by omega))) (ze_t rfl rfl)))), by omega, fx, fy, Or.inr ⟨rfl, q1, q2, q3, 40, q4, Or.inl ⟨rfl, q5⟩⟩⟩
          · have ha1 : zh_I x1 (10 + p (len - 1)) 18 = 0 := by rw [(fx.2 _ 18 (by omega)).1]; exact x18
            obtain ⟨r2, x2, y2, m2, l2, b2, s3⟩ := zp_loop (p := p) hn hg hl hd hd5 false nc 0 n x1 y1 t' (by omega) (by omega) (by omega) h1 sx1 q1 lk1 q4 ht' ha1
            have s4 := zq_rs.pre (x := x) (y := y) (M1 := fun F => zl_M_search_13 n F y 44 T (nI dp) st (nI len) 1) (1 + m1) fx fy q2 q3 q5 s3
            have s5 := s4.post (M2' := fun y' f => zl_M_search_13 n f y' 44 T (nI dp) st (nI (len - 1)) 0) (fun z f => zp_105e hn hl _)
            have hr2 : r2 = 0 ∨ r2 = 1 := by
              rcases s3.2.2 with e | e
              · exact Or.inr e.1
              · exact Or.inl e.1
            refine ⟨r2, x2, y2, 1 + m1 + m2, cl _ (ze_t hr1 (ze_t sx1.1 (ze_b ((zp_goT h1 sx1 q1 hl _ 0).trans l2) ?_))), by omega, s5⟩
            rcases hr2 with e | e
            · rw [e]; exact ze_t rfl rfl
            · rw [e]; exact ze_f (by decide) rfl
end RU
