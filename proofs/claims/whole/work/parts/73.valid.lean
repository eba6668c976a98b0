/-! validate. -/
def zh_Y (z : zh_S) (c : Int32) : zh_S := zh_uI (zh_uI (zh_uI (zh_uI z 44 25 0) 44 26 0) 59 0 c) 60 0 0
def zh_A (s : zh_S) (T : Int64) (dp st : Int32) : zh_S := zh_uI (zh_uI (zh_uJ (zh_uR (zh_uI (zh_uI (zh_uI (zh_uR (zh_new (zh_new s (2, 4) 8) (0, 5) 5) (zh_N s) 4 (some (zh_N s + 1))) (zh_N s) 5 0) (zh_N s) 6 0) (zh_N s) 7 0) (zh_N s) 0 (some 7)) (zh_N s) 1 T) (zh_N s) 2 dp) (zh_N s) 3 st
def zh_B (s : zh_S) (T : Int64) (dp st : Int32) : zh_S := zh_uR (zh_A s T dp st) 0 3 (some (zh_N s))
theorem zq_w.uI {s : zh_S} {a k : Nat} {v : Int32} (w : zq_w s) : zq_w (zh_uI s a k v) := w
theorem zi_c0 : (0 : Int32).toNatClampNeg = 0 := by decide
theorem zi_c5 : (5 : Int32).toNatClampNeg = 5 := by decide
section VA
variable {n nc nl : Nat} {s x y : zh_S} {q a : Nat} {T : Int64} {dp : Nat} {st : Int32} {p : Nat → Nat} {len : Nat}
theorem zp_copy {L : Nat} (w : zq_w y) (hL : L ≤ 5) (h1 : 1 ≤ L) (h24 : zh_I y 44 24 = nI L) : ∀ (r f i : Nat) (u : zh_S), L - i = r → i ≤ L → r < f → zq_F (fun b _ => b = 61) y u → (∀ k, k < i → zh_I u 61 k = zh_I y 59 (L - 1 - k)) → ∃ v, zl_M_validate_65 n f u 44 (nI i) = some (nI L, v) ∧ zq_F (fun b _ => b = 61) y v ∧ ∀ k, k < L → zh_I v 61 k = zh_I y 59 (L - 1 - k) := by
  intro r
  induction r with
  | zero =>
    intro f i u hr hi hf g hk
    obtain ⟨f, rfl⟩ : ∃ q, f = q + 1 := ⟨f - 1, by omega⟩
    have wu := g.w w
    have u24 : zh_I u 44 24 = nI L := (g.2 44 24 (by omega)).1.trans h24
    refine ⟨u, ?_, g, fun k h => hk k (by omega)⟩
    rw [zl_M_validate_65, u24]
    exact ze_t ⟨zw_K44 wu, zw_N44 wu⟩ (ze_t (nI_le (by omega) (by omega)) (ze_f (nI_nle (by omega) (by omega)) rfl))
  | succ r ih =>
    intro f i u hr hi hf g hk
    obtain ⟨f, rfl⟩ : ∃ q, f = q + 1 := ⟨f - 1, by omega⟩
    have wu := g.w w
    have u24 : zh_I u 44 24 = nI L := (g.2 44 24 (by omega)).1.trans h24
    have e : nI L - (1 : Int32) - nI i = nI (L - 1 - i) := by rw [zi_1, zi_sub h1, zi_sub (by omega)]
    have g' : zq_F (fun b _ => b = 61) y (zh_uI u 61 i (zh_I u 59 (L - 1 - i))) := g.uI rfl _
    obtain ⟨v, v1, v2, v3⟩ := ih f (i + 1) (zh_uI u 61 i (zh_I u 59 (L - 1 - i))) (by omega) (by omega) (by omega) g' (fun k hk' => by
      rw [zs_II]
      by_cases ek : k = i
      · rw [if_pos ⟨rfl, ek⟩, ek]; exact (g.2 59 _ (by omega)).1
      · rw [if_neg (fun h => ek h.2)]; exact hk k (by omega))
    refine ⟨v, ?_, v2, v3⟩
    rw [zl_M_validate_65, u24, e]
    refine ze_t ⟨zw_K44 wu, zw_N44 wu⟩ (ze_f (nI_ge (by omega) (by omega)) (ze_p (zw_R44_23 wu) (ze_p (zw_R44_21 wu) (ze_t (zw_A59 wu (by omega)) (ze_t (zw_A61 wu (by omega)) (ze_l (ze_l ?_)))))))
    rw [nI_clamp (by omega), nI_clamp (by omega), zi_1, nI_add]
    exact v1
theorem zp_H11 (s : zh_S) (T : Int64) (dp st : Int32) : zq_H (fun _ _ => False) s (zh_A s T dp st) := by
  have irr : zh_N s < zh_N s → (fun (_ _ : Nat) => False) (zh_N s) 0 := Nat.lt_irrefl _
  have h0 : zq_H (fun _ _ => False) s (zh_new s (2, 4) 8) := zq_H.nw s _ _
  have h1 : zq_H (fun _ _ => False) s (zh_new (zh_new s (2, 4) 8) (0, 5) 5) := h0.tr (zq_H.nw _ _ _)
  have h2 := h1.uR (a := zh_N s) (k := 4) (Or.inl (Nat.le_refl _)) (some (zh_N s + 1))
  have h3 := h2.uI (a := zh_N s) (k := 5) irr 0
  have h4 := h3.uI (a := zh_N s) (k := 6) irr 0
  have h5 := h4.uI (a := zh_N s) (k := 7) irr 0
  have h6 := h5.uR (a := zh_N s) (k := 0) (Or.inl (Nat.le_refl _)) (some 7)
  have h7 := h6.uJ (a := zh_N s) (k := 1) irr T
  have h8 := h7.uI (a := zh_N s) (k := 2) irr dp
  exact h8.uI (a := zh_N s) (k := 3) irr st
theorem zp_begin (w : zq_w s) (T : Int64) (dp : Nat) (st : Int32) : zq_H (fun _ _ => False) s (zh_B s T (nI dp) st) ∧ zq_sx (zh_B s T (nI dp) st) (zh_N s) (zh_N s + 1) T dp st ∧ (zh_I (zh_B s T (nI dp) st) (zh_N s) 5 = 0 ∧ zh_I (zh_B s T (nI dp) st) (zh_N s) 6 = 0 ∧ zh_I (zh_B s T (nI dp) st) (zh_N s) 7 = 0) ∧ zh_R (zh_B s T (nI dp) st) 0 3 = some (zh_N s) := by
  have hN := w.n
  have e1 : zh_N (zh_new s (2, 4) 8) = zh_N s + 1 := rfl
  refine ⟨?_, ⟨⟨?_, ?_⟩, ?_, ?_, ⟨?_, ?_⟩, ⟨by omega, by omega, by omega⟩, ?_, ?_, ?_⟩, ⟨?_, ?_, ?_⟩, ?_⟩
  · exact (zp_H11 s T (nI dp) st).uR (Or.inr ⟨rfl, rfl⟩) _
  · show zh_K (zh_new (zh_new s (2, 4) 8) (0, 5) 5) (zh_N s) = _
    rw [zs_nK, e1, if_neg (by omega), zs_nK, if_pos rfl]
  · show zh_N s < zh_N s + 1 + 1
    omega
  · unfold zh_B zh_A
    rw [zs_RR, if_neg (by omega), zs_RI, zs_RI, zs_RJ, zs_RR, if_pos ⟨rfl, rfl⟩]
  · unfold zh_B zh_A
    rw [zs_RR, if_neg (by omega), zs_RI, zs_RI, zs_RJ, zs_RR, if_neg (by omega), zs_RI, zs_RI, zs_RI, zs_RR, if_pos ⟨rfl, rfl⟩]
  · show zh_K (zh_new (zh_new s (2, 4) 8) (0, 5) 5) (zh_N s + 1) = _
    rw [zs_nK, e1, if_pos rfl]
  · show zh_N s + 1 < zh_N s + 1 + 1
    omega
  · unfold zh_B zh_A
    rw [zs_JR, zs_JI, zs_JI, zs_JJ, if_pos ⟨rfl, rfl⟩]
  · unfold zh_B zh_A
    rw [zs_IR, zs_II, if_neg (by omega), zs_II, if_pos ⟨rfl, rfl⟩]
  · unfold zh_B zh_A
    rw [zs_IR, zs_II, if_pos ⟨rfl, rfl⟩]
  · unfold zh_B zh_A
    rw [zs_IR, zs_II, if_neg (by omega), zs_II, if_neg (by omega), zs_IJ, zs_IR, zs_II, if_neg (by omega), zs_II, if_neg (by omega), zs_II, if_pos ⟨rfl, rfl⟩]
  · unfold zh_B zh_A
    rw [zs_IR, zs_II, if_neg (by omega), zs_II, if_neg (by omega), zs_IJ, zs_IR, zs_II, if_neg (by omega), zs_II, if_pos ⟨rfl, rfl⟩]
  · unfold zh_B zh_A
    rw [zs_IR, zs_II, if_neg (by omega), zs_II, if_neg (by omega), zs_IJ, zs_IR, zs_II, if_pos ⟨rfl, rfl⟩]
  · unfold zh_B zh_A
    rw [zs_RR, if_pos ⟨rfl, rfl⟩]
/-- the reference before its search -/
theorem zp_Y {z : zh_S} {c : Nat} (wx : zq_w x) (h : zq_St n x nc nl) (hq : 62 ≤ q ∧ 62 ≤ a ∧ q ≠ a) (f : zq_F (zq_Px q a) x z) (hc : c < nc) (xa : zh_I x a 0 = nI c) (x6 : zh_I x q 6 = 0) (x7 : zh_I x q 7 = 0) : zq_xy n nc nl x (zh_Y z (nI c)) ∧ zq_pp nc x (zh_Y z (nI c)) a (fun _ => c) 1 ∧ zq_T x (zh_Y z (nI c)) q 0 ∧ zh_I (zh_Y z (nI c)) 60 0 = 0 ∧ zq_F zq_Py z (zh_Y z (nI c)) := by
  have hb := h.1
  have g : zq_F zq_Py z (zh_Y z (nI c)) := (((zq_F.rf.uI (by omega) _).uI (by omega) _).uI (by omega) _).uI (by omega) _
  have g' : zq_F (fun b k => zq_Px q a b k ∨ zq_Py b k) x (zh_Y z (nI c)) := (f.mo (fun b k p => Or.inl p)).tr (g.mo (fun b k p => Or.inr p))
  have h0 : zq_xy n nc nl x x := ⟨wx, wx, h, h, fun b k _ => ⟨rfl, rfl⟩⟩
  refine ⟨h0.up (P := fun _ _ => False) zq_F.rf g' (fun b k p => id) (fun b k p => by omega), ⟨by omega, fun k hk => ?_⟩, ⟨x7, ?_, by omega, ?_⟩, ?_, g⟩
  · obtain rfl : k = 0 := by omega
    refine ⟨hc, xa, ?_⟩
    unfold zh_Y
    rw [zs_II, if_neg (by omega), zs_II, if_pos ⟨rfl, rfl⟩]
  · unfold zh_Y
    rw [zs_II, if_neg (by omega), zs_II, if_neg (by omega), zs_II, if_neg (by omega), zs_II, if_pos ⟨rfl, rfl⟩]; rfl
  · unfold zh_Y
    rw [x6, zs_II, if_neg (by omega), zs_II, if_neg (by omega), zs_II, if_pos ⟨rfl, rfl⟩]
  · unfold zh_Y
    rw [zs_II, if_pos ⟨rfl, rfl⟩]
abbrev zq_PV (b k : Nat) : Prop := b = 44 ∧ (k = 24 ∨ k = 25 ∨ k = 26) ∨ b = 59 ∨ b = 60 ∨ b = 61
theorem zp_vend {x' u : zh_S} {f : Nat} (h : zq_In n s) (hx : zq_H (fun _ _ => False) s x) (hM : zh_N x = zh_N s + 2 ∧ zh_M x = zh_M s + 13) (sx : zq_sx x (zh_N s) (zh_N s + 1) T dp st) (x3 : zh_R x 0 3 = some (zh_N s)) (fx : zq_F (zq_Px (zh_N s) (zh_N s + 1)) x x') (fu : zq_F zq_PV x' u) (hf : f ≤ 5) (h5 : zh_I x' (zh_N s) 5 = nI f) (h24 : zh_I u 44 24 = nI f) (h7 : zh_I x' (zh_N s) 7 = zh_I u 44 25) (h61 : ∀ k, k < f → zh_I u 61 k = zh_I x' (zh_N s + 1) (f - 1 - k)) : zq_In n u ∧ zq_Gr s u := by
  obtain ⟨w, ⟨l, I1⟩, ⟨F, A, B, cc, I2⟩, ⟨nc, nl, h3⟩, La⟩ := h
  have hb := h3.1
  have hN := w.n
  have H : zq_H zq_PV s u := (((hx.mo (Q := fun b k => zq_Px (zh_N s) (zh_N s + 1) b k ∨ zq_PV b k) (fun b k _ p => p.elim)).tr (fx.mo (fun b k p => Or.inl p)).h).tr (fu.mo (fun b k p => Or.inr p)).h).mo (fun b k hb p => by omega)
  have sxu : zq_sx u (zh_N s) (zh_N s + 1) T dp st := (sx.up fx (fun k _ _ => by omega)).up fu (fun k _ _ => by omega)
  refine ⟨⟨H.w w, ⟨l, I1.ke w H (fun b k p => by omega)⟩, ⟨F, A, B, cc, I2.ke w H (fun b k p => by omega)⟩, ⟨nc, nl, h3.ke w H (fun b k p => by omega)⟩, Or.inr ⟨zh_N s, zh_N s + 1, f, ?_, ⟨by omega, sxu.1⟩, sxu.2.2.1, ⟨by omega, sxu.2.2.2.1.2, sxu.2.2.2.1.1⟩, hf, ?_, h24, ?_, fun k hk => ?_⟩⟩, ?_⟩
  · rw [fu.1.1, fx.1.1]; exact x3
  · rw [(fu.2 (zh_N s) 5 (by omega)).1]; exact h5
  · rw [(fu.2 (zh_N s) 7 (by omega)).1]; exact h7
  · rw [h61 k hk, (fu.2 (zh_N s + 1) _ (by omega)).1]
  · unfold zq_Gr
    rw [fu.1.2.2.1, fx.1.2.2.1, fu.1.2.2.2, fx.1.2.2.2]
    omega
theorem zp_valid (hn : 1000000 ≤ n) (h : zq_In n s) {c : Nat} (h3 : zq_St n s nc nl) (hc : c < nc) (T0 : ¬ lg_cmp T (0 : Int64) < 0) (d1 : 1 ≤ dp) (d5 : dp ≤ 5) (b : Bool) : ∃ r t u, zf_V_validate n s 0 (nI c) T (nI dp) (zq_bi b) = some (r, t) ∧ zq_w t ∧ zf_M_validate n t 44 (nI c) T (nI dp) (zq_bi b) = some (r, u) ∧ zq_In n u ∧ zq_Gr s u := by
  have w := h.1
  have hN := w.n
  have hb := h3.1
  have nq : zh_N (zh_new s (2, 4) 8) = zh_N s + 1 := rfl
  obtain ⟨hB, sB, ⟨b5, b6, b7⟩, b3⟩ := zp_begin w T dp (zq_bi b)
  obtain ⟨s12, hs12⟩ : ∃ z, z = zh_B s T (nI dp) (zq_bi b) := ⟨_, rfl⟩
  have nB : zh_N s12 = zh_N s + 2 := by rw [hs12]; rfl
  have mB : zh_M s12 = zh_M s + 13 := by rw [hs12]; show zh_M s + 8 + 5 = _; omega
  rw [← hs12] at hB sB b5 b6 b7 b3
  have w12 : zq_w s12 := hB.w w
  obtain ⟨x, hx⟩ : ∃ z, z = zh_uI s12 (zh_N s + 1) 0 (nI c) := ⟨_, rfl⟩
  have fB : zq_F (fun b _ => b = zh_N s + 1) s12 x := by rw [hx]; exact zq_F.rf.uI (P := fun b _ => b = zh_N s + 1) rfl _
  have hX : zq_H (fun _ _ => False) s x := by rw [hx]; exact hB.uI (fun h => by omega) _
  have wx : zq_w x := fB.w w12
  have sx : zq_sx x (zh_N s) (zh_N s + 1) T dp (zq_bi b) := sB.up fB (fun k _ _ => by omega)
  have x5 : zh_I x (zh_N s) 5 = 0 := by rw [(fB.2 (zh_N s) 5 (by omega)).1]; exact b5
  have x6 : zh_I x (zh_N s) 6 = 0 := by rw [(fB.2 (zh_N s) 6 (by omega)).1]; exact b6
  have x7 : zh_I x (zh_N s) 7 = 0 := by rw [(fB.2 (zh_N s) 7 (by omega)).1]; exact b7
  have xa : zh_I x (zh_N s + 1) 0 = nI c := by rw [hx, zs_II, if_pos ⟨rfl, rfl⟩]
  have x3 : zh_R x 0 3 = some (zh_N s) := by rw [fB.1.1]; exact b3
  have hMN : zh_N x = zh_N s + 2 ∧ zh_M x = zh_M s + 13 := by rw [fB.1.2.2.1, fB.1.2.2.2]; exact ⟨nB, mB⟩
  have St : zq_St n x nc nl := h3.ke w hX (fun _ _ _ => id)
  have hq := sx.2.2.2.2.1
  have lk : zq_lk x (fun _ => c) 1 := fun k hk => by omega
  have go := zp_goOn (n := n) (nc := nc) (nl := nl) (q := zh_N s) (a := zh_N s + 1) (T := T) (dp := dp) (st := zq_bi b) (by omega) d5 4 7 1 (by omega) (by omega) (by omega) (by omega)
  have hBd : zq_Bd 4 = 692401 := by decide
  rw [hBd] at go
  -- once for the class alone
  obtain ⟨k1, k2, k3, k4, -⟩ := zp_Y (n := n) (nl := nl) wx St hq (zq_F.rf : zq_F (zq_Px (zh_N s) (zh_N s + 1)) x x) hc xa x6 x7
  obtain ⟨r, x', -, -, g1, -, fx, -⟩ := go x _ _ 0 k1 sx k2 lk k3 (by omega) k4 (by omega)
  -- once more beside the reference
  obtain ⟨j1, j2, j3, j4, j5⟩ := zp_Y (n := n) (nl := nl) wx St hq fx hc xa x6 x7
  obtain ⟨r2, x2, y', m, g2, hm, -, fy, g3⟩ := go x _ _ 0 j1 sx j2 lk j3 (by omega) j4 (by omega)
  obtain ⟨hr, hx2⟩ := Prod.mk.inj (Option.some.inj (g1.symm.trans g2))
  rw [← hr, ← hx2] at g3
  clear g2 hr hx2
  have wx' : zq_w x' := fx.w wx
  have sx' : zq_sx x' (zh_N s) (zh_N s + 1) T dp (zq_bi b) := sx.up fx (fun k _ _ => by omega)
  have x5' : r = 0 ∨ r = 1 := by
    rcases g3 with e | e
    · exact Or.inr e.1
    · exact Or.inl e.1
  have init : zf_Search_init n (zh_new s (2, 4) 8) (zh_N s) 7 T (nI dp) (zq_bi b) = some (zh_A s T (nI dp) (zq_bi b)) := by
    rw [zf_Search_init, zi_c5]
    refine ze_t (by decide) (ze_l (ze_l (ze_t ⟨?_, ?_⟩ (ze_l (ze_l (ze_l (ze_l (ze_l (ze_l (ze_l (ze_t (zq_bi01 b) (ze_l rfl))))))))))))
    · rw [zs_nK, nq, if_neg (by omega), zs_nK, if_pos rfl]
    · show zh_N s < zh_N s + 1 + 1
      omega
  have w6 : zq_w (zh_new s (2, 4) 8) := (zq_H.nw (P := fun _ _ => False) s _ _).w w
  have w11 : zq_w (zh_A s T (nI dp) (zq_bi b)) := (zp_H11 s T (nI dp) (zq_bi b)).w w
  have V : ∀ C, (if r = 0 then (if zh_oo x' (zh_N s) 4 then (if zh_I x' (zh_N s) 7 = 0 then some ((0 : Int32), x') else some ((-10 : Int32) - zh_I x' (zh_N s) 6, x')) else none) else (if zh_oo x' (zh_N s) 4 then some (zh_I x' (zh_N s) 5, x') else none)) = some C → zf_V_validate n s 0 (nI c) T (nI dp) (zq_bi b) = some C := fun C e => by
    have lf : zf_Search_lookFor n s12 (zh_N s) (nI c) = some C := by
      rw [zf_Search_lookFor]
      refine ze_t sB.1 (ze_p sB.2.2.1 (ze_t (sB.oa (k := 0) (by omega)) (ze_l ?_)))
      rw [zi_c0, ← hx]
      exact ze_t sx.1 (ze_b g1 e)
    rw [zf_V_validate]
    refine ze_t ⟨zw_K0 w, zw_N0 w⟩ (ze_p (zw_R0_2 w) (ze_t ⟨zw_K7 w, zw_N7 w⟩ (ze_p (a := 1) ?_ (ze_f (by decide) (ze_f T0 (ze_f (nI_nlt (b := 1) d1 (by omega)) (ze_t (nI_le (b := 5) d5 (by decide)) (ze_l (ze_l (ze_t ⟨zw_K0 w6, zw_N0 w6⟩ (ze_p (zw_R0_2 w6) (ze_p init (ze_t ⟨zw_K0 w11, zw_N0 w11⟩ (ze_l ?_))))))))))))))
    · rw [zf_Shelf_hasCertificate, if_neg (nI_pos (by omega)), if_pos ⟨zw_K7 w, zw_N7 w⟩, h3.2.1.1, if_neg (nI_ge hc (by omega))]
    · show zk_o (zh_R (zh_B s T (nI dp) (zq_bi b)) 0 3) none (fun a_14 => if zh_oo (zh_B s T (nI dp) (zq_bi b)) a_14 4 then zk_b (zf_Search_lookFor n (zh_B s T (nI dp) (zq_bi b)) a_14 (nI c)) fun i_17 s_15 => some (i_17, s_15) else none) = some C
      rw [← hs12]
      exact ze_o b3 (ze_t sB.1 (ze_b lf rfl))
  -- the reference
  have i15 : zh_I x' 44 15 = nI nc := by rw [(fx.2 44 15 (by omega)).1, (hX.c w (by omega) id).1]; exact h3.2.1.2.1
  have M : ∀ (i : Int32) (y2 : zh_S) C, zl_M_search_13 n n (zh_Y x' (nI c)) 44 T (nI dp) (zq_bi b) 1 1 = some (i, y2) → zq_w y2 → zl_M_validate_65 n n (zh_uI y2 44 24 i) 44 0 = some C → zf_M_validate n x' 44 (nI c) T (nI dp) (zq_bi b) = some C := fun i y2 C e wy2 e' => by
    have w3 : zq_w (zh_uI (zh_uI x' 44 25 0) 44 26 0) := wx'.uI.uI
    have w6' : zq_w (zh_uI (zh_uI (zh_uI x' 44 25 0) 44 26 0) 59 0 (nI c)) := w3.uI
    have se : zf_M_search n (zh_uI (zh_uI (zh_uI x' 44 25 0) 44 26 0) 59 0 (nI c)) 44 T (nI dp) (zq_bi b) = some (i, y2) := by
      rw [zf_M_search]
      refine ze_t ⟨zw_K44 w6', zw_N44 w6'⟩ (ze_p (zw_R44_22 w6') (ze_t (zw_A60 w6' (i := 0) (by omega)) (ze_l ?_)))
      rw [zi_c0]
      exact e
    rw [zf_M_validate]
    refine ze_f (nI_pos (by omega)) (ze_t ⟨zw_K44 wx', zw_N44 wx'⟩ (ze_f (by rw [i15]; exact nI_ge hc (by omega)) (ze_f T0 (ze_f (nI_nlt (b := 1) d1 (by omega)) (ze_t (nI_le (b := 5) d5 (by decide)) (ze_l (ze_l (ze_p (zw_R44_21 w3) (ze_t (zw_A59 w3 (i := 0) (by omega)) (ze_l ?_))))))))))
    rw [zi_c0]
    exact ze_t ⟨zw_K44 w6', zw_N44 w6'⟩ (ze_b se (ze_t ⟨zw_K44 wy2, zw_N44 wy2⟩ (ze_l e')))
  have fxy : zq_F zq_Py x' y' := j5.tr fy
  have wy' : zq_w y' := fxy.w wx'
  obtain ⟨f, hf⟩ : ∃ f, n = m + f := ⟨n - m, by omega⟩
  have hf1 : 1 ≤ f := by omega
  rcases g3 with ⟨r1, L, L1, L5, l5, l6, l7, l8⟩ | ⟨r0, q1, q2, q3, t', q4, q5⟩
  · have hs := l8 f hf1
    rw [← hf] at hs
    obtain ⟨v, v1, v2, v3⟩ := zp_copy (n := n) (y := zh_uI y' 44 24 (nI L)) (L := L) wy'.uI L5 L1 (by rw [zs_II, if_pos ⟨rfl, rfl⟩]) L n 0 (zh_uI y' 44 24 (nI L)) (by omega) (by omega) (by omega) zq_F.rf (fun k hk => by omega)
    have fu : zq_F zq_PV x' v := ((fxy.mo (fun b k p => by omega)).uI (by omega) _).tr (v2.mo (fun b k p => by omega))
    have e24 : zh_I v 44 24 = nI L := by rw [(v2.2 44 24 (by omega)).1, zs_II, if_pos ⟨rfl, rfl⟩]
    have e25 : zh_I v 44 25 = zh_I y' 44 25 := by rw [(v2.2 44 25 (by omega)).1, zs_II, if_neg (by omega)]
    obtain ⟨z1, z2⟩ := zp_vend (f := L) h hX hMN sx x3 fx fu L5 l5 e24 (by rw [e25]; exact l7) (fun k hk => by
      rw [v3 k hk, zs_II, if_neg (by omega), l6 _ (by omega)])
    exact ⟨nI L, x', v, V _ (ze_f (by rw [r1]; decide) (ze_t sx'.1 (by rw [l5]))), wx', M _ _ _ hs wy' v1, z1, z2⟩
  · have hs : zl_M_search_13 n n (zh_Y x' (nI c)) 44 T (nI dp) (zq_bi b) 1 1 = some (0, y') := by
      rcases q5 with ⟨-, q5⟩ | ⟨-, q5⟩
      · have := q5 f hf1
        rw [← hf] at this
        exact this
      · have := q5 f hf1
        rw [← hf] at this
        refine this.trans ?_
        obtain ⟨f', rfl⟩ : ∃ q, f = q + 1 := ⟨f - 1, by omega⟩
        show zl_M_search_13 n (f' + 1) y' 44 T (nI dp) (zq_bi b) (nI (1 - 1)) 0 = _
        rw [zl_M_search_13]
        exact ze_t (by decide) rfl
    have wv : zq_w (zh_uI y' 44 24 0) := wy'.uI
    have fu : zq_F zq_PV x' (zh_uI y' 44 24 0) := (fxy.mo (fun b k p => by omega)).uI (by omega) _
    have e24 : zh_I (zh_uI y' 44 24 0) 44 24 = 0 := by rw [zs_II, if_pos ⟨rfl, rfl⟩]
    have e25 : zh_I (zh_uI y' 44 24 0) 44 25 = zh_I y' 44 25 := by rw [zs_II, if_neg (by omega)]
    have e26 : zh_I (zh_uI y' 44 24 0) 44 26 = zh_I y' 44 26 := by rw [zs_II, if_neg (by omega)]
    have t7 : zh_I x' (zh_N s) 7 = zh_I y' 44 25 := by rw [q4.1, q4.2.1]
    obtain ⟨z1, z2⟩ := zp_vend (f := 0) h hX hMN sx x3 fx fu (by omega) (q3.trans x5) e24 (by rw [e25]; exact t7) (fun k hk => by omega)
    obtain ⟨n', hn'⟩ : ∃ q, n = q + 1 := ⟨n - 1, by omega⟩
    have e65 : ∀ C, (if zh_I y' 44 25 = 0 then some ((0 : Int32), zh_uI y' 44 24 0) else some ((-10 : Int32) - zh_I y' 44 26, zh_uI y' 44 24 0)) = some C → zl_M_validate_65 n n (zh_uI y' 44 24 0) 44 0 = some C := fun C e => by
      have : ∀ k, zl_M_validate_65 n (k + 1) (zh_uI y' 44 24 0) 44 0 = some C := fun k => by
        rw [zl_M_validate_65, e24, e25, e26]
        exact ze_t ⟨zw_K44 wv, zw_N44 wv⟩ (ze_t (by decide) (ze_t (by decide) e))
      have h' := this n'
      rw [← hn'] at h'
      exact h'
    by_cases c0 : zh_I y' 44 25 = 0
    · exact ⟨0, x', zh_uI y' 44 24 0, V _ (ze_t r0 (ze_t sx'.1 (ze_t (by rw [t7]; exact c0) rfl))), wx', M _ _ _ hs wy' (e65 _ (ze_t c0 rfl)), z1, z2⟩
    · exact ⟨(-10 : Int32) - zh_I y' 44 26, x', zh_uI y' 44 24 0, V _ (ze_t r0 (ze_t sx'.1 (ze_f (by rw [t7]; exact c0) (by rw [q4.2.2.2])))), wx', M _ _ _ hs wy' (e65 _ (ze_f c0 rfl)), z1, z2⟩
theorem zy_validate (hn : 1000000 ≤ n) (h : zq_In n s) (i1 : Int32) (T : Int64) (i4 : Int32) (b : Bool) : ∃ r t u, zf_V_validate n s 0 i1 T i4 (zq_bi b) = some (r, t) ∧ zq_w t ∧ zf_M_validate n t 44 i1 T i4 (zq_bi b) = some (r, u) ∧ zq_In n u ∧ zq_Gr s u := by
  have h0 := h
  obtain ⟨w, -, -, ⟨nc, nl, h3⟩, -⟩ := h
  have hb := h3.1
  have i7 := h3.2.1.1
  have i44 := h3.2.1.2.1
  have no : zf_V_validate n s 0 i1 T i4 (zq_bi b) = some (-1, s) → zf_M_validate n s 44 i1 T i4 (zq_bi b) = some (-1, s) → ∃ r t u, zf_V_validate n s 0 i1 T i4 (zq_bi b) = some (r, t) ∧ zq_w t ∧ zf_M_validate n t 44 i1 T i4 (zq_bi b) = some (r, u) ∧ zq_In n u ∧ zq_Gr s u := fun e1 e2 => ⟨-1, s, s, e1, w, e2, h0, zq_Gr.rf⟩
  by_cases i0 : i1 < 0
  · refine no ?_ ?_
    · rw [zf_V_validate]
      exact ze_t ⟨zw_K0 w, zw_N0 w⟩ (ze_p (zw_R0_2 w) (ze_t ⟨zw_K7 w, zw_N7 w⟩ (ze_p (a := 0) (by rw [zf_Shelf_hasCertificate, if_pos i0]) (ze_t rfl rfl))))
    · rw [zf_M_validate]
      exact ze_t i0 rfl
  obtain ⟨c, hc, rfl⟩ := zi_of i0
  by_cases hcn' : nc ≤ c
  · refine no ?_ ?_
    · rw [zf_V_validate]
      exact ze_t ⟨zw_K0 w, zw_N0 w⟩ (ze_p (zw_R0_2 w) (ze_t ⟨zw_K7 w, zw_N7 w⟩ (ze_p (a := 0) (by rw [zf_Shelf_hasCertificate, if_neg i0, if_pos ⟨zw_K7 w, zw_N7 w⟩, i7, if_pos (nI_le (by omega) hc)]) (ze_t rfl rfl))))
    · rw [zf_M_validate]
      exact ze_f i0 (ze_t ⟨zw_K44 w, zw_N44 w⟩ (ze_t (by rw [i44]; exact nI_le (by omega) hc) rfl))
  have hcn : c < nc := by omega
  have has : zf_Shelf_hasCertificate n s 7 (nI c) = some 1 := by rw [zf_Shelf_hasCertificate, if_neg i0, if_pos ⟨zw_K7 w, zw_N7 w⟩, i7, if_neg (nI_ge hcn (by omega))]
  have nle : ¬ zh_I s 44 15 ≤ nI c := by rw [i44]; exact nI_ge hcn (by omega)
  by_cases T0 : lg_cmp T (0 : Int64) < 0
  · refine no ?_ ?_
    · rw [zf_V_validate]
      exact ze_t ⟨zw_K0 w, zw_N0 w⟩ (ze_p (zw_R0_2 w) (ze_t ⟨zw_K7 w, zw_N7 w⟩ (ze_p has (ze_f (by decide) (ze_t T0 rfl)))))
    · rw [zf_M_validate]
      exact ze_f i0 (ze_t ⟨zw_K44 w, zw_N44 w⟩ (ze_f nle (ze_t T0 rfl)))
  by_cases i41 : i4 < (1 : Int32)
  · refine no ?_ ?_
    · rw [zf_V_validate]
      exact ze_t ⟨zw_K0 w, zw_N0 w⟩ (ze_p (zw_R0_2 w) (ze_t ⟨zw_K7 w, zw_N7 w⟩ (ze_p has (ze_f (by decide) (ze_f T0 (ze_t i41 rfl))))))
    · rw [zf_M_validate]
      exact ze_f i0 (ze_t ⟨zw_K44 w, zw_N44 w⟩ (ze_f nle (ze_f T0 (ze_t i41 rfl))))
  by_cases i45 : ¬ i4 ≤ (5 : Int32)
  · refine no ?_ ?_
    · rw [zf_V_validate]
      exact ze_t ⟨zw_K0 w, zw_N0 w⟩ (ze_p (zw_R0_2 w) (ze_t ⟨zw_K7 w, zw_N7 w⟩ (ze_p has (ze_f (by decide) (ze_f T0 (ze_f i41 (ze_f i45 rfl)))))))
    · rw [zf_M_validate]
      exact ze_f i0 (ze_t ⟨zw_K44 w, zw_N44 w⟩ (ze_f nle (ze_f T0 (ze_f i41 (ze_f i45 rfl)))))
  replace i45 := Decidable.of_not_not i45
  have i40 : ¬ i4 < 0 := fun e => i41 (Int32.lt_trans e (by decide))
  obtain ⟨dp, hdp, rfl⟩ := zi_of i40
  have d1 : 1 ≤ dp := by
    by_cases e : dp = 0
    · subst e; exact absurd (by decide) i41
    · omega
  have d5 : dp ≤ 5 := by
    by_cases e : dp ≤ 5
    · exact e
    · exact absurd i45 (nI_ge (a := 5) (b := dp) (by omega) (by omega))
  exact zp_valid hn h0 h3 hcn T0 d1 d5 b
end VA
