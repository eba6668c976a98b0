/-! The list that is taken. -/
theorem ze_t {c : Prop} [Decidable c] {β : Type} {A B C : β} (h : c) (k : A = C) : (if c then A else B) = C := by rw [if_pos h]; exact k
theorem ze_f {c : Prop} [Decidable c] {β : Type} {A B C : β} (h : ¬ c) (k : B = C) : (if c then A else B) = C := by rw [if_neg h]; exact k
theorem ze_l {α β : Type} {e : α} {f : α → Option β} {C : Option β} (k : f e = C) : zk_l e f = C := k
theorem ze_p {α β : Type} {o : Option α} {a : α} {f : α → Option β} {C : Option β} (h : o = some a) (k : f a = C) : zk_p o f = C := by rw [h]; exact k
theorem ze_b {α β γ : Type} {o : Option (α × γ)} {a : α} {b : γ} {f : α → γ → Option β} {C : Option β} (h : o = some (a, b)) (k : f a b = C) : zk_b o f = C := by rw [h]; exact k
theorem ze_o {β : Type} {o : Option Nat} {x : Nat} {a : Option β} {f : Nat → Option β} {C : Option β} (h : o = some x) (k : f x = C) : zk_o o a f = C := by rw [h]; exact k
theorem ze_n {β : Type} {o : Option Nat} {a : Option β} {f : Nat → Option β} {C : Option β} (h : o = none) (k : a = C) : zk_o o a f = C := by rw [h]; exact k
def zq_nB (x : zh_S) (c i : Nat) (T : Int64) : Bool := decide (zh_J x (23 + 3 * i) 0 = zh_J x (10 + c) 0) && zq_tB x (23 + 3 * i) T
def zq_wB (x : zh_S) (o : Option Nat) (i : Nat) : Bool := match o with
  | none => true
  | some b => decide (zh_J x (23 + 3 * b) 1 < zh_J x (23 + 3 * i) 1)
theorem zq_wB_s (x : zh_S) (b i : Nat) : zq_wB x (some b) i = decide (zh_J x (23 + 3 * b) 1 < zh_J x (23 + 3 * i) 1) := rfl
def zq_nt (n : Nat) (x : zh_S) (c d : Nat) (T : Int64) (o : Option Nat) (i : Nat) : Option Nat := if zq_nB x c i T && (zq_gB n x (23 + 3 * i) d && zq_wB x o i) then some i else o
def zq_lo_ (o : Option Nat) : Option Nat := match o with
  | none => none
  | some b => some (23 + 3 * b)
def zq_lc (o : Option Nat) : Int32 := match o with
  | none => -1
  | some b => nI b
section TK
variable {n nc nl : Nat} {x y : zh_S} {q a : Nat} {T : Int64} {dp : Nat} {st : Int32}
theorem zp_101 (f c d i : Nat) (o : Option Nat) : zb_Search_takeList_101 n (zl_Search_takeList_23 n f) x q c (nI d) o (nI i) = zl_Search_takeList_23 n f x q c (nI d) o (nI (i + 1)) := by
  cases o <;> (show zl_Search_takeList_23 n f x q c (nI d) _ (nI i + 1) = _; rw [zi_1, nI_add])
/-- one turn of the class -/
theorem zp_tkV {c d i : Nat} (w : zq_w x) (h : zq_St n x nc nl) (sx : zq_sx x q a T dp st) (hc : c < nc) (hd : d < nc) (hi : i < nl) (hj : zh_J x (10 + c) 0 = zh_J x (10 + d) 7) (f : Nat) (o : Option Nat) (ho : ∀ b, o = some b → b < nl) : zl_Search_takeList_23 n (f + 1) x q (10 + c) (nI d) (zq_lo_ o) (nI i) = zl_Search_takeList_23 n f x q (10 + c) (nI d) (zq_lo_ (zq_nt n x c d T o i)) (nI (i + 1)) := by
  have hb := h.1
  have i3 := h.2.1.2.2.1
  have nle : ¬ zh_I x 7 3 ≤ nI i := by rw [i3]; exact nI_ge hi (by omega)
  have oL := zw_L w (L := 23 + 3 * i) (by omega)
  have oC := zw_C w (c := 10 + c) (by omega)
  have tim := zp_timR (n := n) (T := zh_J x q 1) oL
  rw [sx.2.2.2.2.2.1] at tim
  have tim' : zf_Signed_isTimely_R n x (23 + 3 * i) (zh_J x q 1) = some (zq_bi (zq_tB x (23 + 3 * i) T)) := by rw [sx.2.2.2.2.2.1]; exact tim
  have e98 : zb_Search_takeList_98 n (zl_Search_takeList_23 n f) x q (10 + c) (nI d) (nI i) (23 + 3 * i) = zl_Search_takeList_23 n f x q (10 + c) (nI d) (some (23 + 3 * i)) (nI (i + 1)) := zp_101 f _ _ _ _
  have no : ∀ o : Option Nat, zq_nB x c i T = false → zq_nt n x c d T o i = o := fun o e => by unfold zq_nt; rw [e]; rfl
  have ng : ∀ o : Option Nat, zq_gB n x (23 + 3 * i) d = false → zq_nt n x c d T o i = o := fun o e => by unfold zq_nt; rw [e, Bool.false_and, Bool.and_false]; rfl
  rw [zl_Search_takeList_23]
  cases o with
  | none =>
    refine ze_n rfl (ze_t sx.1 (ze_p sx.2.1 (ze_t ⟨zw_K7 w, zw_N7 w⟩ (ze_f nle (ze_p sx.2.1 (ze_t ⟨zw_K7 w, zw_N7 w⟩ (ze_p (zw_R7_1 w) (ze_t (zw_A9 w (by omega)) (ze_p (zw_R9c w (by omega)) (ze_t oL (ze_t oC ?_)))))))))))
    by_cases e0 : zh_J x (23 + 3 * i) 0 = zh_J x (10 + c) 0
    · refine ze_t ((lg_cmp_eq _ _).mpr e0) (ze_p tim' ?_)
      cases hT : zq_tB x (23 + 3 * i) T with
      | false =>
        refine ze_t rfl ((zp_101 f _ _ _ _).trans ?_)
        rw [no none (by unfold zq_nB; rw [hT, Bool.and_false])]; rfl
      | true =>
        refine ze_f (by decide) (ze_p (zp_sgnR w h hi hd (e0.trans hj)) ?_)
        cases hG : zq_gB n x (23 + 3 * i) d with
        | false =>
          refine ze_t rfl ((zp_101 f _ _ _ _).trans ?_)
          rw [ng none hG]; rfl
        | true =>
          refine ze_f (by decide) (e98.trans ?_)
          have : zq_nt n x c d T none i = some i := by unfold zq_nt zq_nB zq_wB; rw [decide_eq_true e0, hT, hG]; rfl
          rw [this]; rfl
    · refine ze_f (fun e => e0 ((lg_cmp_eq _ _).mp e)) ((zp_101 f _ _ _ _).trans ?_)
      rw [no none (by unfold zq_nB; rw [decide_eq_false e0, Bool.false_and])]; rfl
  | some b =>
    have hbl := ho b rfl
    have oB := zw_L w (L := 23 + 3 * b) (by omega)
    refine ze_o rfl (ze_t sx.1 (ze_p sx.2.1 (ze_t ⟨zw_K7 w, zw_N7 w⟩ (ze_f nle (ze_p sx.2.1 (ze_t ⟨zw_K7 w, zw_N7 w⟩ (ze_p (zw_R7_1 w) (ze_t (zw_A9 w (by omega)) (ze_p (zw_R9c w (by omega)) (ze_t oL (ze_t oC ?_)))))))))))
    by_cases e0 : zh_J x (23 + 3 * i) 0 = zh_J x (10 + c) 0
    · refine ze_t ((lg_cmp_eq _ _).mpr e0) (ze_p tim' ?_)
      cases hT : zq_tB x (23 + 3 * i) T with
      | false =>
        refine ze_t rfl ((zp_101 f _ _ _ _).trans ?_)
        rw [no (some b) (by unfold zq_nB; rw [hT, Bool.and_false])]; rfl
      | true =>
        refine ze_f (by decide) (ze_p (zp_sgnR w h hi hd (e0.trans hj)) ?_)
        cases hG : zq_gB n x (23 + 3 * i) d with
        | false =>
          refine ze_t rfl ((zp_101 f _ _ _ _).trans ?_)
          rw [ng (some b) hG]; rfl
        | true =>
          refine ze_f (by decide) (ze_t oB ?_)
          by_cases hw : zh_J x (23 + 3 * b) 1 < zh_J x (23 + 3 * i) 1
          · refine ze_f (fun e => absurd hw (Int64.not_lt.mpr ((lg_cmp_le _ _).mp e))) (e98.trans ?_)
            have : zq_nt n x c d T (some b) i = some i := by unfold zq_nt zq_nB; rw [zq_wB_s, decide_eq_true e0, hT, hG, decide_eq_true hw]; rfl
            rw [this]; rfl
          · refine ze_t ((lg_cmp_le _ _).mpr (Int64.not_lt.mp hw)) ((zp_101 f _ _ _ _).trans ?_)
            have : zq_nt n x c d T (some b) i = some b := by unfold zq_nt zq_nB; rw [zq_wB_s, decide_eq_true e0, hT, hG, decide_eq_false hw]; rfl
            rw [this]; rfl
    · refine ze_f (fun e => e0 ((lg_cmp_eq _ _).mp e)) ((zp_101 f _ _ _ _).trans ?_)
      rw [no (some b) (by unfold zq_nB; rw [decide_eq_false e0, Bool.false_and])]; rfl
/-- the second half of a turn of the reference -/
theorem zp_98M (hn : 300 ≤ n) {c d i : Nat} (w : zq_w y) (h : zq_St n y nc nl) (hd : d < nc) (hi : i < nl) (f : Nat) (us : Int64) (o : Option Nat) (ho : ∀ b, o = some b → b < nl) (now : Bool) : zb_M_listFor_98 n (zl_M_listFor_15 n f) y 44 (nI c) (nI d) T (zq_lc o) us (nI i) (zq_bi now) = zl_M_listFor_15 n f y 44 (nI c) (nI d) T (zq_lc (if now && (zq_gB n y (23 + 3 * i) d && zq_wB y o i) then some i else o)) us (nI (i + 1)) := by
  have hb := h.1
  have ix : ∀ b k : Nat, (6 : Int32) * nI b + nI k = nI (6 * b + k) := fun b k => by rw [zi_6, zi_mul, nI_add]
  obtain ⟨⟨v0, v1, v2, v4, v5⟩, -⟩ := h.2.2.2.1 i hi
  have e186 : ∀ z : Int32, zb_M_listFor_186 n (zl_M_listFor_15 n f) y 44 (nI c) (nI d) T z us (nI i) = zl_M_listFor_15 n f y 44 (nI c) (nI d) T z us (nI (i + 1)) := fun z => by
    rw [zb_M_listFor_186]; show zl_M_listFor_15 n f y 44 (nI c) (nI d) T z us (nI i + 1) = _; rw [zi_1, nI_add]
  have e138 : ∀ W : Bool, zb_M_listFor_138 n (zl_M_listFor_15 n f) y 44 (nI c) (nI d) T (zq_lc o) us (nI i) (zq_bi now) (zq_bi W) = zl_M_listFor_15 n f y 44 (nI c) (nI d) T (zq_lc (if now && (zq_gB n y (23 + 3 * i) d && W) then some i else o)) us (nI (i + 1)) := by
    intro W
    rw [zb_M_listFor_138]
    cases now with
    | false => exact ze_t rfl (e186 _)
    | true =>
      refine ze_f (by decide) ?_
      cases W with
      | false => refine ze_t rfl ((e186 _).trans ?_); rw [Bool.and_false]; rfl
      | true =>
        have s4 : zh_J y 56 (((6 : Int32) * nI i + (4 : Int32)).toNatClampNeg) = zh_J y (23 + 3 * i) 3 := by rw [zi_4, ix, nI_clamp (by omega)]; exact v4
        have s5 : zh_J y 56 (((6 : Int32) * nI i + (5 : Int32)).toNatClampNeg) = (zh_I y (23 + 3 * i) 4).toInt64 := by rw [zi_5, ix, nI_clamp (by omega)]; exact v5
        refine ze_f (by decide) (ze_t ⟨zw_K44 w, zw_N44 w⟩ (ze_p (zw_R44_18 w) (ze_t (by rw [zi_4, ix]; exact zw_A56 w (by omega)) (ze_p (zw_R44_18 w) (ze_t (by rw [zi_5, ix]; exact zw_A56 w (by omega)) (ze_p (zp_msgn hn w h hd s4 s5) ?_))))))
        cases hG : zq_gB n y (23 + 3 * i) d with
        | false => exact ze_t rfl (e186 _)
        | true => exact ze_f (by decide) (e186 _)
  rw [zb_M_listFor_98]
  cases o with
  | none => exact ze_t (show (-1 : Int32) < 0 by decide) (e138 true)
  | some b =>
    have hbl := ho b rfl
    obtain ⟨⟨u0, u1, -⟩, -⟩ := h.2.2.2.1 b hbl
    have s1 : zh_J y 56 (((6 : Int32) * nI i + (1 : Int32)).toNatClampNeg) = zh_J y (23 + 3 * i) 1 := by rw [zi_1, ix, nI_clamp (by omega)]; exact v1
    have s2 : zh_J y 56 (((6 : Int32) * nI b + (1 : Int32)).toNatClampNeg) = zh_J y (23 + 3 * b) 1 := by rw [zi_1, ix, nI_clamp (by omega)]; exact u1
    refine ze_f (show ¬ nI b < 0 from nI_pos (by omega)) (ze_t ⟨zw_K44 w, zw_N44 w⟩ (ze_p (zw_R44_18 w) (ze_t (by rw [zi_1, ix]; exact zw_A56 w (by omega)) (ze_p (zw_R44_18 w) (ze_t (show zh_oa y 56 1 ((6 : Int32) * nI b + (1 : Int32)) by rw [zi_1, ix]; exact zw_A56 w (by omega)) ?_)))))
    show (if lg_cmp (zh_J y 56 (((6 : Int32) * nI i + (1 : Int32)).toNatClampNeg)) (zh_J y 56 (((6 : Int32) * nI b + (1 : Int32)).toNatClampNeg)) ≤ 0 then zb_M_listFor_138 n (zl_M_listFor_15 n f) y 44 (nI c) (nI d) T (zq_lc (some b)) us (nI i) (zq_bi now) (zq_bi false) else zb_M_listFor_138 n (zl_M_listFor_15 n f) y 44 (nI c) (nI d) T (zq_lc (some b)) us (nI i) (zq_bi now) (zq_bi true)) = _
    rw [s1, s2]
    by_cases hw : zh_J y (23 + 3 * b) 1 < zh_J y (23 + 3 * i) 1
    · refine ze_f (fun e => absurd hw (Int64.not_lt.mpr ((lg_cmp_le _ _).mp e))) ((e138 true).trans ?_)
      rw [zq_wB_s, decide_eq_true hw]
    · refine ze_t ((lg_cmp_le _ _).mpr (Int64.not_lt.mp hw)) ((e138 false).trans ?_)
      rw [zq_wB_s, decide_eq_false hw]
/-- one turn of the reference -/
theorem zp_tkM (hn : 300 ≤ n) {c d i : Nat} (w : zq_w y) (h : zq_St n y nc nl) (hc : c < nc) (hd : d < nc) (hi : i < nl) (f : Nat) (us : Int64) (o : Option Nat) (ho : ∀ b, o = some b → b < nl) : zl_M_listFor_15 n (f + 1) y 44 (nI c) (nI d) T (zq_lc o) us (nI i) = zl_M_listFor_15 n f y 44 (nI c) (nI d) T (zq_lc (if (zq_nB y c i T && (decide (us = 0) || !decide (us &&& 2 = 0))) && (zq_gB n y (23 + 3 * i) d && zq_wB y o i) then some i else o)) us (nI (i + 1)) := by
  have hb := h.1
  have i17 := h.2.1.2.2.2
  have ix : ∀ k : Nat, (6 : Int32) * nI i + nI k = nI (6 * i + k) := fun k => by rw [zi_6, zi_mul, nI_add]
  have ix0 : (6 : Int32) * nI i = nI (6 * i) := by rw [zi_6, zi_mul]
  obtain ⟨⟨v0, v1, v2, v4, v5⟩, -⟩ := h.2.2.2.1 i hi
  obtain ⟨⟨c0, c1, -⟩, -⟩ := h.2.2.1 c hc
  have s0 : zh_J y 56 (((6 : Int32) * nI i).toNatClampNeg) = zh_J y (23 + 3 * i) 0 := by rw [ix0, nI_clamp (by omega)]; exact v0
  have s1 : zh_J y 56 (((6 : Int32) * nI i + (1 : Int32)).toNatClampNeg) = zh_J y (23 + 3 * i) 1 := by rw [zi_1, ix, nI_clamp (by omega)]; exact v1
  have s2 : zh_J y 56 (((6 : Int32) * nI i + (2 : Int32)).toNatClampNeg) = zh_J y (23 + 3 * i) 2 := by rw [zi_2, ix, nI_clamp (by omega)]; exact v2
  have k98 := fun now => zp_98M hn (c := c) (T := T) w h hd hi f us o ho now
  rw [zl_M_listFor_15]
  refine ze_t ⟨zw_K44 w, zw_N44 w⟩ (ze_f (by rw [i17]; exact nI_ge hi (by omega)) (ze_p (zw_R44_18 w) (ze_t (by rw [ix0]; exact zw_A56 w (by omega)) (ze_p (zp_of w (k := 1) (by omega) (by decide)) ?_))))
  rw [s0, c1]
  by_cases e0 : zh_J y (23 + 3 * i) 0 = zh_J y (10 + c) 0
  · refine ze_t ((lg_cmp_eq _ _).mpr e0) (ze_p (zw_R44_18 w) (ze_t (by rw [zi_1, ix]; exact zw_A56 w (by omega)) (ze_p (zw_R44_18 w) (ze_t (by rw [zi_2, ix]; exact zw_A56 w (by omega)) ?_))))
    rw [s1, s2, zn_inB]
    show (if zq_bi (zq_tB y (23 + 3 * i) T) = 0 then _ else _) = _
    unfold zq_nB
    rw [decide_eq_true e0, Bool.true_and]
    cases hT : zq_tB y (23 + 3 * i) T with
    | false => exact ze_t rfl (k98 false)
    | true =>
      refine ze_f (by decide) ?_
      by_cases u0 : us = 0
      · refine ze_t ((lg_cmp_eq _ _).mpr u0) ((k98 true).trans ?_)
        rw [decide_eq_true u0]; rfl
      · refine ze_f (fun e => u0 ((lg_cmp_eq _ _).mp e)) ?_
        rw [decide_eq_false u0]
        by_cases u2 : us &&& 2 = 0
        · refine ze_t ((lg_cmp_eq _ _).mpr u2) ((k98 false).trans ?_)
          rw [decide_eq_true u2]; rfl
        · refine ze_f (fun e => u2 ((lg_cmp_eq _ _).mp e)) ((k98 true).trans ?_)
          rw [decide_eq_false u2]; rfl
  · refine ze_f (fun e => e0 ((lg_cmp_eq _ _).mp e)) ((k98 false).trans ?_)
    unfold zq_nB
    rw [decide_eq_false e0]; rfl
end TK
