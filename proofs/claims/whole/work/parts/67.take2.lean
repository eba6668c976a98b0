/-! The list that is taken: both alike. -/
def zq_fo (n : Nat) (x : zh_S) (c d : Nat) (T : Int64) : Nat → Nat → Option Nat → Option Nat
  | 0, _, o => o
  | r + 1, i, o => zq_fo n x c d T r (i + 1) (zq_nt n x c d T o i)
def zq_ft (us : Int64) (k : Int64) : Bool := decide (us = 0) || !decide (us &&& k = 0)
section T2
variable {n nc nl : Nat} {x y : zh_S} {q a : Nat} {T : Int64} {dp : Nat} {st : Int32}
theorem zq_nt_lt {c d i : Nat} {o : Option Nat} (hi : i < nl) (ho : ∀ b, o = some b → b < nl) : ∀ b, zq_nt n x c d T o i = some b → b < nl := by
  intro b e
  unfold zq_nt at e
  split at e
  · cases e; exact hi
  · exact ho b e
theorem zq_fo_lt {c d : Nat} : ∀ (r i : Nat) (o : Option Nat), i + r ≤ nl → (∀ b, o = some b → b < nl) → ∀ b, zq_fo n x c d T r i o = some b → b < nl := by
  intro r
  induction r with
  | zero => intro i o _ ho b e; exact ho b e
  | succ r ih => intro i o hi ho b e; exact ih (i + 1) _ (by omega) (zq_nt_lt (by omega) ho) b e
theorem zq_nt_xy (e : ∀ a k, zq_P3 nc nl a k → zh_I y a k = zh_I x a k ∧ zh_J y a k = zh_J x a k) {c d i : Nat} {o : Option Nat} (hc : c < nc) (hd : d < nc) (hi : i < nl) (ho : ∀ b, o = some b → b < nl) : zq_nt n y c d T o i = zq_nt n x c d T o i := by
  have hw : zq_wB y o i = zq_wB x o i := by
    cases o with
    | none => rfl
    | some b => have := ho b rfl; rw [zq_wB_s, zq_wB_s, (e (23 + 3 * b) 1 (by omega)).2, (e (23 + 3 * i) 1 (by omega)).2]
  unfold zq_nt
  rw [hw]
  unfold zq_nB zq_gB zq_tB
  rw [(e (23 + 3 * i) 0 (by omega)).2, (e (23 + 3 * i) 1 (by omega)).2, (e (23 + 3 * i) 2 (by omega)).2, (e (23 + 3 * i) 3 (by omega)).2, (e (23 + 3 * i) 4 (by omega)).1, (e (10 + c) 0 (by omega)).2, (e (10 + d) 8 (by omega)).2, (e (10 + d) 9 (by omega)).2]
theorem zq_fo_xy (e : ∀ a k, zq_P3 nc nl a k → zh_I y a k = zh_I x a k ∧ zh_J y a k = zh_J x a k) {c d : Nat} (hc : c < nc) (hd : d < nc) : ∀ (r i : Nat) (o : Option Nat), i + r ≤ nl → (∀ b, o = some b → b < nl) → zq_fo n y c d T r i o = zq_fo n x c d T r i o := by
  intro r
  induction r with
  | zero => intro i o _ _; rfl
  | succ r ih =>
    intro i o hi ho
    rw [zq_fo, zq_fo, zq_nt_xy e hc hd (by omega) ho]
    exact ih (i + 1) _ (by omega) (zq_nt_lt (by omega) ho)
theorem zp_tkVl {c d : Nat} (w : zq_w x) (h : zq_St n x nc nl) (sx : zq_sx x q a T dp st) (hc : c < nc) (hd : d < nc) (hj : zh_J x (10 + c) 0 = zh_J x (10 + d) 7) : ∀ (r f i : Nat) (o : Option Nat), nl - i = r → i ≤ nl → r < f → (∀ b, o = some b → b < nl) → zl_Search_takeList_23 n f x q (10 + c) (nI d) (zq_lo_ o) (nI i) = some (zq_lo_ (zq_fo n x c d T r i o)) := by
  have hb := h.1
  intro r
  induction r with
  | zero =>
    intro f i o hr hi hf ho
    obtain ⟨f, rfl⟩ : ∃ q, f = q + 1 := ⟨f - 1, by omega⟩
    have hle : zh_I x 7 3 ≤ nI i := by rw [h.2.1.2.2.1]; exact nI_le (by omega) (by omega)
    rw [zl_Search_takeList_23]
    cases o with
    | none => exact ze_n rfl (ze_t sx.1 (ze_p sx.2.1 (ze_t ⟨zw_K7 w, zw_N7 w⟩ (ze_t hle rfl))))
    | some b => exact ze_o rfl (ze_t sx.1 (ze_p sx.2.1 (ze_t ⟨zw_K7 w, zw_N7 w⟩ (ze_t hle rfl))))
  | succ r ih =>
    intro f i o hr hi hf ho
    obtain ⟨f, rfl⟩ : ∃ q, f = q + 1 := ⟨f - 1, by omega⟩
    rw [zp_tkV w h sx hc hd (by omega) hj f o ho]
    exact ih f (i + 1) _ (by omega) (by omega) (by omega) (zq_nt_lt (by omega) ho)
theorem zp_tkMl (hn : 300 ≤ n) {c d : Nat} (w : zq_w y) (h : zq_St n y nc nl) (hc : c < nc) (hd : d < nc) {us : Int64} : ∀ (r f i : Nat) (o : Option Nat), nl - i = r → i ≤ nl → r < f → (∀ b, o = some b → b < nl) → zl_M_listFor_15 n f y 44 (nI c) (nI d) T (zq_lc o) us (nI i) = some (zq_lc (if zq_ft us 2 then zq_fo n y c d T r i o else o)) := by
  have hb := h.1
  intro r
  induction r with
  | zero =>
    intro f i o hr hi hf ho
    obtain ⟨f, rfl⟩ : ∃ q, f = q + 1 := ⟨f - 1, by omega⟩
    have hle : zh_I y 44 17 ≤ nI i := by rw [h.2.1.2.2.2]; exact nI_le (by omega) (by omega)
    rw [zl_M_listFor_15]
    refine ze_t ⟨zw_K44 w, zw_N44 w⟩ (ze_t hle ?_)
    cases zq_ft us 2 <;> rfl
  | succ r ih =>
    intro f i o hr hi hf ho
    obtain ⟨f, rfl⟩ : ∃ q, f = q + 1 := ⟨f - 1, by omega⟩
    rw [zp_tkM hn w h hc hd (by omega) f us o ho]
    show zl_M_listFor_15 n f y 44 (nI c) (nI d) T (zq_lc (if (zq_nB y c i T && zq_ft us 2) && (zq_gB n y (23 + 3 * i) d && zq_wB y o i) then some i else o)) us (nI (i + 1)) = _
    cases hF : zq_ft us 2 with
    | false =>
      rw [Bool.and_false, Bool.false_and]
      have := ih f (i + 1) o (by omega) (by omega) (by omega) ho
      rw [hF] at this
      exact this
    | true =>
      rw [Bool.and_true]
      have := ih f (i + 1) (zq_nt n y c d T o i) (by omega) (by omega) (by omega) (zq_nt_lt (by omega) ho)
      rw [hF] at this
      exact this
/-- fit for a use -/
theorem zp_fit {o : Nat} (ho : zh_oo x o 0) (k : Int32) : zf_Certificate_isFitFor n x o k = some (zq_bi (zq_ft (zh_J x o 11) k.toInt64)) := by
  rw [zf_Certificate_isFitFor]
  refine ze_t ho ?_
  unfold zq_ft
  by_cases h0 : zh_J x o 11 = 0
  · refine ze_t ((lg_cmp_eq _ _).mpr h0) ?_
    rw [decide_eq_true h0]; rfl
  · refine ze_f (fun e => h0 ((lg_cmp_eq _ _).mp e)) ?_
    rw [decide_eq_false h0]
    by_cases h1 : zh_J x o 11 &&& k.toInt64 = 0
    · refine ze_t ((lg_cmp_eq _ _).mpr h1) ?_
      rw [decide_eq_true h1]; rfl
    · refine ze_f (fun e => h1 ((lg_cmp_eq _ _).mp e)) ?_
      rw [decide_eq_false h1]; rfl
/-- the list taken, and taken by both -/
theorem zp_take (hn : 300 ≤ n) {c d : Nat} (h : zq_xy n nc nl x y) (sx : zq_sx x q a T dp st) (hc : c < nc) (hd : d < nc) (hj : zh_J x (10 + c) 0 = zh_J x (10 + d) 7) : ∃ o : Option Nat, (∀ b, o = some b → b < nl) ∧ zf_Search_takeList n x q (10 + c) (nI d) = some (zq_lo_ o) ∧ zf_M_listFor n y 44 (nI c) (nI d) T = some (zq_lc o) := by
  obtain ⟨wx, wy, hx, hy, e⟩ := h
  have hb := hx.1
  obtain ⟨-, ⟨-, -, v10, -⟩, -⟩ := hy.2.2.1 d hd
  refine ⟨if zq_ft (zh_J x (10 + d) 11) 2 then zq_fo n x c d T nl 0 none else none, ?_, ?_, ?_⟩
  · split
    · exact zq_fo_lt nl 0 none (by omega) (fun b e => by cases e)
    · intro b e; cases e
  · rw [zf_Search_takeList]
    refine ze_t sx.1 (ze_p sx.2.1 (ze_t ⟨zw_K7 wx, zw_N7 wx⟩ (ze_p (zw_R7_0 wx) (ze_t (zw_A8 wx (by omega)) (ze_p (zw_R8c wx (by omega)) (ze_t (zw_C wx (by omega)) (ze_p (zp_fit (zw_C wx (by omega)) 2) ?_)))))))
    show (if zq_bi (zq_ft (zh_J x (10 + d) 11) 2) = 0 then some none else zl_Search_takeList_23 n n x q (10 + c) (nI d) none 0) = _
    cases zq_ft (zh_J x (10 + d) 11) 2 with
    | false => exact ze_t rfl rfl
    | true => exact ze_f (by decide) (zp_tkVl wx hx sx hc hd hj nl n 0 none (by omega) (by omega) (by omega) (fun b e => by cases e))
  · rw [zf_M_listFor]
    refine ze_t ⟨zw_K44 wy, zw_N44 wy⟩ (ze_p (zp_of wy (k := 10) (by omega) (by decide)) ?_)
    rw [v10, (e (10 + d) 11 (by omega)).2]
    refine (zp_tkMl hn wy hy hc hd nl n 0 none (by omega) (by omega) (by omega) (fun b e => by cases e)).trans ?_
    rw [zq_fo_xy e hc hd nl 0 none (by omega) (fun b e => by cases e)]
end T2
/-! Revoked by it. -/
section RV
variable {n nc nl : Nat} {x y : zh_S} {T : Int64}
def zq_rvB (x : zh_S) (b : Nat) (ser T : Int64) (k : Nat) : Bool := decide (zh_J x (24 + 3 * b) k = ser) && decide (zh_J x (25 + 3 * b) k ≤ T)
theorem zw_RL {x : zh_S} (w : zq_w x) {b : Nat} (hb : b < 7) : zh_R x (23 + 3 * b) 6 = some (24 + 3 * b) ∧ zh_R x (23 + 3 * b) 7 = some (25 + 3 * b) := by
  have e6 : zq_R (23 + 3 * b) 6 = some (24 + 3 * b) := by
    unfold zq_R; rw [if_neg (by omega), if_neg (by omega), if_pos (by omega), if_pos rfl]; congr 1; omega
  have e7 : zq_R (23 + 3 * b) 7 = some (25 + 3 * b) := by
    unfold zq_R; rw [if_neg (by omega), if_neg (by omega), if_pos (by omega), if_neg (by decide), if_pos rfl]; congr 1; omega
  exact ⟨by rw [w.2.2 _ _ (by rw [e6]; rfl), e6], by rw [w.2.2 _ _ (by rw [e7]; rfl), e7]⟩
theorem zw_AL {x : zh_S} (w : zq_w x) {j k : Nat} (hj : 23 ≤ j ∧ j < 44 ∧ ¬ (j - 23) % 3 = 0) (hk : k < 4) : zh_oa x j 1 (nI k) := by
  have e : zh_K x j = (1, 4) := by
    rw [w.2.1 j (by omega)]
    unfold zq_K
    rw [if_neg (by omega), if_neg (by omega), if_pos (by omega), if_neg hj.2.2]
  exact ⟨by rw [e], w.1 j (by omega), nI_pos (by omega), by rw [e, nI_clamp (by omega)]; exact hk⟩
theorem zp_rvV {b e : Nat} {ser : Int64} (w : zq_w x) (hb : b < 7) (he : e ≤ 4) (h8 : zh_I x (23 + 3 * b) 8 = nI e) : ∀ (r f i : Nat), e - i = r → i ≤ e → r < f → zl_RevokedList_revokes_3 n f x (23 + 3 * b) ser T (nI i) = some (zq_bi (zq_any (zq_rvB x b ser T) r i)) := by
  have oL := zw_L w (L := 23 + 3 * b) (by omega)
  intro r
  induction r with
  | zero =>
    intro f i hr hi hf
    obtain ⟨f, rfl⟩ : ∃ q, f = q + 1 := ⟨f - 1, by omega⟩
    rw [zl_RevokedList_revokes_3]
    exact ze_t oL (ze_t (by rw [h8]; exact nI_le (by omega) (by omega)) rfl)
  | succ r ih =>
    intro f i hr hi hf
    obtain ⟨f, rfl⟩ : ∃ q, f = q + 1 := ⟨f - 1, by omega⟩
    have go : zb_RevokedList_revokes_38 n (zl_RevokedList_revokes_3 n f) x (23 + 3 * b) ser T (nI i) = some (zq_bi (zq_any (zq_rvB x b ser T) r (i + 1))) := by
      rw [zb_RevokedList_revokes_38]
      show zl_RevokedList_revokes_3 n f x (23 + 3 * b) ser T (nI i + 1) = _
      rw [zi_1, nI_add]
      exact ih f (i + 1) (by omega) (by omega) (by omega)
    have c1 : zh_J x (24 + 3 * b) (nI i).toNatClampNeg = zh_J x (24 + 3 * b) i := by rw [nI_clamp (by omega)]
    have c2 : zh_J x (25 + 3 * b) (nI i).toNatClampNeg = zh_J x (25 + 3 * b) i := by rw [nI_clamp (by omega)]
    rw [zl_RevokedList_revokes_3, zq_any]
    refine ze_t oL (ze_f (by rw [h8]; exact nI_ge (by omega) (by omega)) (ze_p (zw_RL w hb).1 (ze_t (zw_AL w (by omega) (by omega)) ?_)))
    rw [c1]
    unfold zq_rvB
    by_cases e0 : zh_J x (24 + 3 * b) i = ser
    · refine ze_t ((lg_cmp_eq _ _).mpr e0) (ze_p (zw_RL w hb).2 (ze_t (zw_AL w (by omega) (by omega)) ?_))
      rw [c2, decide_eq_true e0]
      by_cases e1 : zh_J x (25 + 3 * b) i ≤ T
      · refine ze_f (fun e => absurd ((lg_cmp_gt _ _).mp e) (Int64.not_lt.mpr e1)) ?_
        rw [decide_eq_true e1]; rfl
      · refine ze_t ((lg_cmp_gt _ _).mpr (Int64.not_le.mp e1)) (go.trans ?_)
        rw [decide_eq_false e1]; rfl
    · refine ze_f (fun e => e0 ((lg_cmp_eq _ _).mp e)) (go.trans ?_)
      rw [decide_eq_false e0]; rfl
theorem zp_rvM {b c : Nat} (w : zq_w y) (h : zq_St n y nc nl) (hb : b < nl) (hc : c < nc) {e : Nat} (he : e ≤ 4) (h3 : zh_J y 56 (6 * b + 3) = lN e) (hk : ∀ k, k < e → zh_J y 57 (4 * b + k) = zh_J y (24 + 3 * b) k ∧ zh_J y 58 (4 * b + k) = zh_J y (25 + 3 * b) k) : ∀ (r f i : Nat) (v : Bool), e - i = r → i ≤ e → r < f → zl_M_isRevoked_6 n f y 44 (nI c) (nI b) T (zq_bi v) (nI i) = some (zq_bi (v || zq_any (zq_rvB y b (zh_J y (10 + c) 6) T) r i)) := by
  have hbd := h.1
  have ix : (6 : Int32) * nI b + (3 : Int32) = nI (6 * b + 3) := by rw [zi_6, zi_mul, zi_3, nI_add]
  have j3 : zh_J y 56 (((6 : Int32) * nI b + (3 : Int32)).toNatClampNeg) = lN e := by rw [ix, nI_clamp (by omega)]; exact h3
  obtain ⟨⟨c0, -⟩, -⟩ := h.2.2.1 c hc
  intro r
  induction r with
  | zero =>
    intro f i v hr hi hf
    obtain ⟨f, rfl⟩ : ∃ q, f = q + 1 := ⟨f - 1, by omega⟩
    rw [zl_M_isRevoked_6]
    refine ze_f (nI_pos (by omega)) (ze_t ⟨zw_K44 w, zw_N44 w⟩ (ze_p (zw_R44_18 w) (ze_t (by rw [ix]; exact zw_A56 w (by omega)) ?_)))
    rw [j3, nI_l (by omega)]
    refine ze_t ((lg_cmp_ge _ _).mpr ((pk_lLE (by omega) (by omega)).mpr (by omega))) (ze_t (zq_bi01 v) ?_)
    rw [zq_any, Bool.or_false]
  | succ r ih =>
    intro f i v hr hi hf
    obtain ⟨f, rfl⟩ : ∃ q, f = q + 1 := ⟨f - 1, by omega⟩
    have go : ∀ z : Bool, zb_M_isRevoked_75 n (zl_M_isRevoked_6 n f) y 44 (nI c) (nI b) T (nI i) (zq_bi z) = some (zq_bi (z || zq_any (zq_rvB y b (zh_J y (10 + c) 6) T) r (i + 1))) := by
      intro z
      rw [zb_M_isRevoked_75]
      show zl_M_isRevoked_6 n f y 44 (nI c) (nI b) T (zq_bi z) (nI i + 1) = _
      rw [zi_1, nI_add]
      exact ih f (i + 1) z (by omega) (by omega) (by omega)
    have i4 : (4 : Int32) * nI b + nI i = nI (4 * b + i) := by rw [zi_4, zi_mul, nI_add]
    obtain ⟨k1, k2⟩ := hk i (by omega)
    have c1 : zh_J y 57 (((4 : Int32) * nI b + nI i).toNatClampNeg) = zh_J y (24 + 3 * b) i := by rw [i4, nI_clamp (by omega)]; exact k1
    have c2 : zh_J y 58 (((4 : Int32) * nI b + nI i).toNatClampNeg) = zh_J y (25 + 3 * b) i := by rw [i4, nI_clamp (by omega)]; exact k2
    rw [zl_M_isRevoked_6, zq_any]
    refine ze_f (nI_pos (by omega)) (ze_t ⟨zw_K44 w, zw_N44 w⟩ (ze_p (zw_R44_18 w) (ze_t (by rw [ix]; exact zw_A56 w (by omega)) ?_)))
    rw [j3, nI_l (by omega)]
    refine ze_f (fun e => absurd ((pk_lLE (by omega) (by omega)).mp ((lg_cmp_ge _ _).mp e)) (by omega)) ?_
    cases v with
    | true => exact ze_f (by decide) (go true)
    | false =>
      refine ze_t rfl (ze_p (zw_R44_19 w) (ze_t (by rw [i4]; exact zw_A57 w (by omega)) (ze_p (zp_of w (k := 0) (by omega) (by decide)) ?_)))
      rw [c1, show zh_J y 55 (15 * c + 0) = zh_J y (10 + c) 6 from c0]
      show _ = some (zq_bi (zq_rvB y b (zh_J y (10 + c) 6) T i || zq_any (zq_rvB y b (zh_J y (10 + c) 6) T) r (i + 1)))
      have hrv : zq_rvB y b (zh_J y (10 + c) 6) T i = (decide (zh_J y (24 + 3 * b) i = zh_J y (10 + c) 6) && decide (zh_J y (25 + 3 * b) i ≤ T)) := rfl
      rw [hrv]
      by_cases e0 : zh_J y (24 + 3 * b) i = zh_J y (10 + c) 6
      · refine ze_t ((lg_cmp_eq _ _).mpr e0) (ze_p (zw_R44_20 w) (ze_t (by rw [i4]; exact zw_A58 w (by omega)) ?_))
        rw [c2, decide_eq_true e0]
        by_cases e1 : zh_J y (25 + 3 * b) i ≤ T
        · refine ze_f (fun e => absurd ((lg_cmp_gt _ _).mp e) (Int64.not_lt.mpr e1)) ((go true).trans ?_)
          rw [decide_eq_true e1]; rfl
        · refine ze_t ((lg_cmp_gt _ _).mpr (Int64.not_le.mp e1)) ((go false).trans ?_)
          rw [decide_eq_false e1]; rfl
      · refine ze_f (fun e => e0 ((lg_cmp_eq _ _).mp e)) ((go false).trans ?_)
        rw [decide_eq_false e0]; rfl
theorem zq_any_eq {P Q : Nat → Bool} : ∀ (r i : Nat), (∀ k, i ≤ k → k < i + r → P k = Q k) → zq_any P r i = zq_any Q r i := by
  intro r
  induction r with
  | zero => intro i _; rfl
  | succ r ih =>
    intro i h
    rw [zq_any, zq_any, h i (by omega) (by omega), ih (i + 1) (fun k h1 h2 => h k (by omega) (by omega))]
/-- whether the list taken revokes -/
theorem zp_revd (hn : 300 ≤ n) {b c : Nat} (h : zq_xy n nc nl x y) (hb : b < nl) (hc : c < nc) : ∃ v : Bool, zf_RevokedList_revokes n x (23 + 3 * b) (zh_J x (10 + c) 6) T = some (zq_bi v) ∧ zf_M_isRevoked n y 44 (nI c) (nI b) T = some (zq_bi v) := by
  obtain ⟨wx, wy, hx, hy, e⟩ := h
  have hbd := hx.1
  obtain ⟨-, m, hm, x8, -⟩ := hx.2.2.2.1 b hb
  obtain ⟨-, m', hm', y8, y3, yk⟩ := hy.2.2.2.1 b hb
  have emm : m' = m := by
    rw [(e (23 + 3 * b) 8 (by omega)).1, x8, nI_eq (by omega) (by omega)] at y8
    exact y8.symm
  subst emm
  refine ⟨zq_any (zq_rvB x b (zh_J x (10 + c) 6) T) m' 0, zp_rvV wx (by omega) hm x8 m' n 0 (by omega) (by omega) (by omega), ?_⟩
  refine (zp_rvM wy hy hb hc hm' y3 yk m' n 0 false (by omega) (by omega) (by omega)).trans ?_
  rw [Bool.false_or, zq_any_eq (Q := zq_rvB x b (zh_J x (10 + c) 6) T) m' 0 (fun k _ hk => by
    unfold zq_rvB
    rw [(e (24 + 3 * b) k (by omega)).2, (e (25 + 3 * b) k (by omega)).2, (e (10 + c) 6 (by omega)).2])]
theorem zp_norevd (hn : 300 ≤ n) {c : Nat} : zf_M_isRevoked n y 44 (nI c) (-1) T = some 0 := by
  obtain ⟨f, rfl⟩ : ∃ q, n = q + 1 := ⟨n - 1, by omega⟩
  rw [zf_M_isRevoked, zl_M_isRevoked_6]
  exact ze_t (by decide) (ze_t (Or.inl rfl) rfl)
end RV
