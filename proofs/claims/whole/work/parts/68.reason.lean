/-! The reason against: both alike. -/
theorem zv_sw {β : Type} {A B : Option β} (h : ∃ r, B = some r ∧ A = some r) : ∃ r, A = some r ∧ B = some r := by
  obtain ⟨r, h1, h2⟩ := h
  exact ⟨r, h2, h1⟩
def zq_wi (n : Nat) (A B : Int64) : Bool := !decide ((zf_Names_isWithin n A B).getD 0 = 0)
def zq_bd_ (n : Nat) (sub al ba : Int64) : Bool := (!decide (al = 0) && !zq_wi n sub al) || (!decide (ba = 0) && zq_wi n sub ba)
theorem zp_wi {n : Nat} (hn : 300 ≤ n) {A B : Int64} (hA : zq_in A = true) (hB : zq_in B = true) : ∃ r : Int32, zf_Names_isWithin n A B = some r ∧ zf_M_within n A B = some r ∧ zq_wi n A B = !decide (r = 0) := by
  obtain ⟨eA, nA⟩ := zq_v_in hA
  obtain ⟨eB, nB⟩ := zq_v_in hB
  obtain ⟨r, h1, h2⟩ := zn_within (n := n) (by omega) nA nB
  rw [← eA, ← eB] at h1 h2
  refine ⟨r, h1, h2, ?_⟩
  unfold zq_wi
  rw [h1]
  rfl
section RE
variable {n nc nl : Nat} {x y : zh_S} {q a : Nat} {T : Int64} {dp : Nat} {st : Int32} {p : Nat → Nat} {len : Nat}
theorem zp_rlV (hn : 300 ≤ n) (w : zq_w x) (h : zq_St n x nc nl) (sx : zq_sx x q a T dp st) (hp : zq_pp nc x y a p len) (hl : 1 ≤ len) {sub : Int64} (hs : zq_in sub = true) : ∀ (r f i : Nat), len - 1 - i = r → i ≤ len - 1 → r < f → zl_Search_isInRealms_14 n f x q (nI len) sub (nI i) = some (zq_bi (!zq_any (fun j => zq_bd_ n sub (zh_J x (10 + p j) 12) (zh_J x (10 + p j) 13)) r i)) := by
  have hb := h.1
  have hp5 := hp.1
  have e1 : nI len - (1 : Int32) = nI (len - 1) := by rw [zi_1, zi_sub hl]
  intro r
  induction r with
  | zero =>
    intro f i hr hi hf
    obtain ⟨f, rfl⟩ : ∃ q, f = q + 1 := ⟨f - 1, by omega⟩
    rw [zl_Search_isInRealms_14, e1]
    exact ze_t (nI_le (by omega) (by omega)) rfl
  | succ r ih =>
    intro f i hr hi hf
    obtain ⟨f, rfl⟩ : ∃ q, f = q + 1 := ⟨f - 1, by omega⟩
    have hpi := (hp.2 i (by omega)).1
    have oC := zw_C w (c := 10 + p i) (by omega)
    obtain ⟨-, -, -, -, vA, vB, -⟩ := h.2.2.1 (p i) hpi
    have go : zb_Search_isInRealms_78 n (zl_Search_isInRealms_14 n f) x q (nI len) sub (nI i) = some (zq_bi (!zq_any (fun j => zq_bd_ n sub (zh_J x (10 + p j) 12) (zh_J x (10 + p j) 13)) r (i + 1))) := by
      rw [zb_Search_isInRealms_78]
      show zl_Search_isInRealms_14 n f x q (nI len) sub (nI i + 1) = _
      rw [zi_1, nI_add]
      exact ih f (i + 1) (by omega) (by omega) (by omega)
    have e54 : zb_Search_isInRealms_54 n (zl_Search_isInRealms_14 n f) x q (nI len) sub (nI i) (10 + p i) = some (zq_bi (!((!decide (zh_J x (10 + p i) 13 = 0) && zq_wi n sub (zh_J x (10 + p i) 13)) || zq_any (fun j => zq_bd_ n sub (zh_J x (10 + p j) 12) (zh_J x (10 + p j) 13)) r (i + 1)))) := by
      rw [zb_Search_isInRealms_54]
      refine ze_t oC ?_
      by_cases b0 : zh_J x (10 + p i) 13 = 0
      · refine ze_t ((lg_cmp_eq _ _).mpr b0) (go.trans ?_)
        rw [decide_eq_true b0]; rfl
      · refine ze_f (fun e => b0 ((lg_cmp_eq _ _).mp e)) ?_
        obtain ⟨v, e1, -, e3⟩ := zp_wi hn hs (vB.resolve_left b0)
        refine ze_p e1 ?_
        rw [decide_eq_false b0, e3]
        by_cases v0 : v = 0
        · refine ze_t v0 (go.trans ?_)
          rw [decide_eq_true v0]; rfl
        · refine ze_f v0 ?_
          rw [decide_eq_false v0]; rfl
    rw [zl_Search_isInRealms_14, e1, zq_any]
    refine ze_f (nI_ge (by omega) (by omega)) (ze_t sx.1 (ze_p (zp_inPart w hb.1 sx hp (by omega)) (ze_t oC ?_)))
    have hbd : zq_bd_ n sub (zh_J x (10 + p i) 12) (zh_J x (10 + p i) 13) = ((!decide (zh_J x (10 + p i) 12 = 0) && !zq_wi n sub (zh_J x (10 + p i) 12)) || (!decide (zh_J x (10 + p i) 13 = 0) && zq_wi n sub (zh_J x (10 + p i) 13))) := rfl
    show _ = some (zq_bi (!(zq_bd_ n sub (zh_J x (10 + p i) 12) (zh_J x (10 + p i) 13) || _)))
    rw [hbd, Bool.or_assoc]
    by_cases a0 : zh_J x (10 + p i) 12 = 0
    · refine ze_t ((lg_cmp_eq _ _).mpr a0) (e54.trans ?_)
      rw [decide_eq_true a0]; rfl
    · refine ze_f (fun e => a0 ((lg_cmp_eq _ _).mp e)) ?_
      obtain ⟨v, e1, -, e3⟩ := zp_wi hn hs (vA.resolve_left a0)
      refine ze_p e1 ?_
      rw [decide_eq_false a0, e3]
      by_cases v0 : v = 0
      · refine ze_t v0 ?_
        rw [decide_eq_true v0]; rfl
      · refine ze_f v0 (e54.trans ?_)
        rw [decide_eq_false v0]; rfl
theorem zp_rlM (hn : 300 ≤ n) (w : zq_w y) (h : zq_St n y nc nl) (hp : zq_pp nc x y a p len) (hl : 1 ≤ len) {sub : Int64} (hs : zq_in sub = true) : ∀ (r f i : Nat) (v : Bool), len - 1 - i = r → i ≤ len - 1 → r < f → zl_M_keptOut_20 n f y 44 (nI len) sub (zq_bi v) (nI i) = some (zq_bi (v || zq_any (fun j => zq_bd_ n sub (zh_J y (10 + p j) 12) (zh_J y (10 + p j) 13)) r i)) := by
  have hb := h.1
  have hp5 := hp.1
  have e1 : nI len - (1 : Int32) = nI (len - 1) := by rw [zi_1, zi_sub hl]
  intro r
  induction r with
  | zero =>
    intro f i v hr hi hf
    obtain ⟨f, rfl⟩ : ∃ q, f = q + 1 := ⟨f - 1, by omega⟩
    rw [zl_M_keptOut_20, e1, zq_any, Bool.or_false]
    exact ze_t (nI_le (by omega) (by omega)) (ze_t (zq_bi01 v) rfl)
  | succ r ih =>
    intro f i v hr hi hf
    obtain ⟨f, rfl⟩ : ∃ q, f = q + 1 := ⟨f - 1, by omega⟩
    have hpi := (hp.2 i (by omega)).1
    obtain ⟨-, ⟨-, -, -, v11, v12, -⟩, -, -, vA, vB, -⟩ := h.2.2.1 (p i) hpi
    have hi59 : zh_I y 59 (nI i).toNatClampNeg = nI (p i) := by rw [nI_clamp (by omega)]; exact (hp.2 i (by omega)).2.2
    have go : ∀ z : Bool, zb_M_keptOut_100 n (zl_M_keptOut_20 n f) y 44 (nI len) sub (nI i) (zq_bi z) = some (zq_bi (z || zq_any (fun j => zq_bd_ n sub (zh_J y (10 + p j) 12) (zh_J y (10 + p j) 13)) r (i + 1))) := by
      intro z
      rw [zb_M_keptOut_100]
      show zl_M_keptOut_20 n f y 44 (nI len) sub (zq_bi z) (nI i + 1) = _
      rw [zi_1, nI_add]
      exact ih f (i + 1) z (by omega) (by omega) (by omega)
    have e79 : zb_M_keptOut_79 n (zl_M_keptOut_20 n f) y 44 (nI len) sub (nI i) (zh_J y (10 + p i) 13) = some (zq_bi ((!decide (zh_J y (10 + p i) 13 = 0) && zq_wi n sub (zh_J y (10 + p i) 13)) || zq_any (fun j => zq_bd_ n sub (zh_J y (10 + p j) 12) (zh_J y (10 + p j) 13)) r (i + 1))) := by
      rw [zb_M_keptOut_79]
      by_cases b0 : zh_J y (10 + p i) 13 = 0
      · refine ze_t ((lg_cmp_eq _ _).mpr b0) ((go false).trans ?_)
        rw [decide_eq_true b0]; rfl
      · refine ze_f (fun e => b0 ((lg_cmp_eq _ _).mp e)) ?_
        obtain ⟨v, -, e2, e3⟩ := zp_wi hn hs (vB.resolve_left b0)
        refine ze_p e2 ?_
        rw [decide_eq_false b0, e3]
        by_cases v0 : v = 0
        · refine ze_t v0 ((go false).trans ?_)
          rw [decide_eq_true v0]; rfl
        · refine ze_f v0 ((go true).trans ?_)
          rw [decide_eq_false v0]; rfl
    rw [zl_M_keptOut_20, e1, zq_any]
    refine ze_f (nI_ge (by omega) (by omega)) (ze_t ⟨zw_K44 w, zw_N44 w⟩ (ze_p (zw_R44_21 w) (ze_t (zw_A59 w (by omega)) ?_)))
    rw [hi59]
    refine ze_p (zp_of w (k := 11) (by omega) (by decide)) (ze_p (zw_R44_21 w) (ze_t (zw_A59 w (by omega)) ?_))
    rw [hi59]
    refine ze_p (zp_of w (k := 12) (by omega) (by decide)) ?_
    rw [v11, v12]
    have hbd : zq_bd_ n sub (zh_J y (10 + p i) 12) (zh_J y (10 + p i) 13) = ((!decide (zh_J y (10 + p i) 12 = 0) && !zq_wi n sub (zh_J y (10 + p i) 12)) || (!decide (zh_J y (10 + p i) 13 = 0) && zq_wi n sub (zh_J y (10 + p i) 13))) := rfl
    show _ = some (zq_bi (v || (zq_bd_ n sub (zh_J y (10 + p i) 12) (zh_J y (10 + p i) 13) || _)))
    cases v with
    | true => exact ze_f (by decide) (go true)
    | false =>
      refine ze_t rfl ?_
      rw [hbd, Bool.or_assoc]
      by_cases a0 : zh_J y (10 + p i) 12 = 0
      · refine ze_t ((lg_cmp_eq _ _).mpr a0) (e79.trans ?_)
        rw [decide_eq_true a0]; rfl
      · refine ze_f (fun e => a0 ((lg_cmp_eq _ _).mp e)) ?_
        obtain ⟨v, -, e2, e3⟩ := zp_wi hn hs (vA.resolve_left a0)
        refine ze_p e2 ?_
        rw [decide_eq_false a0, e3]
        by_cases v0 : v = 0
        · refine ze_t v0 ((go true).trans ?_)
          rw [decide_eq_true v0]; rfl
        · refine ze_f v0 (e79.trans ?_)
          rw [decide_eq_false v0]; rfl
/-- out of a realm -/
theorem zp_realm (hn : 300 ≤ n) (h : zq_xy n nc nl x y) (sx : zq_sx x q a T dp st) (hp : zq_pp nc x y a p len) {k : Nat} (hk : k + 1 < len) : ∃ v : Bool, zf_Search_isInRealms n x q (nI k) (nI len) = some (zq_bi (!v)) ∧ zf_M_keptOut n y 44 (nI k) (nI len) = some (zq_bi v) := by
  obtain ⟨wx, wy, hx, hy, e⟩ := h
  have hb := hx.1
  have hp5 := hp.1
  have hpk := (hp.2 k (by omega)).1
  obtain ⟨-, -, -, ⟨-, vS⟩, -⟩ := hx.2.2.1 (p k) hpk
  obtain ⟨⟨-, -, -, -, v4, -⟩, -⟩ := hy.2.2.1 (p k) hpk
  refine ⟨zq_any (fun j => zq_bd_ n (zh_J x (10 + p k) 7) (zh_J x (10 + p j) 12) (zh_J x (10 + p j) 13)) (len - 1 - (k + 1)) (k + 1), ?_, ?_⟩
  · rw [zf_Search_isInRealms]
    refine ze_t sx.1 (ze_p (zp_inPart wx hb.1 sx hp (by omega)) (ze_t (zw_C wx (by omega)) (ze_l (ze_l ?_))))
    rw [zi_1, nI_add]
    exact zp_rlV hn wx hx sx hp (by omega) vS _ n (k + 1) rfl (by omega) (by omega)
  · have hi59 : zh_I y 59 (nI k).toNatClampNeg = nI (p k) := by rw [nI_clamp (by omega)]; exact (hp.2 k (by omega)).2.2
    rw [zf_M_keptOut]
    refine ze_t ⟨zw_K44 wy, zw_N44 wy⟩ (ze_p (zw_R44_21 wy) (ze_t (zw_A59 wy (by omega)) ?_))
    rw [hi59]
    refine ze_p (zp_of wy (k := 4) (by omega) (by decide)) (ze_l ?_)
    rw [zi_1, nI_add, v4, (e (10 + p k) 7 (by omega)).2]
    refine (zp_rlM hn wy hy hp (by omega) vS _ n (k + 1) false rfl (by omega) (by omega)).trans ?_
    rw [Bool.false_or, zq_any_eq (Q := fun j => zq_bd_ n (zh_J x (10 + p k) 7) (zh_J x (10 + p j) 12) (zh_J x (10 + p j) 13)) _ _ (fun j h1 h2 => by
      have hpj := (hp.2 j (by omega)).1
      show zq_bd_ n (zh_J x (10 + p k) 7) (zh_J y (10 + p j) 12) (zh_J y (10 + p j) 13) = zq_bd_ n (zh_J x (10 + p k) 7) (zh_J x (10 + p j) 12) (zh_J x (10 + p j) 13)
      rw [(e (10 + p j) 12 (by omega)).2, (e (10 + p j) 13 (by omega)).2])]
/-- how many before -/
theorem zp_count (h : zq_xy n nc nl x y) (sx : zq_sx x q a T dp st) (hp : zq_pp nc x y a p len) {k : Nat} (hk : k < len) : ∀ (r f i : Nat) (c : Int32), k - i = r → i ≤ 5 → r < f → ∃ v, zl_Search_countBefore_4 n f x q (nI k) c (nI i) = some v ∧ zl_M_between_4 n f y 44 (nI k) c (nI i) = some v := by
  obtain ⟨wx, wy, hx, hy, e⟩ := h
  have hb := hx.1
  have hp5 := hp.1
  intro r
  induction r with
  | zero =>
    intro f i c hr hi hf
    obtain ⟨f, rfl⟩ : ∃ q, f = q + 1 := ⟨f - 1, by omega⟩
    refine ⟨c, ?_, ?_⟩
    · rw [zl_Search_countBefore_4]; exact ze_t (nI_le (by omega) (by omega)) rfl
    · rw [zl_M_between_4]; exact ze_t (nI_le (by omega) (by omega)) rfl
  | succ r ih =>
    intro f i c hr hi hf
    obtain ⟨f, rfl⟩ : ∃ q, f = q + 1 := ⟨f - 1, by omega⟩
    have hpi := (hp.2 i (by omega)).1
    have oC := zw_C wx (c := 10 + p i) (by omega)
    obtain ⟨⟨-, v1, -, -, v4, -⟩, -⟩ := hy.2.2.1 (p i) hpi
    have hi59 : zh_I y 59 (nI i).toNatClampNeg = nI (p i) := by rw [nI_clamp (by omega)]; exact (hp.2 i (by omega)).2.2
    rw [zl_Search_countBefore_4, zl_M_between_4]
    refine zv_f (nI_ge (by omega) (by omega)) (zv_ck sx.1 (zv_p (zp_inPart wx hb.1 sx hp (by omega)) (zv_ck oC ?_)))
    refine zv_sw (zv_f (nI_ge (by omega) (by omega)) (zv_ck ⟨zw_K44 wy, zw_N44 wy⟩ (zv_p (zw_R44_21 wy) (zv_ck (zw_A59 wy (by omega)) ?_))))
    rw [hi59]
    refine zv_p (zp_of wy (k := 1) (by omega) (by decide)) (zv_p (zw_R44_21 wy) (zv_ck (zw_A59 wy (by omega)) ?_))
    rw [hi59]
    refine zv_p (zp_of wy (k := 4) (by omega) (by decide)) ?_
    rw [v1, v4, (e (10 + p i) 0 (by omega)).2, (e (10 + p i) 7 (by omega)).2]
    by_cases e0 : zh_J x (10 + p i) 0 = zh_J x (10 + p i) 7
    · refine zv_t ((lg_cmp_eq _ _).mpr e0) (zv_sw (zv_p (a := 1) (by rw [zf_Certificate_isSelfIssued]; exact ze_t oC (ze_t ((lg_cmp_eq _ _).mpr e0) rfl)) (zv_f (by decide) ?_)))
      rw [zb_Search_countBefore_23, zb_M_between_41]
      show ∃ v, zl_Search_countBefore_4 n f x q (nI k) c (nI i + 1) = some v ∧ zl_M_between_4 n f y 44 (nI k) (c + 0) (nI i + 1) = some v
      rw [zi_1, nI_add, Int32.add_zero]
      exact ih f (i + 1) c (by omega) (by omega) (by omega)
    · refine zv_f (fun e => e0 ((lg_cmp_eq _ _).mp e)) (zv_sw (zv_p (a := 0) (by rw [zf_Certificate_isSelfIssued]; exact ze_t oC (ze_f (fun e => e0 ((lg_cmp_eq _ _).mp e)) rfl)) (zv_t rfl (zv_l ?_))))
      rw [zb_Search_countBefore_23, zb_M_between_41]
      show ∃ v, zl_Search_countBefore_4 n f x q (nI k) (c + 1) (nI i + 1) = some v ∧ zl_M_between_4 n f y 44 (nI k) (c + 1) (nI i + 1) = some v
      rw [show nI i + 1 = nI (i + 1) by rw [zi_1, nI_add]]
      exact ih f (i + 1) (c + 1) (by omega) (by omega) (by omega)
end RE
