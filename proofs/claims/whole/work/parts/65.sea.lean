/-! The search: what both look at. -/
theorem zq_St.sm {n nc nl : Nat} {s t : zh_S} (h : zq_St n s nc nl) (e : ∀ a k, zq_P3 nc nl a k → zh_I t a k = zh_I s a k ∧ zh_J t a k = zh_J s a k) : zq_St n t nc nl := by
  obtain ⟨hb, ⟨a1, a2, a3, a4⟩, hc, hl, hs, hr⟩ := h
  refine ⟨hb, ⟨?_, ?_, ?_, ?_⟩, fun c h => ?_, fun i h => ?_, fun c h => ?_, fun i h => ?_⟩
  · rw [(e 7 2 (by omega)).1]; exact a1
  · rw [(e 44 15 (by omega)).1]; exact a2
  · rw [(e 7 3 (by omega)).1]; exact a3
  · rw [(e 44 17 (by omega)).1]; exact a4
  · exact (hc c h).ke (fun k hk => (e 55 (15 * c + k) (by omega)).2) (fun k _ => e (10 + c) k (by omega))
  · exact (hl i h).ke (fun k hk => (e 56 (6 * i + k) (by omega)).2) (fun k hk => ⟨(e 57 (4 * i + k) (by omega)).2, (e 58 (4 * i + k) (by omega)).2⟩) (fun a k _ h1 h2 => e a k (by omega))
  · refine (hs c h).ke (e (10 + c) 5 (by omega)).1 (fun d => ?_)
    by_cases hd : d < nc ∧ c < nc ∧ d ≠ c
    · rw [zq_sig_eq (s := s) (fun k _ => e (10 + c) k (by omega)) (fun k _ => (e (10 + d) k (by omega)).2)]
    · exact ⟨fun x => absurd x.1 hd, fun x => absurd x.1 hd⟩
  · refine (hr i h).ke (e (23 + 3 * i) 5 (by omega)).1 (fun d => ?_)
    by_cases hd : d < nc ∧ i < nl
    · rw [zq_sig_eq (s := s) (fun k _ => e (23 + 3 * i) k (by omega)) (fun k _ => (e (10 + d) k (by omega)).2)]
    · exact ⟨fun x => absurd x.1 hd, fun x => absurd x.1 hd⟩
/-- the class looks at x, the reference at y -/
def zq_xy (n nc nl : Nat) (x y : zh_S) : Prop := zq_w x ∧ zq_w y ∧ zq_St n x nc nl ∧ zq_St n y nc nl ∧ ∀ a k, zq_P3 nc nl a k → zh_I y a k = zh_I x a k ∧ zh_J y a k = zh_J x a k
/-- the search object -/
def zq_sx (x : zh_S) (q a : Nat) (T : Int64) (dp : Nat) (st : Int32) : Prop := zh_oo x q 4 ∧ zh_R x q 0 = some 7 ∧ zh_R x q 4 = some a ∧ (zh_K x a = (0, 5) ∧ a < zh_N x) ∧ (62 ≤ q ∧ 62 ≤ a ∧ q ≠ a) ∧ zh_J x q 1 = T ∧ zh_I x q 2 = nI dp ∧ zh_I x q 3 = st
/-- the part -/
def zq_pp (nc : Nat) (x y : zh_S) (a : Nat) (p : Nat → Nat) (len : Nat) : Prop := len ≤ 5 ∧ ∀ k, k < len → p k < nc ∧ zh_I x a k = nI (p k) ∧ zh_I y 59 k = nI (p k)
def zq_lk (x : zh_S) (p : Nat → Nat) (len : Nat) : Prop := ∀ k, k + 1 < len → zh_J x (10 + p k) 0 = zh_J x (10 + p (k + 1)) 7 ∧ p k ≠ p (k + 1)
def zq_any (P : Nat → Bool) : Nat → Nat → Bool
  | 0, _ => false
  | r + 1, i => P i || zq_any P r (i + 1)
section SE
variable {n nc nl : Nat} {x y : zh_S} {q a : Nat} {T : Int64} {dp : Nat} {st : Int32} {p : Nat → Nat} {len : Nat}
theorem zq_sx.oa (h : zq_sx x q a T dp st) {k : Nat} (hk : k < 5) : zh_oa x a 0 (nI k) := ⟨by rw [h.2.2.2.1.1], h.2.2.2.1.2, nI_pos (by omega), by rw [h.2.2.2.1.1, nI_clamp (by omega)]; exact hk⟩
theorem zp_inPart (w : zq_w x) (hb : nc ≤ 12) (h : zq_sx x q a T dp st) (hp : zq_pp nc x y a p len) {k : Nat} (hk : k < len) : zf_Search_inPart n x q (nI k) = some (10 + p k) := by
  have hl := hp.1
  obtain ⟨h1, h2, h3⟩ := hp.2 k hk
  have hi : zh_I x a (nI k).toNatClampNeg = nI (p k) := by rw [nI_clamp (by omega)]; exact h2
  rw [zf_Search_inPart]
  refine zv_e (zv_ck h.1 (zv_p h.2.1 (zv_ck ⟨zw_K7 w, zw_N7 w⟩ (zv_p (zw_R7_0 w) (zv_p h.2.2.1 (zv_ck (h.oa (by omega)) ?_))))))
  rw [hi]
  exact zv_ck (zw_A8 w (by omega)) (zv_p (zw_R8c w (by omega)) (zv_r rfl))
def zq_tB (x : zh_S) (o : Nat) (T : Int64) : Bool := decide (zh_J x o 1 ≤ T) && decide (T ≤ zh_J x o 2)
theorem zp_timely (A B T : Int64) : (if 0 < lg_cmp A T then some (0 : Int32) else if 0 < lg_cmp T B then some 0 else some 1) = some (zq_bi (decide (A ≤ T) && decide (T ≤ B))) := by
  simp only [lg_cmp_gt]
  by_cases h1 : T < A
  · rw [if_pos h1, decide_eq_false (fun h => absurd h1 (Int64.not_lt.mpr h))]; rfl
  · rw [if_neg h1]
    by_cases h2 : B < T
    · rw [if_pos h2, decide_eq_false (p := T ≤ B) (fun h => absurd h2 (Int64.not_lt.mpr h)), Bool.and_false]; rfl
    · rw [if_neg h2, decide_eq_true (Int64.not_lt.mp h1), decide_eq_true (Int64.not_lt.mp h2)]; rfl
theorem zp_timC {o : Nat} (ho : zh_oo x o 0) : zf_Signed_isTimely_C n x o T = some (zq_bi (zq_tB x o T)) := by
  rw [zf_Signed_isTimely_C, if_pos ho]; exact zp_timely _ _ _
theorem zp_timR {o : Nat} (ho : zh_oo x o 3) : zf_Signed_isTimely_R n x o T = some (zq_bi (zq_tB x o T)) := by
  rw [zf_Signed_isTimely_R, if_pos ho]; exact zp_timely _ _ _
theorem zn_inB (n : Nat) (A B T : Int64) : zf_M_in n T A B = some (zq_bi (decide (A ≤ T) && decide (T ≤ B))) := by
  rw [zn_in]
  by_cases h1 : A ≤ T
  · by_cases h2 : T ≤ B
    · rw [if_pos ⟨h1, h2⟩, decide_eq_true h1, decide_eq_true h2]; rfl
    · rw [if_neg (fun h => h2 h.2), decide_eq_false h2, Bool.and_false]; rfl
  · rw [if_neg (fun h => h1 h.1), decide_eq_false h1, Bool.false_and]; rfl
def zq_gB (n : Nat) (x : zh_S) (o d : Nat) : Bool := decide (zq_g n (zh_J x o 3) (zh_J x (10 + d) 8) (zh_J x (10 + d) 9) (zh_I x o 4) = 1)
theorem zq_gB_bi (hn : 300 ≤ n) (o d : Nat) : zq_g n (zh_J x o 3) (zh_J x (10 + d) 8) (zh_J x (10 + d) 9) (zh_I x o 4) = zq_bi (zq_gB n x o d) := by
  unfold zq_gB
  rcases (zn_isgood (n := n) (by omega) (zh_J x o 3) (zh_J x (10 + d) 8) (zh_J x (10 + d) 9) (zh_I x o 4)).2 with h | h
  · rw [h]; rfl
  · rw [h]; rfl
theorem zp_bit {o d : Nat} {D : Nat → Prop} (h : zq_sb n x o D) (hd : d < 13) (hD : D d) (hj : zh_J x o 0 = zh_J x (10 + d) 7) : (((zh_I x o 5 >>> (nI d &&& 31)) &&& (1 : Int32)) = 1) ↔ zq_gB n x o d = true := by
  obtain ⟨m, hm, hi, hb⟩ := h
  rw [hi, zi_bit hm hd, hb d]
  unfold zq_gB zq_sig
  rw [decide_eq_true_eq]
  exact ⟨fun h => h.2.2, fun h => ⟨hD, hj, h⟩⟩
theorem zp_sgnC {c d : Nat} (w : zq_w x) (h : zq_St n x nc nl) (hc : c < nc) (hd : d < nc) (hcd : d ≠ c) (hj : zh_J x (10 + c) 0 = zh_J x (10 + d) 7) : zf_Signed_isSignedBy_C n x (10 + c) (nI d) = some (zq_bi (zq_gB n x (10 + c) d)) := by
  have hb := h.1
  have key := zp_bit (h.2.2.2.2.1 c (by omega)) (d := d) (by omega) ⟨hd, hc, hcd⟩ hj
  rw [zf_Signed_isSignedBy_C, if_pos (zw_C w (by omega))]
  cases hB : zq_gB n x (10 + c) d with
  | true => rw [if_pos (key.mpr hB)]; rfl
  | false => rw [if_neg (fun e => by rw [key.mp e] at hB; cases hB)]; rfl
theorem zp_sgnR {i d : Nat} (w : zq_w x) (h : zq_St n x nc nl) (hi : i < nl) (hd : d < nc) (hj : zh_J x (23 + 3 * i) 0 = zh_J x (10 + d) 7) : zf_Signed_isSignedBy_R n x (23 + 3 * i) (nI d) = some (zq_bi (zq_gB n x (23 + 3 * i) d)) := by
  have hb := h.1
  have key := zp_bit (h.2.2.2.2.2 i (by omega)) (d := d) (by omega) ⟨hd, hi⟩ hj
  rw [zf_Signed_isSignedBy_R, if_pos (zw_L w (by omega))]
  cases hB : zq_gB n x (23 + 3 * i) d with
  | true => rw [if_pos (key.mpr hB)]; rfl
  | false => rw [if_neg (fun e => by rw [key.mp e] at hB; cases hB)]; rfl
theorem zi_rt (v : Int32) : v.toInt64.toInt32 = v := by
  apply Int32.toBitVec_inj.mp
  simp
theorem zq_bi01 (b : Bool) : zq_bi b = 0 ∨ zq_bi b = 1 := by cases b; exact Or.inl rfl; exact Or.inr rfl
theorem zp_msgn (hn : 300 ≤ n) {o d : Nat} (w : zq_w y) (h : zq_St n y nc nl) (hd : d < nc) {J1 J3 : Int64} (e1 : J1 = zh_J y o 3) (e3 : J3 = (zh_I y o 4).toInt64) : zf_M_signedBy n y 44 J1 J3 (nI d) = some (zq_bi (zq_gB n y o d)) := by
  have hb := h.1
  obtain ⟨⟨v0, v1, v2, v3, v4, v5, v6, v7⟩, -⟩ := h.2.2.1 d hd
  rw [zf_M_signedBy, e1, e3, zi_rt]
  refine zv_e (zv_ck ⟨zw_K44 w, zw_N44 w⟩ (zv_p (zp_of w (k := 5) (by omega) (by decide)) (zv_p (zp_of w (k := 6) (by omega) (by decide)) (zv_p (zn_mgood (by omega) _ _ _ _ _) ?_))))
  rw [v5, v6, zq_gB_bi hn]
  exact zv_ck (zq_bi01 _) (zv_r rfl)
end SE
