/-! store. -/
theorem zq_fv_1 (b a st an : Bool) : (lN (zq_fv b a st) ||| (if an then 1 else 0) : Int64) = lN (zq_fv b a st + (if an then 1 else 0)) := by cases b <;> cases a <;> cases st <;> cases an <;> decide +kernel
section SR
variable {n : Nat}
theorem zq_sb_H {s t : zh_S} {o : Nat} {D : Nat → Prop} (h : zq_sb n s o D) (ho : o < 44) (hD : ∀ d, D d → d < 13) (f : zq_F (fun a _ => 44 ≤ a) s t) : zq_sb n t o D :=
  h.ke (f.2 o 5 (by omega)).1 (fun d => by
    constructor
    · intro q
      have hd := hD d q.1
      exact ⟨q.1, (zq_sig_eq (n := n) (s := s) (t := t) (fun k _ => f.2 o k (by omega)) (fun k _ => (f.2 (10 + d) k (by omega)).2)).mp q.2⟩
    · intro q
      have hd := hD d q.1
      exact ⟨q.1, (zq_sig_eq (n := n) (s := s) (t := t) (fun k _ => f.2 o k (by omega)) (fun k _ => (f.2 (10 + d) k (by omega)).2)).mpr q.2⟩)
/-- the new certificate -/
theorem zq_ce_new {l : List Nat} (hb : ∀ b ∈ l, b < 256) {nc : Nat} {an : Bool} {y t t1 u : zh_S} (hc : nc < 12) (g : zq_gd_ (zq_rc l).1) (cv : zq_CV y (10 + nc) (zq_rc l).2) (f1 : zq_F (fun a k => zq_Pg a k ∨ a = 10 + nc ∧ k = 18 ∨ a = 7 ∧ k = 2) y t) (h18 : zh_I t (10 + nc) 18 = zq_bi an) (f2 : zq_F zq_PU t t1) (cm : zq_CM t1 (zq_rc l).2) (f3 : zq_F (zq_Pc nc) t1 u) (b3 : ∀ j, j < 14 → zh_J u 55 (15 * nc + j) = zh_J t1 52 j) (b4 : zh_J u 55 (15 * nc + 14) = zh_J t1 52 14 ||| (if an then 1 else 0)) : zq_ce u nc := by
  have eI : ∀ k, k ≠ 5 → k ≠ 18 → zh_I u (10 + nc) k = zh_I y (10 + nc) k := fun k h5 h18 => by
    rw [(f3.2 (10 + nc) k (by omega)).1, (f2.2 (10 + nc) k (by omega)).1, (f1.2 (10 + nc) k (by omega)).1]
  have eJ : ∀ k, k ≠ 5 → k ≠ 18 → zh_J u (10 + nc) k = zh_J y (10 + nc) k := fun k h5 h18 => by
    rw [(f3.2 (10 + nc) k (by omega)).2, (f2.2 (10 + nc) k (by omega)).2, (f1.2 (10 + nc) k (by omega)).2]
  have e18 : zh_I u (10 + nc) 18 = zq_bi an := by
    rw [(f3.2 (10 + nc) 18 (by omega)).1, (f2.2 (10 + nc) 18 (by omega)).1]; exact h18
  obtain ⟨o1, o2, o3⟩ := zq_rc_ok hb g
  obtain ⟨⟨v6, v0, v1, v2, v7, v8, v9, v3⟩, v4, ⟨x10, x11, x12, x13⟩, x14, x15, x16, x17⟩ := cv
  obtain ⟨m0, m8, y9, y10, y11, y12, y13, y14⟩ := cm
  have hcnt : (zq_rc l).2.2.1.2.2.2.2.1 ≤ 200 := o3.2.2.2
  have b0 : zh_J u 55 (15 * nc) = zh_J t1 52 0 := b3 0 (by decide)
  refine ⟨⟨?_, ?_, ?_, ?_, ?_, ?_, ?_, ?_⟩, ⟨?_, ?_, ?_, ?_, ?_, ?_⟩, ⟨an, (zq_rc l).2.2.1.2.2.2.2.2.1, (zq_rc l).2.2.1.2.2.2.2.2.2.1, (zq_rc l).2.2.1.2.2.2.2.2.2.2, ?_, e18, ?_, ?_, ?_⟩, ⟨?_, ?_⟩, ?_, ?_, ?_⟩
  · rw [b0, eJ 6 (by decide) (by decide), m0 0 (by decide), v6]
  · rw [b3 1 (by decide), eJ 0 (by decide) (by decide), m0 1 (by decide), v0]
  · rw [b3 2 (by decide), eJ 1 (by decide) (by decide), m0 2 (by decide), v1]
  · rw [b3 3 (by decide), eJ 2 (by decide) (by decide), m0 3 (by decide), v2]
  · rw [b3 4 (by decide), eJ 7 (by decide) (by decide), m0 4 (by decide), v7]
  · rw [b3 5 (by decide), eJ 8 (by decide) (by decide), m0 5 (by decide), v8]
  · rw [b3 6 (by decide), eJ 9 (by decide) (by decide), m0 6 (by decide), v9]
  · rw [b3 7 (by decide), eJ 3 (by decide) (by decide), m0 7 (by decide), v3]
  · rw [b3 8 (by decide), eI 4 (by decide) (by decide), m8, v4]
  · rw [b3 9 (by decide), eJ 10 (by decide) (by decide), y9, x10]
  · rw [b3 10 (by decide), eJ 11 (by decide) (by decide), y10, x11]
  · rw [b3 11 (by decide), eJ 12 (by decide) (by decide), y11, x12]
  · rw [b3 12 (by decide), eJ 13 (by decide) (by decide), y12, x13]
  · rw [b3 13 (by decide), eI 14 (by decide) (by decide), y13, x14, nI_l (by omega)]
  · rw [b4, y14, zq_fv_1]
  · rw [eI 15 (by decide) (by decide)]; exact x15
  · rw [eI 16 (by decide) (by decide)]; exact x16
  · rw [eI 17 (by decide) (by decide)]; exact x17
  · rw [eJ 0 (by decide) (by decide), v0]; exact zq_in_lN o1
  · rw [eJ 7 (by decide) (by decide), v7]; exact zq_in_lN o2
  · rw [eJ 12 (by decide) (by decide), x12]; exact o3.2.1
  · rw [eJ 13 (by decide) (by decide), x13]; exact o3.2.2.1
  · rw [eJ 10 (by decide) (by decide), x10]; exact o3.1
theorem zq_li_new {l : List Nat} {nl : Nat} {y t t1 u : zh_S} (hl : nl < 6) (cv : zq_RV y (23 + 3 * nl) (zq_rl l).2) (f1 : zq_F (fun a k => zq_Pg a k ∨ a = 7 ∧ k = 3) y t) (f2 : zq_F zq_PW t t1) (cm : zq_RM t1 (zq_rl l).2) (f3 : zq_F (zq_Pl nl) t1 u) (b : zh_J u 56 (6 * nl) = zh_J t1 52 1 ∧ zh_J u 56 (6 * nl + 1) = zh_J t1 52 2 ∧ zh_J u 56 (6 * nl + 2) = zh_J t1 52 3 ∧ zh_J u 56 (6 * nl + 3) = (nI (zq_rl l).2.2.1.1).toInt64 ∧ zh_J u 56 (6 * nl + 4) = zh_J t1 52 7 ∧ zh_J u 56 (6 * nl + 5) = zh_J t1 52 8) (b5 : ∀ j, j < (zq_rl l).2.2.1.1 → zh_J u 57 (4 * nl + j) = zh_J t1 53 j ∧ zh_J u 58 (4 * nl + j) = zh_J t1 54 j) : zq_li u nl := by
  have eI : ∀ a k, 23 + 3 * nl ≤ a → a < 26 + 3 * nl → k ≠ 5 → zh_I u a k = zh_I y a k ∧ zh_J u a k = zh_J y a k := fun a k h1 h2 h5 => by
    rw [(f3.2 a k (by omega)).1, (f2.2 a k (by omega)).1, (f1.2 a k (by omega)).1, (f3.2 a k (by omega)).2, (f2.2 a k (by omega)).2, (f1.2 a k (by omega)).2]
    exact ⟨rfl, rfl⟩
  have hlen := zq_rl_len l
  obtain ⟨⟨v0, v1, v2, v3⟩, v4, v8, vE⟩ := cv
  obtain ⟨⟨m1, m2, m3, m7⟩, m8, m12, mE⟩ := cm
  obtain ⟨b0, b1, b2, b3, b4, b6⟩ := b
  refine ⟨⟨?_, ?_, ?_, ?_, ?_⟩, (zq_rl l).2.2.1.1, hlen, ?_, ?_, fun k hk => ⟨?_, ?_⟩⟩
  · rw [b0, m1, (eI _ 0 (by omega) (by omega) (by decide)).2, v0]
  · rw [b1, m2, (eI _ 1 (by omega) (by omega) (by decide)).2, v1]
  · rw [b2, m3, (eI _ 2 (by omega) (by omega) (by decide)).2, v2]
  · rw [b4, m7, (eI _ 3 (by omega) (by omega) (by decide)).2, v3]
  · rw [b6, m8, (eI _ 4 (by omega) (by omega) (by decide)).1, v4]
  · rw [(eI _ 8 (by omega) (by omega) (by decide)).1, v8]
  · rw [b3, nI_l (by omega)]
  · rw [(b5 k hk).1, (mE k hk).1, (eI (24 + 3 * nl) k (by omega) (by omega) (by omega)).2]
    exact (show zh_J y (23 + 3 * nl + 1) k = _ from (vE k hk).1) ▸ (by rw [show 23 + 3 * nl + 1 = 24 + 3 * nl by omega])
  · rw [(b5 k hk).2, (mE k hk).2, (eI (25 + 3 * nl) k (by omega) (by omega) (by omega)).2]
    exact (show zh_J y (23 + 3 * nl + 2) k = _ from (vE k hk).2) ▸ (by rw [show 23 + 3 * nl + 2 = 25 + 3 * nl by omega])
end SR
