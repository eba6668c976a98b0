/-! check. -/
theorem zv_x {β γ : Type} {o : Option (β × γ)} {c : β} {Q : γ → Prop} (h : ∃ x, o = some x ∧ x.1 = c ∧ Q x.2) : ∃ t, o = some (c, t) ∧ Q t := by
  obtain ⟨x, h1, h2, h3⟩ := h
  exact ⟨x.2, by rw [h1, ← h2], h3⟩
theorem zq_ll_len {l : List Nat} {e : Nat} : ∀ (k : Nat) (E : zq_Le) (x : Nat ⊕ Nat), (zq_ll l e k E x).2.1 ≤ E.1 + k := by
  intro k
  induction k with
  | zero => intro E x; exact Nat.le_refl _
  | succ k ih =>
    intro E x
    rw [zq_ll]
    split
    · have := ih (E.1 + 1, zq_up E.2.1 E.1 (zq_le l e x).2.1, zq_up E.2.2 E.1 (zq_le l e x).2.2) (zq_le l e x).1
      show _ ≤ E.1 + (k + 1)
      have h2 : (E.1 + 1, zq_up E.2.1 E.1 (zq_le l e x).2.1, zq_up E.2.2 E.1 (zq_le l e x).2.2).1 = E.1 + 1 := rfl
      rw [h2] at this
      omega
    · show E.1 ≤ E.1 + (k + 1); omega
theorem zq_rl_len (l : List Nat) : (zq_rl l).2.2.1.1 ≤ 4 := Nat.le_trans (zq_ll_len 4 _ _) (Nat.le_refl 4)
section CH
variable {n : Nat} {s : zh_S} {l : List Nat}
/-- a new reader -/
theorem zp_rdr (n : Nat) (w : zq_w s) : ∃ v, zf_Reader_init n (zh_new s (2, 2) 3) (zh_N s) 1 = some v ∧ zq_rd v (zh_N s) ∧ zq_cu v (zh_N s) 1 2 (.inr 0) ∧ zq_H (fun _ _ => False) s v ∧ zh_R v 0 3 = zh_R s 0 3 ∧ zh_N v = zh_N s + 1 ∧ zh_M v = zh_M s + 3 := by
  have hN := w.n
  have ho : zh_oo (zh_new s (2, 2) 3) (zh_N s) 2 := ⟨by rw [zs_nK, if_pos rfl], by rw [zs_nN]; omega⟩
  refine ⟨zh_uR (zh_uI (zh_uI (zh_new s (2, 2) 3) (zh_N s) 1 0) (zh_N s) 2 0) (zh_N s) 0 (some 1), ?_, ⟨ho, ?_, hN⟩, ⟨?_, ?_, Nat.zero_le _⟩, ?_, ?_, rfl, rfl⟩
  · rw [zf_Reader_init, if_pos ho]; rfl
  · rw [zs_RR, if_pos ⟨rfl, rfl⟩]
  · rw [zs_IR, zs_II, if_pos ⟨rfl, rfl⟩]; rfl
  · rw [zs_IR, zs_II, if_neg (by omega), zs_II, if_pos ⟨rfl, rfl⟩]; rfl
  · exact (((zq_H.nw s _ _).uI (fun h => absurd h (by omega)) _).uI (fun h => absurd h (by omega)) _).uR (Or.inl (Nat.le_refl _)) _
  · rw [zs_RR, if_neg (by omega), zs_RI, zs_RI, zs_nR, if_neg (by omega)]
theorem zp_nextC {nc : Nat} (w : zq_w s) (h : zh_I s 7 2 = nI nc) (hc : nc ≤ 12) : zf_Shelf_nextCertificate n s 7 = some (10 + nc) := by
  rw [zf_Shelf_nextCertificate, if_pos ⟨zw_K7 w, zw_N7 w⟩, zw_R7_0 w, h]
  show (if zh_oa s 8 3 (nI nc) then zk_p (zh_R s 8 (nI nc).toNatClampNeg) _ else none) = _
  rw [if_pos (zw_A8 w (by omega)), zw_R8c w (by omega)]
  rfl
theorem zp_nextL {nl : Nat} (w : zq_w s) (h : zh_I s 7 3 = nI nl) (hl : nl ≤ 6) : zf_Shelf_nextList n s 7 = some (23 + 3 * nl) := by
  rw [zf_Shelf_nextList, if_pos ⟨zw_K7 w, zw_N7 w⟩, zw_R7_1 w, h]
  show (if zh_oa s 9 4 (nI nl) then zk_p (zh_R s 9 (nI nl).toNatClampNeg) _ else none) = _
  rw [if_pos (zw_A9 w (by omega)), zw_R9c w (by omega)]
  rfl
/-- what reading changes of what was there -/
abbrev zq_Qc (nc a k : Nat) : Prop := a = 10 + nc ∧ k ≤ 17 ∧ k ≠ 5
abbrev zq_Ql (nl a k : Nat) : Prop := a = 23 + 3 * nl ∧ (k ≤ 4 ∨ k = 8) ∨ a = 24 + 3 * nl ∨ a = 25 + 3 * nl
def zq_yC (s : zh_S) (nc : Nat) (l : List Nat) (y : Int32 × zh_S) : Prop := y.1 = zq_an (zq_rc l).1 ∧ (y.1 = 0 ↔ zq_gd_ (zq_rc l).1) ∧ (zq_gd_ (zq_rc l).1 → zq_CV y.2 (10 + nc) (zq_rc l).2) ∧ zq_H (zq_Qc nc) s y.2 ∧ zh_R y.2 0 3 = zh_R s 0 3 ∧ zh_N y.2 = zh_N s + 1 ∧ zh_M y.2 = zh_M s + 3
def zq_yL (s : zh_S) (nl : Nat) (l : List Nat) (y : Int32 × zh_S) : Prop := y.1 = zq_an (zq_rl l).1 ∧ (y.1 = 0 ↔ zq_gd_ (zq_rl l).1) ∧ (zq_gd_ (zq_rl l).1 → zq_RV y.2 (23 + 3 * nl) (zq_rl l).2) ∧ zq_H (zq_Ql nl) s y.2 ∧ zh_R y.2 0 3 = zh_R s 0 3 ∧ zh_N y.2 = zh_N s + 1 ∧ zh_M y.2 = zh_M s + 3
theorem zq_dV.h {t : zh_S} (d : zq_dV s l) (w : zq_w s) (g : zq_H (fun _ _ => False) s t) : zq_dV t l :=
  ⟨by rw [(g.c w (a := 1) (k := 1) (by decide) id).1]; exact d.1, d.2.1, d.2.2.1, fun j hj => by rw [(g.c w (a := 2) (k := j) (by decide) id).1]; exact d.2.2.2 j hj⟩
theorem zp_coreC (hn : 300 ≤ n) {nc : Nat} (w : zq_w s) (d : zq_dV s l) (h : zh_I s 7 2 = nI nc) (hc : nc ≤ 12) : ∃ v y, zf_Reader_init n (zh_new s (2, 2) 3) (zh_N s) 1 = some v ∧ zq_w v ∧ zh_oo v (zh_N s) 2 ∧ zf_Shelf_nextCertificate n v 7 = some (10 + nc) ∧ zf_Reader_readCertificate n v (zh_N s) (10 + nc) = some y ∧ zq_w y.2 ∧ zq_yC s nc l y := by
  obtain ⟨v, e1, r1, c1, k1, q1, n1, m1⟩ := zp_rdr n w
  have wv := k1.w w
  have hv : zh_I v 7 2 = nI nc := by rw [(k1.c w (by decide) id).1]; exact h
  obtain ⟨y, e2, a1, a2, a3, k2⟩ := zx_cert hn (c := 10 + nc) (by omega) wv (zq_dV.h d w k1) r1 c1
  have hN := w.n
  refine ⟨v, y, e1, wv, r1.1, zp_nextC wv hv hc, e2, k2.w wv, a1, a2, a3, ?_, ?_, ?_, ?_⟩
  · exact (zq_H.tr (k1.mo (fun _ _ _ x => x.elim)) k2.h).mo (fun a k ha p => by omega)
  · rw [k2.1.1]; exact q1
  · rw [k2.1.2.2.1]; exact n1
  · rw [k2.1.2.2.2]; exact m1
theorem zp_coreL (hn : 300 ≤ n) {nl : Nat} (w : zq_w s) (d : zq_dV s l) (h : zh_I s 7 3 = nI nl) (hl : nl ≤ 6) : ∃ v y, zf_Reader_init n (zh_new s (2, 2) 3) (zh_N s) 1 = some v ∧ zq_w v ∧ zh_oo v (zh_N s) 2 ∧ zf_Shelf_nextList n v 7 = some (23 + 3 * nl) ∧ zf_Reader_readList n v (zh_N s) (23 + 3 * nl) = some y ∧ zq_w y.2 ∧ zq_yL s nl l y := by
  obtain ⟨v, e1, r1, c1, k1, q1, n1, m1⟩ := zp_rdr n w
  have wv := k1.w w
  have hv : zh_I v 7 3 = nI nl := by rw [(k1.c w (by decide) id).1]; exact h
  obtain ⟨y, e2, a1, a2, a3, k2⟩ := zx_list hn (L := 23 + 3 * nl) (by omega) wv (zq_dV.h d w k1) r1 c1
  have hN := w.n
  refine ⟨v, y, e1, wv, r1.1, zp_nextL wv hv hl, e2, k2.w wv, a1, a2, a3, ?_, ?_, ?_, ?_⟩
  · exact (zq_H.tr (k1.mo (fun _ _ _ x => x.elim)) k2.h).mo (fun a k ha p => by omega)
  · rw [k2.1.1]; exact q1
  · rw [k2.1.2.2.1]; exact n1
  · rw [k2.1.2.2.2]; exact m1
theorem zw_new0 (w : zq_w s) : zq_w (zh_new s (2, 2) 3) := (zq_H.nw (P := fun _ _ => False) s (2, 2) 3).w w
/-- check, both kinds, by the class -/
theorem zp_vchkC (hn : 300 ≤ n) {nc : Nat} (w : zq_w s) (d : zq_dV s l) (h : zh_I s 7 2 = nI nc) (hc : nc ≤ 12) : ∃ y, zf_V_check n s 0 1 = some y ∧ zq_w y.2 ∧ zq_yC s nc l y := by
  obtain ⟨v, y, e1, wv, o1, x1, r1, wy, hy⟩ := zp_coreC hn w d h hc
  have w0 := zw_new0 w
  rw [zf_V_check]
  refine zv_l (zv_l (zv_ck ⟨zw_K0 w0, zw_N0 w0⟩ (zv_p (zw_R0_0 w0) (zv_p e1 (zv_f (by decide) (zv_ck ⟨zw_K0 wv, zw_N0 wv⟩ (zv_p (zw_R0_2 wv) (zv_ck ⟨zw_K7 wv, zw_N7 wv⟩ (zv_p x1 (zv_ck o1 (zv_b (a := y.1) (b := y.2) r1 (zv_r ⟨wy, hy⟩))))))))))))
theorem zp_vchkL (hn : 300 ≤ n) {nl : Nat} (w : zq_w s) (d : zq_dV s l) (h : zh_I s 7 3 = nI nl) (hl : nl ≤ 6) : ∃ y, zf_V_check n s 0 0 = some y ∧ zq_w y.2 ∧ zq_yL s nl l y := by
  obtain ⟨v, y, e1, wv, o1, x1, r1, wy, hy⟩ := zp_coreL hn w d h hl
  have w0 := zw_new0 w
  rw [zf_V_check]
  refine zv_l (zv_l (zv_ck ⟨zw_K0 w0, zw_N0 w0⟩ (zv_p (zw_R0_0 w0) (zv_p e1 (zv_t rfl (zv_ck ⟨zw_K0 wv, zw_N0 wv⟩ (zv_p (zw_R0_2 wv) (zv_ck ⟨zw_K7 wv, zw_N7 wv⟩ (zv_p x1 (zv_ck o1 (zv_b (a := y.1) (b := y.2) r1 (zv_r ⟨wy, hy⟩))))))))))))
/-- check by the reference -/
theorem zp_mchkC (hn : 300 ≤ n) (w : zq_w s) (d : zq_dM s l) : ∃ t, zf_M_check n s 44 1 = some (zq_an (zq_rc l).1, t) ∧ (zq_gd_ (zq_rc l).1 → zq_CM t (zq_rc l).2) ∧ zq_F zq_PU s t := by
  have f0 : zq_F zq_PU s (zh_uI (zh_uI s 44 9 0) 44 10 0) := (zq_F.rf.uI (by omega) _).uI (by omega) _
  obtain ⟨t, e1, a1, a2, k1⟩ := zx_mcert hn (f0.w w) (d.kU f0) ⟨by rw [zs_II, if_pos ⟨rfl, rfl⟩]; rfl, by rw [zs_II, if_neg (by decide), zs_II, if_pos ⟨rfl, rfl⟩]; rfl, Nat.zero_le _⟩
  have wt := (f0.tr k1).w w
  rw [zf_M_check]
  exact zv_x (zv_ck ⟨zw_K44 w, zw_N44 w⟩ (zv_l (zv_l (zv_f (by decide) (zv_p e1 (zv_ck ⟨zw_K44 wt, zw_N44 wt⟩ (zv_r ⟨a1, a2, f0.tr k1⟩)))))))
theorem zp_mchkL (hn : 300 ≤ n) (w : zq_w s) (d : zq_dM s l) : ∃ t, zf_M_check n s 44 0 = some (zq_an (zq_rl l).1, t) ∧ (zq_gd_ (zq_rl l).1 → zq_RM t (zq_rl l).2) ∧ zq_F zq_PW s t := by
  have f0 : zq_F zq_PW s (zh_uI (zh_uI s 44 9 0) 44 10 0) := (zq_F.rf.uI (by omega) _).uI (by omega) _
  obtain ⟨t, e1, a1, a2, k1⟩ := zx_mlist hn (f0.w w) (d.kW f0) ⟨by rw [zs_II, if_pos ⟨rfl, rfl⟩]; rfl, by rw [zs_II, if_neg (by decide), zs_II, if_pos ⟨rfl, rfl⟩]; rfl, Nat.zero_le _⟩
  have wt := (f0.tr k1).w w
  rw [zf_M_check]
  exact zv_x (zv_ck ⟨zw_K44 w, zw_N44 w⟩ (zv_l (zv_l (zv_t rfl (zv_p e1 (zv_ck ⟨zw_K44 wt, zw_N44 wt⟩ (zv_r ⟨a1, a2, f0.tr k1⟩)))))))
end CH
/-! The invariant as a whole. -/
def zq_In (n : Nat) (s : zh_S) : Prop := zq_w s ∧ (∃ l, zq_I1 s l) ∧ (∃ F A B c, zq_I2 s F A B c) ∧ (∃ nc nl, zq_St n s nc nl) ∧ zq_La s
/-- how much a call makes -/
def zq_Gr (s t : zh_S) : Prop := zh_N t ≤ zh_N s + 2 ∧ zh_M t ≤ zh_M s + 13
theorem zq_F.gr {P : Nat → Nat → Prop} {s t u : zh_S} (g : zq_Gr s t) (f : zq_F P t u) : zq_Gr s u := by
  unfold zq_Gr
  rw [f.1.2.2.1, f.1.2.2.2]
  exact g
theorem zq_Gr.rf {s : zh_S} : zq_Gr s s := ⟨by omega, by omega⟩
/-- check -/
theorem zy_check {n : Nat} (hn : 300 ≤ n) {s : zh_S} (h : zq_In n s) (b : Bool) : ∃ r t u, zf_V_check n s 0 (zq_bi b) = some (r, t) ∧ zq_w t ∧ zf_M_check n t 44 (zq_bi b) = some (r, u) ∧ zq_In n u ∧ zq_Gr s u := by
  obtain ⟨w, ⟨l, h1⟩, ⟨F, A, B, c, h2⟩, ⟨nc, nl, h3⟩, h4⟩ := h
  have hb := h3.1
  have hN := w.n
  cases b with
  | true =>
    obtain ⟨y, e1, wy, a1, a2, a3, k1, q1, n1, m1⟩ := zp_vchkC hn w h1.1 h3.2.1.1 hb.1
    have h1' := h1.ke w k1 (fun a k p => by omega)
    obtain ⟨t, e2, a4, k2⟩ := zp_mchkC hn wy h1'.2
    have k2h := k2.h
    refine ⟨y.1, y.2, t, e1, wy, by rw [a1]; exact e2, ⟨k2.w wy, ⟨l, h1'.ke wy k2h (fun a k p => by omega)⟩, ⟨F, A, B, c, (h2.ke w k1 (fun a k p => by omega)).ke wy k2h (fun a k p => by omega)⟩, ⟨nc, nl, (h3.ke w k1 (fun a k p => by omega)).ke wy k2h (fun a k p => by omega)⟩, (h4.ke w k1 q1 (fun a k p => by omega)).ke wy k2h (by rw [k2.1.1]) (fun a k p => by omega)⟩, ?_⟩
    exact zq_F.gr ⟨by omega, by omega⟩ k2
  | false =>
    obtain ⟨y, e1, wy, a1, a2, a3, k1, q1, n1, m1⟩ := zp_vchkL hn w h1.1 h3.2.1.2.2.1 hb.2
    have h1' := h1.ke w k1 (fun a k p => by omega)
    obtain ⟨t, e2, a4, k2⟩ := zp_mchkL hn wy h1'.2
    have k2h := k2.h
    refine ⟨y.1, y.2, t, e1, wy, by rw [a1]; exact e2, ⟨k2.w wy, ⟨l, h1'.ke wy k2h (fun a k p => by omega)⟩, ⟨F, A, B, c, (h2.ke w k1 (fun a k p => by omega)).ke wy k2h (fun a k p => by omega)⟩, ⟨nc, nl, (h3.ke w k1 (fun a k p => by omega)).ke wy k2h (fun a k p => by omega)⟩, (h4.ke w k1 q1 (fun a k p => by omega)).ke wy k2h (by rw [k2.1.1]) (fun a k p => by omega)⟩, ?_⟩
    exact zq_F.gr ⟨by omega, by omega⟩ k2
