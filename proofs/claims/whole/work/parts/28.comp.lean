/-! Running code forward. -/
theorem zv_ck {c : Prop} [Decidable c] {β : Type} {A : Option β} {Q : β → Prop} (h : c) (k : ∃ x, A = some x ∧ Q x) : ∃ x, (if c then A else none) = some x ∧ Q x := by rw [if_pos h]; exact k
theorem zv_t {c : Prop} [Decidable c] {β : Type} {A B : Option β} {Q : β → Prop} (h : c) (k : ∃ x, A = some x ∧ Q x) : ∃ x, (if c then A else B) = some x ∧ Q x := by rw [if_pos h]; exact k
theorem zv_f {c : Prop} [Decidable c] {β : Type} {A B : Option β} {Q : β → Prop} (h : ¬ c) (k : ∃ x, B = some x ∧ Q x) : ∃ x, (if c then A else B) = some x ∧ Q x := by rw [if_neg h]; exact k
theorem zv_l {α β : Type} {e : α} {f : α → Option β} {Q : β → Prop} (k : ∃ x, f e = some x ∧ Q x) : ∃ x, zk_l e f = some x ∧ Q x := k
theorem zv_p {α β : Type} {o : Option α} {a : α} {f : α → Option β} {Q : β → Prop} (h : o = some a) (k : ∃ x, f a = some x ∧ Q x) : ∃ x, zk_p o f = some x ∧ Q x := by rw [h]; exact k
theorem zv_b {α β γ : Type} {o : Option (α × γ)} {a : α} {b : γ} {f : α → γ → Option β} {Q : β → Prop} (h : o = some (a, b)) (k : ∃ x, f a b = some x ∧ Q x) : ∃ x, zk_b o f = some x ∧ Q x := by rw [h]; exact k
theorem zv_r {β : Type} {x : β} {Q : β → Prop} (h : Q x) : ∃ y, some x = some y ∧ Q y := ⟨x, rfl, h⟩
/-! The template, and what is composed of it. -/
def zq_TV (s : zh_S) (F : Nat → Int64) : Prop := ∀ k, k < 13 → zh_J s 4 k = F k
def zq_TM (s : zh_S) (F : Nat → Int64) : Prop := ∀ k, k < 13 → zh_J s 46 k = F k
theorem zq_TV.ke {s t : zh_S} {F : Nat → Int64} (h : zq_TV s F) (f : zq_F zq_PD s t) : zq_TV t F := fun k hk => by rw [(f.2 4 k (by omega)).2]; exact h k hk
theorem zq_TM.ke {s t : zh_S} {F : Nat → Int64} (h : zq_TM s F) (f : zq_F zq_PE s t) : zq_TM t F := fun k hk => by rw [(f.2 46 k (by omega)).2]; exact h k hk
def zq_ok (F : Nat → Int64) : Prop := (¬ F 0 < 0 ∧ ¬ F 2 < 0 ∧ ¬ F 3 < 0) ∧ (zq_in (F 1) = true ∧ zq_in (F 4) = true) ∧ (∃ k : Nat, k < 6 ∧ F 5 = lN k) ∧ (F 6 = -1 ∨ F 6 = lN 0 ∨ F 6 = lN 1) ∧ (F 7 = -1 ∨ ∃ k : Nat, k ≤ 9 ∧ F 7 = lN k) ∧ (F 8 = -1 ∨ ∃ k : Nat, 1 ≤ k ∧ k ≤ 7 ∧ F 8 = lN k) ∧ (F 9 = 0 ∨ zq_in (F 9) = true) ∧ (F 10 = 0 ∨ zq_in (F 10) = true) ∧ (∃ k : Nat, k ≤ 2 ∧ F 11 = lN k) ∧ ∃ k : Nat, k < 6 ∧ F 12 = lN k
/-- a long as a number -/
def zq_v (j : Int64) : Nat := j.toBitVec.toNat
theorem zq_v_lN {x : Nat} (h : x < 2 ^ 63) : zq_v (lN x) = x := zn_tn (by omega)
theorem zq_v_of {j : Int64} (h : ¬ j < 0) : j = lN (zq_v j) ∧ zq_v j < 2 ^ 63 := by
  obtain ⟨x, hx, rfl⟩ := pk_lOf h
  rw [zq_v_lN hx]
  exact ⟨rfl, hx⟩
theorem zq_v_in {j : Int64} (h : zq_in j = true) : j = lN (zq_v j) ∧ zq_nm (zq_v j) = true := by
  unfold zq_in at h
  rw [Bool.and_eq_true, decide_eq_true_eq] at h
  exact ⟨(zq_v_of h.1).1, h.2⟩
theorem zq_in_ne {j : Int64} (h : zq_in j = true) : ¬ j = 0 := fun e => by
  rw [e] at h
  exact absurd h (by decide +kernel)
theorem zq_l3 {v : Nat} (h : v < 128) : (zq_eI v).length = 3 := by
  have : zq_ln v = 1 := by
    unfold zq_ln
    rw [zq_iln, if_neg (by decide), if_pos (Nat.div_eq_of_lt (by simpa using h))]
  rw [zq_eI, List.length_cons, List.length_cons, zq_by_len, this]
def zq_el (q : List Nat) : List Nat := zq_hd 48 q.length ++ q
theorem zq_el_len (q : List Nat) : (zq_el q).length ≤ q.length + 3 := by
  rw [zq_el, List.length_append, zq_hd_len]
  unfold zq_hl; split <;> omega
theorem zq_el_pos (q : List Nat) : 2 ≤ (zq_el q).length := by
  rw [zq_el, List.length_append, zq_hd_len]
  unfold zq_hl; split <;> omega
abbrev zq_y : List Nat := [1, 1, 255]
def zq_xb (F : Nat → Int64) : List Nat := if F 6 = lN 1 then zq_y ++ (if F 7 = -1 then [] else zq_eI (zq_v (F 7))) else []
def zq_xB (F : Nat → Int64) : List Nat := if F 6 = -1 then [] else zq_el (zq_eI 1 ++ (zq_y ++ zq_el (zq_xb F)))
def zq_xU (F : Nat → Int64) : List Nat := if F 8 = -1 then [] else zq_el (zq_eI 2 ++ (zq_y ++ zq_eI (zq_v (F 8))))
def zq_xr (F : Nat → Int64) : List Nat := (if F 9 = 0 then [] else zq_eN 128 (zq_v (F 9))) ++ (if F 10 = 0 then [] else zq_eN 129 (zq_v (F 10)))
def zq_xR (F : Nat → Int64) : List Nat := if F 9 = 0 ∧ F 10 = 0 then [] else zq_el (zq_eI 3 ++ (zq_y ++ zq_el (zq_xr F)))
def zq_xO (F : Nat → Int64) : List Nat := if F 11 = lN 0 then [] else zq_el (zq_eI 9 ++ ((if F 11 = lN 2 then zq_y else []) ++ [4, 0]))
def zq_xx (F : Nat → Int64) : List Nat := zq_xB F ++ (zq_xU F ++ (zq_xR F ++ zq_xO F))
def zq_xs (F : Nat → Int64) : List Nat := if (zq_xx F).length = 0 then [] else zq_el (zq_xx F)
theorem zq_xb_len {F : Nat → Int64} (ok : zq_ok F) : (zq_xb F).length ≤ 6 := by
  unfold zq_xb
  split
  · split
    · simp
    · rcases ok.2.2.2.2.1 with h | ⟨k, hk, h⟩
      · contradiction
      · rw [h, zq_v_lN (by omega), List.length_append, zq_l3 (by omega)]; simp
  · simp
theorem zq_xr_len (F : Nat → Int64) : (zq_xr F).length ≤ 20 := by
  unfold zq_xr
  rw [List.length_append]
  have h1 : (if F 9 = 0 then [] else zq_eN 128 (zq_v (F 9))).length ≤ 10 := by
    split
    · simp
    · exact zq_eN_len _ _
  have h2 : (if F 10 = 0 then [] else zq_eN 129 (zq_v (F 10))).length ≤ 10 := by
    split
    · simp
    · exact zq_eN_len _ _
  omega
theorem zq_xB_len {F : Nat → Int64} (ok : zq_ok F) : (zq_xB F).length ≤ 18 := by
  unfold zq_xB
  split
  · simp
  · have h1 := zq_el_len (zq_eI 1 ++ (zq_y ++ zq_el (zq_xb F)))
    have h2 := zq_el_len (zq_xb F)
    have h3 := zq_xb_len ok
    rw [List.length_append, List.length_append, zq_l3 (by omega)] at h1
    simp only [List.length_cons, List.length_nil] at h1
    omega
theorem zq_xU_len {F : Nat → Int64} (ok : zq_ok F) : (zq_xU F).length ≤ 12 := by
  unfold zq_xU
  split
  · simp
  · rcases ok.2.2.2.2.2.1 with h | ⟨k, k1, hk, h⟩
    · contradiction
    · have h1 := zq_el_len (zq_eI 2 ++ (zq_y ++ zq_eI (zq_v (F 8))))
      rw [List.length_append, List.length_append, zq_l3 (by omega), h, zq_v_lN (by omega), zq_l3 (by omega)] at h1
      simp only [List.length_cons, List.length_nil] at h1
      rw [h, zq_v_lN (by omega)]
      omega
theorem zq_xR_len (F : Nat → Int64) : (zq_xR F).length ≤ 32 := by
  unfold zq_xR
  split
  · simp
  · have h1 := zq_el_len (zq_eI 3 ++ (zq_y ++ zq_el (zq_xr F)))
    have h2 := zq_el_len (zq_xr F)
    have h3 := zq_xr_len F
    rw [List.length_append, List.length_append, zq_l3 (by omega)] at h1
    simp only [List.length_cons, List.length_nil] at h1
    omega
theorem zq_xO_len (F : Nat → Int64) : (zq_xO F).length ≤ 11 := by
  unfold zq_xO
  split
  · simp
  · have h1 := zq_el_len (zq_eI 9 ++ ((if F 11 = lN 2 then zq_y else []) ++ [4, 0]))
    have h2 : (if F 11 = lN 2 then zq_y else []).length ≤ 3 := by split <;> simp
    rw [List.length_append, List.length_append, zq_l3 (by omega)] at h1
    simp only [List.length_cons, List.length_nil] at h1
    omega
theorem zq_xx_len {F : Nat → Int64} (ok : zq_ok F) : (zq_xx F).length ≤ 73 := by
  have h1 := zq_xB_len ok
  have h2 := zq_xU_len ok
  have h3 := zq_xR_len F
  have h4 := zq_xO_len F
  unfold zq_xx
  rw [List.length_append, List.length_append, List.length_append]
  omega
/-- wrapping what stands behind l as a sequence -/
theorem zp_wr {n : Nat} {s : zh_S} {l q : List Nat} (w : zq_w s) (d : zq_dV s (l ++ q)) (hl : l.length + q.length + 3 ≤ 200) : ∃ t, zf_Draft_wrap n s 1 (nI l.length) 48 = some t ∧ zq_dV t (l ++ zq_el q) ∧ zq_F zq_PD s t := zp_wrap (tag := 48) (by decide) w d hl
theorem zp_mwr {n : Nat} (hn : 300 ≤ n) {s : zh_S} {l q : List Nat} (w : zq_w s) (d : zq_dM s (l ++ q)) (hl : l.length + q.length + 3 ≤ 200) : ∃ t, zf_M_wrap n s 44 (nI l.length) 48 = some t ∧ zq_dM t (l ++ zq_el q) ∧ zq_F zq_PE s t := zp_mwrap hn (tag := 48) (by decide) w d hl
