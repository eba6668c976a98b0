/-! What is made behind the layout, and the invariant between class and reference. -/
theorem zs_nI (s : zh_S) (kd : Nat × Nat) (sl a k : Nat) : zh_I (zh_new s kd sl) a k = if a = zh_N s then 0 else zh_I s a k := by
  show va_up s.1 (zh_N s) (fun _ => 0) a k = _
  unfold va_up
  by_cases h : a = zh_N s
  · simp [h]
  · simp [h]; rfl
theorem zs_nJ (s : zh_S) (kd : Nat × Nat) (sl a k : Nat) : zh_J (zh_new s kd sl) a k = if a = zh_N s then 0 else zh_J s a k := by
  show va_up s.2.1 (zh_N s) (fun _ => 0) a k = _
  unfold va_up
  by_cases h : a = zh_N s
  · simp [h]
  · simp [h]; rfl
theorem zs_nR (s : zh_S) (kd : Nat × Nat) (sl a k : Nat) : zh_R (zh_new s kd sl) a k = if a = zh_N s then none else zh_R s a k := by
  show va_up s.2.2.1 (zh_N s) (fun _ => none) a k = _
  unfold va_up
  by_cases h : a = zh_N s
  · simp [h]
  · simp [h]; rfl
theorem zs_nK (s : zh_S) (kd : Nat × Nat) (sl a : Nat) : zh_K (zh_new s kd sl) a = if a = zh_N s then kd else zh_K s a := by
  show va_up s.2.2.2.1 (zh_N s) kd a = _
  unfold va_up
  by_cases h : a = zh_N s
  · simp [h]
  · simp [h]; rfl
theorem zs_nN (s : zh_S) (kd : Nat × Nat) (sl : Nat) : zh_N (zh_new s kd sl) = zh_N s + 1 := rfl
theorem zs_nM (s : zh_S) (kd : Nat × Nat) (sl : Nat) : zh_M (zh_new s kd sl) = zh_M s + sl := rfl
/-- of what was there, nothing but P has changed -/
def zq_H (P : Nat → Nat → Prop) (s t : zh_S) : Prop := zh_N s ≤ zh_N t ∧ ∀ a, a < zh_N s → zh_K t a = zh_K s a ∧ ∀ k, (¬ (a = 0 ∧ k = 3) → zh_R t a k = zh_R s a k) ∧ (¬ P a k → zh_I t a k = zh_I s a k ∧ zh_J t a k = zh_J s a k)
theorem zq_F.h {P : Nat → Nat → Prop} {s t : zh_S} (f : zq_F P s t) : zq_H P s t := by
  obtain ⟨⟨h1, h2, h3, -⟩, h5⟩ := f
  exact ⟨by rw [h3]; exact Nat.le_refl _, fun a _ => ⟨by rw [h2], fun k => ⟨fun _ => by rw [h1], h5 a k⟩⟩⟩
theorem zq_H.tr {P : Nat → Nat → Prop} {s t u : zh_S} (h : zq_H P s t) (g : zq_H P t u) : zq_H P s u :=
  ⟨Nat.le_trans h.1 g.1, fun a ha => by
    have h1 := h.2 a ha
    have g1 := g.2 a (Nat.lt_of_lt_of_le ha h.1)
    exact ⟨g1.1.trans h1.1, fun k => ⟨fun q => ((g1.2 k).1 q).trans ((h1.2 k).1 q), fun q => ⟨((g1.2 k).2 q).1.trans ((h1.2 k).2 q).1, ((g1.2 k).2 q).2.trans ((h1.2 k).2 q).2⟩⟩⟩⟩
theorem zq_H.mo {P Q : Nat → Nat → Prop} {s t : zh_S} (h : zq_H P s t) (hq : ∀ a k, a < zh_N s → P a k → Q a k) : zq_H Q s t :=
  ⟨h.1, fun a ha => ⟨(h.2 a ha).1, fun k => ⟨((h.2 a ha).2 k).1, fun q => ((h.2 a ha).2 k).2 (fun p => q (hq a k ha p))⟩⟩⟩
theorem zq_H.rf {P : Nat → Nat → Prop} {s : zh_S} : zq_H P s s := zq_F.rf.h
theorem zq_H.nw {P : Nat → Nat → Prop} (s : zh_S) (kd : Nat × Nat) (sl : Nat) : zq_H P s (zh_new s kd sl) :=
  ⟨Nat.le_succ _, fun a ha => ⟨by rw [zs_nK, if_neg (by omega)], fun k => ⟨fun _ => by rw [zs_nR, if_neg (by omega)], fun _ => ⟨by rw [zs_nI, if_neg (by omega)], by rw [zs_nJ, if_neg (by omega)]⟩⟩⟩⟩
theorem zq_H.uI {P : Nat → Nat → Prop} {s t : zh_S} (h : zq_H P s t) {a k : Nat} (p : a < zh_N s → P a k) (v : Int32) : zq_H P s (zh_uI t a k v) :=
  ⟨h.1, fun b hb => ⟨(h.2 b hb).1, fun j => ⟨((h.2 b hb).2 j).1, fun q => ⟨by
    rw [zs_II, if_neg (fun e => q (by rw [e.1, e.2]; exact p (by rw [← e.1]; exact hb)))]; exact (((h.2 b hb).2 j).2 q).1, (((h.2 b hb).2 j).2 q).2⟩⟩⟩⟩
theorem zq_H.uJ {P : Nat → Nat → Prop} {s t : zh_S} (h : zq_H P s t) {a k : Nat} (p : a < zh_N s → P a k) (v : Int64) : zq_H P s (zh_uJ t a k v) :=
  ⟨h.1, fun b hb => ⟨(h.2 b hb).1, fun j => ⟨((h.2 b hb).2 j).1, fun q => ⟨(((h.2 b hb).2 j).2 q).1, by
    rw [zs_JJ, if_neg (fun e => q (by rw [e.1, e.2]; exact p (by rw [← e.1]; exact hb)))]; exact (((h.2 b hb).2 j).2 q).2⟩⟩⟩⟩
theorem zq_H.uR {P : Nat → Nat → Prop} {s t : zh_S} (h : zq_H P s t) {a k : Nat} (p : zh_N s ≤ a ∨ a = 0 ∧ k = 3) (v : Option Nat) : zq_H P s (zh_uR t a k v) :=
  ⟨h.1, fun b hb => ⟨(h.2 b hb).1, fun j => ⟨fun q => by
    rw [zs_RR, if_neg (fun e => by rcases p with p | p; exact absurd hb (by omega); exact q ⟨by omega, by omega⟩)]; exact ((h.2 b hb).2 j).1 q, ((h.2 b hb).2 j).2⟩⟩⟩
theorem zq_R_lt {a k : Nat} (h : (zq_R a k).isSome = true) : a < 62 ∧ ¬ (a = 0 ∧ k = 3) := by
  refine ⟨?_, fun e => ?_⟩
  · by_cases ha : a < 62
    · exact ha
    · exfalso
      unfold zq_R at h
      rw [if_neg (by omega), if_neg (by omega), if_neg (by omega)] at h
      have hb : ∀ x y : Nat, x < 62 → ((a, k) == (x, y)) = false := fun x y hx => by
        rw [beq_eq_false_iff_ne]; intro e; rw [Prod.mk.injEq] at e; omega
      simp (disch := decide) only [List.lookup, hb] at h
      exact absurd h (by decide)
  · rw [e.1, e.2] at h
    exact absurd h (by decide)
theorem zq_H.w {P : Nat → Nat → Prop} {s t : zh_S} (h : zq_H P s t) (w : zq_w s) : zq_w t :=
  ⟨fun a ha => Nat.lt_of_lt_of_le (w.1 a ha) h.1, fun a ha => by rw [(h.2 a (w.1 a ha)).1]; exact w.2.1 a ha, fun a k q => by
    have hl := zq_R_lt q
    rw [((h.2 a (w.1 a hl.1)).2 k).1 hl.2]; exact w.2.2 a k q⟩
theorem zq_w.n {s : zh_S} (w : zq_w s) : 62 ≤ zh_N s := by have := w.1 61 (by decide); omega
theorem zq_H.c {P : Nat → Nat → Prop} {s t : zh_S} (h : zq_H P s t) (w : zq_w s) {a k : Nat} (ha : a < 62) (q : ¬ P a k) : zh_I t a k = zh_I s a k ∧ zh_J t a k = zh_J s a k := ((h.2 a (w.1 a ha)).2 k).2 q
/-! The parts of the invariant. -/
def zq_I1 (s : zh_S) (l : List Nat) : Prop := zq_dV s l ∧ zq_dM s l
def zq_I2 (s : zh_S) (F A B : Nat → Int64) (c : Nat) : Prop := (zq_TV s F ∧ zq_TM s F ∧ zq_ok F) ∧ (zq_VV s A B c ∧ zq_VM s A B c ∧ zq_vok A B c) ∧ zq_MT s
/-- the key of certificate c, whose subject is the issuer, signed o -/
def zq_sig (n : Nat) (s : zh_S) (o c : Nat) : Prop := zh_J s o 0 = zh_J s c 7 ∧ zq_g n (zh_J s o 3) (zh_J s c 8) (zh_J s c 9) (zh_I s o 4) = 1
/-- the bits of signers -/
def zq_sb (n : Nat) (s : zh_S) (o : Nat) (D : Nat → Prop) : Prop := ∃ m : Nat, m < 2 ^ 13 ∧ zh_I s o 5 = nI m ∧ ∀ d, m.testBit d = true ↔ D d ∧ zq_sig n s o (10 + d)
/-- certificate c: class and reference hold the same, and it is a certificate -/
def zq_ce (s : zh_S) (c : Nat) : Prop :=
  (zh_J s 55 (15 * c) = zh_J s (10 + c) 6 ∧ zh_J s 55 (15 * c + 1) = zh_J s (10 + c) 0 ∧ zh_J s 55 (15 * c + 2) = zh_J s (10 + c) 1 ∧ zh_J s 55 (15 * c + 3) = zh_J s (10 + c) 2 ∧ zh_J s 55 (15 * c + 4) = zh_J s (10 + c) 7 ∧ zh_J s 55 (15 * c + 5) = zh_J s (10 + c) 8 ∧ zh_J s 55 (15 * c + 6) = zh_J s (10 + c) 9 ∧ zh_J s 55 (15 * c + 7) = zh_J s (10 + c) 3) ∧
  (zh_J s 55 (15 * c + 8) = (zh_I s (10 + c) 4).toInt64 ∧ zh_J s 55 (15 * c + 9) = zh_J s (10 + c) 10 ∧ zh_J s 55 (15 * c + 10) = zh_J s (10 + c) 11 ∧ zh_J s 55 (15 * c + 11) = zh_J s (10 + c) 12 ∧ zh_J s 55 (15 * c + 12) = zh_J s (10 + c) 13 ∧ zh_J s 55 (15 * c + 13) = (zh_I s (10 + c) 14).toInt64) ∧
  (∃ a b u g : Bool, zh_J s 55 (15 * c + 14) = lN (zq_fv b u g + (if a then 1 else 0)) ∧ zh_I s (10 + c) 18 = zq_bi a ∧ zh_I s (10 + c) 15 = zq_bi b ∧ zh_I s (10 + c) 16 = zq_bi u ∧ zh_I s (10 + c) 17 = zq_bi g) ∧
  (zq_in (zh_J s (10 + c) 0) = true ∧ zq_in (zh_J s (10 + c) 7) = true) ∧ (zh_J s (10 + c) 12 = 0 ∨ zq_in (zh_J s (10 + c) 12) = true) ∧ (zh_J s (10 + c) 13 = 0 ∨ zq_in (zh_J s (10 + c) 13) = true) ∧ (zh_J s (10 + c) 10 = -1 ∨ ¬ zh_J s (10 + c) 10 < 0)
/-- list i likewise -/
def zq_li (s : zh_S) (i : Nat) : Prop :=
  (zh_J s 56 (6 * i) = zh_J s (23 + 3 * i) 0 ∧ zh_J s 56 (6 * i + 1) = zh_J s (23 + 3 * i) 1 ∧ zh_J s 56 (6 * i + 2) = zh_J s (23 + 3 * i) 2 ∧ zh_J s 56 (6 * i + 4) = zh_J s (23 + 3 * i) 3 ∧ zh_J s 56 (6 * i + 5) = (zh_I s (23 + 3 * i) 4).toInt64) ∧
  ∃ e : Nat, e ≤ 4 ∧ zh_I s (23 + 3 * i) 8 = nI e ∧ zh_J s 56 (6 * i + 3) = lN e ∧ ∀ k, k < e → zh_J s 57 (4 * i + k) = zh_J s (24 + 3 * i) k ∧ zh_J s 58 (4 * i + k) = zh_J s (25 + 3 * i) k
def zq_St (n : Nat) (s : zh_S) (nc nl : Nat) : Prop := (nc ≤ 12 ∧ nl ≤ 6) ∧ (zh_I s 7 2 = nI nc ∧ zh_I s 44 15 = nI nc ∧ zh_I s 7 3 = nI nl ∧ zh_I s 44 17 = nI nl) ∧ (∀ c, c < nc → zq_ce s c) ∧ (∀ i, i < nl → zq_li s i) ∧ (∀ c, c < 13 → zq_sb n s (10 + c) (fun d => d < nc ∧ c < nc ∧ d ≠ c)) ∧ ∀ i, i < 7 → zq_sb n s (23 + 3 * i) (fun d => d < nc ∧ i < nl)
/-- the latest search -/
def zq_La (s : zh_S) : Prop := (zh_R s 0 3 = none ∧ zh_I s 44 24 = 0 ∧ zh_I s 44 25 = 0) ∨ ∃ q p f : Nat, zh_R s 0 3 = some q ∧ (62 ≤ q ∧ zh_oo s q 4) ∧ zh_R s q 4 = some p ∧ (62 ≤ p ∧ p < zh_N s ∧ zh_K s p = (0, 5)) ∧ f ≤ 5 ∧ zh_I s q 5 = nI f ∧ zh_I s 44 24 = nI f ∧ zh_I s q 7 = zh_I s 44 25 ∧ ∀ k, k < f → zh_I s 61 k = zh_I s p (f - 1 - k)
/-! How they are kept. -/
abbrev zq_P1 (a k : Nat) : Prop := a = 1 ∧ k = 1 ∨ a = 2 ∨ a = 44 ∧ k = 1 ∨ a = 45
abbrev zq_P2 (a k : Nat) : Prop := a = 3 ∧ k = 3 ∨ a = 4 ∨ a = 5 ∨ a = 6 ∨ a = 44 ∧ k = 3 ∨ 46 ≤ a ∧ a ≤ 51
abbrev zq_P3 (nc nl : Nat) (a k : Nat) : Prop := a = 7 ∧ (k = 2 ∨ k = 3) ∨ a = 44 ∧ (k = 15 ∨ k = 17) ∨ a = 55 ∧ k < 15 * nc ∨ a = 56 ∧ k < 6 * nl ∨ (a = 57 ∨ a = 58) ∧ k < 4 * nl ∨ 10 ≤ a ∧ a < 10 + nc ∨ 10 ≤ a ∧ a < 23 ∧ k = 5 ∨ 23 ≤ a ∧ a < 23 + 3 * nl ∨ 23 ≤ a ∧ a < 44 ∧ (a - 23) % 3 = 0 ∧ k = 5
abbrev zq_P4 (N : Nat) (a k : Nat) : Prop := a = 44 ∧ (k = 24 ∨ k = 25) ∨ a = 61 ∨ 62 ≤ a ∧ a < N
section KE
variable {P : Nat → Nat → Prop} {n : Nat} {s t : zh_S}
theorem zq_I1.ke {l : List Nat} (h : zq_I1 s l) (w : zq_w s) (g : zq_H P s t) (q : ∀ a k, zq_P1 a k → ¬ P a k) : zq_I1 t l := by
  have e : ∀ a k, zq_P1 a k → zh_I t a k = zh_I s a k ∧ zh_J t a k = zh_J s a k := fun a k p => g.c w (by omega) (q a k p)
  refine ⟨⟨?_, h.1.2.1, h.1.2.2.1, fun j hj => ?_⟩, ⟨?_, h.2.2.1, h.2.2.2.1, fun j hj => ?_⟩⟩
  · rw [(e 1 1 (by omega)).1]; exact h.1.1
  · rw [(e 2 j (by omega)).1]; exact h.1.2.2.2 j hj
  · rw [(e 44 1 (by omega)).1]; exact h.2.1
  · rw [(e 45 j (by omega)).1]; exact h.2.2.2.2 j hj
theorem zq_I2.ke {F A B : Nat → Int64} {c : Nat} (h : zq_I2 s F A B c) (w : zq_w s) (g : zq_H P s t) (q : ∀ a k, zq_P2 a k → ¬ P a k) : zq_I2 t F A B c := by
  have e : ∀ a k, zq_P2 a k → zh_I t a k = zh_I s a k ∧ zh_J t a k = zh_J s a k := fun a k p => g.c w (by omega) (q a k p)
  obtain ⟨⟨h1, h2, h3⟩, ⟨h4, h5, h6⟩, h7⟩ := h
  refine ⟨⟨fun k hk => ?_, fun k hk => ?_, h3⟩, ⟨⟨?_, fun k hk => ⟨?_, ?_⟩⟩, ⟨?_, fun k hk => ⟨?_, ?_⟩⟩, h6⟩, fun k hk => ⟨?_, ?_, ?_⟩⟩
  · rw [(e 4 k (by omega)).2]; exact h1 k hk
  · rw [(e 46 k (by omega)).2]; exact h2 k hk
  · rw [(e 3 3 (by omega)).1]; exact h4.1
  · rw [(e 5 k (by omega)).2]; exact (h4.2 k hk).1
  · rw [(e 6 k (by omega)).2]; exact (h4.2 k hk).2
  · rw [(e 44 3 (by omega)).1]; exact h5.1
  · rw [(e 47 k (by omega)).2]; exact (h5.2 k hk).1
  · rw [(e 48 k (by omega)).2]; exact (h5.2 k hk).2
  · rw [(e 49 k (by omega)).2]; exact (h7 k hk).1
  · rw [(e 50 k (by omega)).2]; exact (h7 k hk).2.1
  · rw [(e 51 k (by omega)).2]; exact (h7 k hk).2.2
theorem zq_sig_eq {o c : Nat} (ho : ∀ k, (k = 0 ∨ k = 3 ∨ k = 4) → zh_I t o k = zh_I s o k ∧ zh_J t o k = zh_J s o k) (hc : ∀ k, (7 ≤ k ∧ k ≤ 9) → zh_J t c k = zh_J s c k) : zq_sig n t o c ↔ zq_sig n s o c := by
  unfold zq_sig
  rw [(ho 0 (by omega)).2, (ho 3 (by omega)).2, (ho 4 (by omega)).1, hc 7 (by omega), hc 8 (by omega), hc 9 (by omega)]
theorem zq_sb.ke {o : Nat} {D E : Nat → Prop} (h : zq_sb n s o D) (h5 : zh_I t o 5 = zh_I s o 5) (e : ∀ d, (E d ∧ zq_sig n t o (10 + d)) ↔ (D d ∧ zq_sig n s o (10 + d))) : zq_sb n t o E := by
  obtain ⟨m, hm, hi, hb⟩ := h
  exact ⟨m, hm, h5.trans hi, fun d => (hb d).trans (e d).symm⟩
theorem zq_ce.ke {c : Nat} (h : zq_ce s c) (e1 : ∀ k, k < 15 → zh_J t 55 (15 * c + k) = zh_J s 55 (15 * c + k)) (e2 : ∀ k, k ≠ 5 → zh_I t (10 + c) k = zh_I s (10 + c) k ∧ zh_J t (10 + c) k = zh_J s (10 + c) k) : zq_ce t c := by
  unfold zq_ce
  rw [show zh_J t 55 (15 * c) = zh_J s 55 (15 * c) from e1 0 (by omega)]
  simp (disch := decide) only [e1, (fun k h => (e2 k h).1), (fun k h => (e2 k h).2)]
  exact h
theorem zq_li.ke {i : Nat} (h : zq_li s i) (e1 : ∀ k, k < 6 → zh_J t 56 (6 * i + k) = zh_J s 56 (6 * i + k)) (e2 : ∀ k, k < 4 → zh_J t 57 (4 * i + k) = zh_J s 57 (4 * i + k) ∧ zh_J t 58 (4 * i + k) = zh_J s 58 (4 * i + k)) (e3 : ∀ a k, k ≠ 5 → 23 + 3 * i ≤ a → a < 26 + 3 * i → zh_I t a k = zh_I s a k ∧ zh_J t a k = zh_J s a k) : zq_li t i := by
  obtain ⟨h1, e, he, h2, h3, h4⟩ := h
  refine ⟨?_, e, he, ?_, ?_, fun k hk => ⟨?_, ?_⟩⟩
  · rw [show zh_J t 56 (6 * i) = zh_J s 56 (6 * i) from e1 0 (by omega), e1 1 (by omega), e1 2 (by omega), e1 4 (by omega), e1 5 (by omega), (e3 (23 + 3 * i) 0 (by decide) (by omega) (by omega)).2, (e3 (23 + 3 * i) 1 (by decide) (by omega) (by omega)).2, (e3 (23 + 3 * i) 2 (by decide) (by omega) (by omega)).2, (e3 (23 + 3 * i) 3 (by decide) (by omega) (by omega)).2, (e3 (23 + 3 * i) 4 (by decide) (by omega) (by omega)).1]
    exact h1
  · rw [(e3 (23 + 3 * i) 8 (by decide) (by omega) (by omega)).1]; exact h2
  · rw [e1 3 (by omega)]; exact h3
  · rw [(e2 k (by omega)).1, (e3 (24 + 3 * i) k (by omega) (by omega) (by omega)).2]; exact (h4 k hk).1
  · rw [(e2 k (by omega)).2, (e3 (25 + 3 * i) k (by omega) (by omega) (by omega)).2]; exact (h4 k hk).2
theorem zq_St.ke {nc nl : Nat} (h : zq_St n s nc nl) (w : zq_w s) (g : zq_H P s t) (q : ∀ a k, zq_P3 nc nl a k → ¬ P a k) : zq_St n t nc nl := by
  obtain ⟨hb, ⟨a1, a2, a3, a4⟩, hc, hl, hs, hr⟩ := h
  have e : ∀ a k, zq_P3 nc nl a k → zh_I t a k = zh_I s a k ∧ zh_J t a k = zh_J s a k := fun a k p => g.c w (by omega) (q a k p)
  refine ⟨hb, ⟨?_, ?_, ?_, ?_⟩, fun c h => ?_, fun i h => ?_, fun c h => ?_, fun i h => ?_⟩
  · rw [(e 7 2 (by omega)).1]; exact a1
  · rw [(e 44 15 (by omega)).1]; exact a2
  · rw [(e 7 3 (by omega)).1]; exact a3
  · rw [(e 44 17 (by omega)).1]; exact a4
  · exact (hc c h).ke (fun k hk => (e 55 (15 * c + k) (by omega)).2) (fun k _ => e (10 + c) k (by omega))
  · exact (hl i h).ke (fun k hk => (e 56 (6 * i + k) (by omega)).2) (fun k hk => ⟨(e 57 (4 * i + k) (by omega)).2, (e 58 (4 * i + k) (by omega)).2⟩) (fun a k _ h1 h2 => e a k (by omega))
  · refine (hs c h).ke (e (10 + c) 5 (by omega)).1 (fun d => ?_)
    by_cases hd : d < nc ∧ c < nc ∧ d ≠ c
    · rw [zq_sig_eq (s := s) (fun k _ => e (10 + c) k (by omega)) (fun k _ => (e (10 + d) k (by omega)).2)]
    · exact ⟨fun x => absurd x.1 hd, fun x => absurd x.1 hd⟩
  · refine (hr i h).ke (e (23 + 3 * i) 5 (by omega)).1 (fun d => ?_)
    by_cases hd : d < nc ∧ i < nl
    · rw [zq_sig_eq (s := s) (fun k _ => e (23 + 3 * i) k (by omega)) (fun k _ => (e (10 + d) k (by omega)).2)]
    · exact ⟨fun x => absurd x.1 hd, fun x => absurd x.1 hd⟩
theorem zq_La.ke (h : zq_La s) (w : zq_w s) (g : zq_H P s t) (r : zh_R t 0 3 = zh_R s 0 3) (q : ∀ a k, zq_P4 (zh_N s) a k → ¬ P a k) : zq_La t := by
  have e : ∀ a k, zq_P4 (zh_N s) a k → zh_I t a k = zh_I s a k := fun a k p => (((g.2 a (by have := w.n; omega)).2 k).2 (q a k p)).1
  rcases h with ⟨h1, h2, h3⟩ | ⟨x, p, f, h1, ⟨h2, h3⟩, h4, ⟨h5, h6, h7⟩, h8, h9, ha, hb, hc⟩
  · exact Or.inl ⟨r.trans h1, by rw [e 44 24 (by omega)]; exact h2, by rw [e 44 25 (by omega)]; exact h3⟩
  · have hx := h3.2
    refine Or.inr ⟨x, p, f, r.trans h1, ⟨h2, ⟨by rw [(g.2 x hx).1]; exact h3.1, Nat.lt_of_lt_of_le hx g.1⟩⟩, ?_, ⟨h5, Nat.lt_of_lt_of_le h6 g.1, by rw [(g.2 p h6).1]; exact h7⟩, h8, ?_, ?_, ?_, fun k hk => ?_⟩
    · rw [((g.2 x hx).2 4).1 (by omega)]; exact h4
    · rw [e x 5 (by omega)]; exact h9
    · rw [e 44 24 (by omega)]; exact ha
    · rw [e x 7 (by omega), e 44 25 (by omega)]; exact hb
    · rw [e 61 k (by omega), e p _ (by omega)]; exact hc k hk
end KE
