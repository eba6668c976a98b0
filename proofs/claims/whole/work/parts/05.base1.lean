/-! The pure state: what the run has made lies behind h0, one behind the other; a reference is a number from 0. -/
abbrev zh_S : Type := (Nat → Nat → Int32) × (Nat → Nat → Int64) × (Nat → Nat → Option Nat) × (Nat → Nat × Nat) × Nat × Nat
def zh_I (s : zh_S) : Nat → Nat → Int32 := s.1
def zh_J (s : zh_S) : Nat → Nat → Int64 := s.2.1
def zh_R (s : zh_S) : Nat → Nat → Option Nat := s.2.2.1
def zh_K (s : zh_S) : Nat → Nat × Nat := s.2.2.2.1
def zh_N (s : zh_S) : Nat := s.2.2.2.2.1
def zh_M (s : zh_S) : Nat := s.2.2.2.2.2
def zh_uI (s : zh_S) (a k : Nat) (v : Int32) : zh_S := (va_up s.1 a (va_up (s.1 a) k v), s.2)
def zh_uJ (s : zh_S) (a k : Nat) (v : Int64) : zh_S := (s.1, va_up s.2.1 a (va_up (s.2.1 a) k v), s.2.2)
def zh_uR (s : zh_S) (a k : Nat) (v : Option Nat) : zh_S := (s.1, s.2.1, va_up s.2.2.1 a (va_up (s.2.2.1 a) k v), s.2.2.2)
def zh_new (s : zh_S) (kd : Nat × Nat) (sl : Nat) : zh_S :=
  (va_up s.1 (zh_N s) (fun _ => 0), va_up s.2.1 (zh_N s) (fun _ => 0), va_up s.2.2.1 (zh_N s) (fun _ => none), va_up s.2.2.2.1 (zh_N s) kd, zh_N s + 1, zh_M s + sl)
def zh_cpy (s : zh_S) (a : Nat) (sp : Int32) (b : Nat) (dp ln : Int32) : zh_S :=
  (va_up s.1 b (va_cpy (s.1 a) (s.1 b) sp.toNatClampNeg dp.toNatClampNeg ln.toNatClampNeg), s.2)
abbrev zh_oo (s : zh_S) (a ci : Nat) : Prop := zh_K s a = (2, ci) ∧ a < zh_N s
abbrev zh_ol (s : zh_S) (a t : Nat) : Prop := (zh_K s a).1 = t ∧ a < zh_N s
abbrev zh_oa (s : zh_S) (a t : Nat) (i : Int32) : Prop := (zh_K s a).1 = t ∧ a < zh_N s ∧ ¬ i < 0 ∧ i.toNatClampNeg < (zh_K s a).2
abbrev zh_oc (s : zh_S) (a : Nat) (sp : Int32) (b : Nat) (dp ln : Int32) : Prop :=
  (zh_K s a).1 = 0 ∧ a < zh_N s ∧ (zh_K s b).1 = 0 ∧ b < zh_N s ∧ ¬ sp < 0 ∧ ¬ dp < 0 ∧ ¬ ln < 0 ∧ sp.toNatClampNeg + ln.toNatClampNeg ≤ (zh_K s a).2 ∧ dp.toNatClampNeg + ln.toNatClampNeg ≤ (zh_K s b).2
def zk_l {α β : Type} (e : α) (f : α → Option β) : Option β := f e
def zk_p {α β : Type} (o : Option α) (f : α → Option β) : Option β := match o with
  | none => none
  | some a => f a
def zk_b {α β γ : Type} (o : Option (α × γ)) (f : α → γ → Option β) : Option β := match o with
  | none => none
  | some q => f q.1 q.2
def zk_o {β : Type} (o : Option Nat) (a : Option β) (f : Nat → Option β) : Option β := match o with
  | none => a
  | some x => f x
def zu_i (x y : Int32) : Int32 := (x.toUInt32 >>> (y.toUInt32 &&& Int32.toUInt32 31)).toInt32
def zu_l (x : Int64) (y : Int32) : Int64 := (x.toUInt64 >>> (y.toInt64.toUInt64 &&& Int64.toUInt64 63)).toInt64
def zt_MODULI (i : Nat) : Int64 := [1200000049400000287, 1430000491000037023, 1536351190290809371, 1728395075795061493, 1697785988597898509, 1597490175708938519].getD i 0
def zt_EXPONENTS (i : Nat) : Int64 := [3, 17, 257, 65537, 5, 11].getD i 0
def zt_PRIVATE_EXPONENTS (i : Nat) : Int64 := [800000031466666827, 84117675800002153, 579867958021467505, 1604812069470515813, 339557197186246361, 1161811034953791779].getD i 0
theorem zx_ck {c : Prop} [Decidable c] {β : Type} {A : Option β} {b : β} (h : (if c then A else none) = some b) : c ∧ A = some b := by
  by_cases hc : c
  · rw [if_pos hc] at h; exact ⟨hc, h⟩
  · rw [if_neg hc] at h; cases h
theorem zx_l {α β : Type} {e : α} {f : α → Option β} {b : β} (h : zk_l e f = some b) : ∃ x, x = e ∧ f x = some b := ⟨e, rfl, h⟩
theorem zx_p {α β : Type} {o : Option α} {f : α → Option β} {b : β} (h : zk_p o f = some b) : ∃ x, o = some x ∧ f x = some b := by
  cases o with
  | none => cases h
  | some x => exact ⟨x, rfl, h⟩
theorem zx_b {α β γ : Type} {o : Option (α × γ)} {f : α → γ → Option β} {b : β} (h : zk_b o f = some b) : ∃ x y, o = some (x, y) ∧ f x y = some b := by
  cases o with
  | none => cases h
  | some q => exact ⟨q.1, q.2, rfl, h⟩
theorem zx_o {β : Type} {o : Option Nat} {a : Option β} {f : Nat → Option β} {b : β} (h : zk_o o a f = some b) : (o = none ∧ a = some b) ∨ ∃ x, o = some x ∧ f x = some b := by
  cases o with
  | none => exact Or.inl ⟨rfl, h⟩
  | some x => exact Or.inr ⟨x, rfl, h⟩
theorem zx_r1 {α : Type} {a b : α} (h : some a = some b) : b = a := (Option.some.inj h).symm
theorem zx_r2 {α β : Type} {a c : α} {b d : β} (h : some (a, b) = some (c, d)) : c = a ∧ d = b := by
  have h := Option.some.inj h
  exact ⟨(congrArg Prod.fst h).symm, (congrArg Prod.snd h).symm⟩
theorem zx_oI {x y : zh_S} {a ci b k : Nat} {v : Int32} (e : y = zh_uI x b k v) (h : zh_oo x a ci) : zh_oo y a ci := by subst e; exact h
theorem zx_oJ {x y : zh_S} {a ci b k : Nat} {v : Int64} (e : y = zh_uJ x b k v) (h : zh_oo x a ci) : zh_oo y a ci := by subst e; exact h
theorem zx_oR {x y : zh_S} {a ci b k : Nat} {v : Option Nat} (e : y = zh_uR x b k v) (h : zh_oo x a ci) : zh_oo y a ci := by subst e; exact h
theorem zx_oC {x y : zh_S} {a ci b c : Nat} {sp dp ln : Int32} (e : y = zh_cpy x b sp c dp ln) (h : zh_oo x a ci) : zh_oo y a ci := by subst e; exact h
theorem zx_on {x y : zh_S} {b ci sl : Nat} (e : y = zh_new x (2, ci) sl) (eb : b = zh_N x) : zh_oo y b ci := by
  subst e; subst eb
  exact ⟨by show va_up x.2.2.2.1 (zh_N x) _ (zh_N x) = _; rw [va_up_self], Nat.lt_succ_self _⟩
theorem zx_muI {x y : zh_S} {b k : Nat} {v : Int32} (e : y = zh_uI x b k v) : zh_N x ≤ zh_N y ∧ zh_M x ≤ zh_M y := by subst e; exact ⟨Nat.le_refl _, Nat.le_refl _⟩
theorem zx_muJ {x y : zh_S} {b k : Nat} {v : Int64} (e : y = zh_uJ x b k v) : zh_N x ≤ zh_N y ∧ zh_M x ≤ zh_M y := by subst e; exact ⟨Nat.le_refl _, Nat.le_refl _⟩
theorem zx_muR {x y : zh_S} {b k : Nat} {v : Option Nat} (e : y = zh_uR x b k v) : zh_N x ≤ zh_N y ∧ zh_M x ≤ zh_M y := by subst e; exact ⟨Nat.le_refl _, Nat.le_refl _⟩
theorem zx_mcpy {x y : zh_S} {b c : Nat} {sp dp ln : Int32} (e : y = zh_cpy x b sp c dp ln) : zh_N x ≤ zh_N y ∧ zh_M x ≤ zh_M y := by subst e; exact ⟨Nat.le_refl _, Nat.le_refl _⟩
theorem zx_mnew {x y : zh_S} {kd : Nat × Nat} {sl : Nat} (e : y = zh_new x kd sl) : zh_N x ≤ zh_N y ∧ zh_M x ≤ zh_M y := by
  subst e; exact ⟨Nat.le_succ _, Nat.le_add_right _ _⟩
theorem zx_nz {v : Int32} (h : v = 0 ∨ v = 1) : narrow .boolean (.int v) = .int v := by rcases h with rfl | rfl <;> rfl
theorem zx_fz {v : Int32} (h : v = 0 ∨ v = 1) : fits .boolean (.int v) = true := by rcases h with rfl | rfl <;> rfl
theorem zx_tab {x : Int32} (hi : Nat) (h : ∀ j : Nat, j ≤ hi → ¬ x = Int32.ofNat j) (hh : hi < 2 ^ 31 := by decide) : x.toInt < 0 ∨ (hi : Int) < x.toInt := by
  by_cases h0 : x < 0
  · exact Or.inl (by simpa using Int32.lt_iff_toInt_lt.mp h0)
  · obtain ⟨j, hj, rfl⟩ := nI_of h0
    right
    rw [nI_toInt hj]
    by_cases hj2 : j ≤ hi
    · exact absurd rfl (h j hj2)
    · omega
theorem zx_hv {h0 : Nat} {o : Option Nat} {b : Nat} (h : o = some b) : va_rf (o.map (h0 + ·)) = .ref (h0 + b) := by rw [h]; rfl
theorem zx_hn {h0 : Nat} {o : Option Nat} (h : o = none) : va_rf (o.map (h0 + ·)) = .null := by rw [h]; rfl
