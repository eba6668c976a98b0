/-! Longs as natural numbers; products and powers. -/
theorem zn_tn {n : Nat} (h : n < 2 ^ 64) : (lN n).toBitVec.toNat = n := by
  show (BitVec.ofNat 64 n).toNat = n
  rw [BitVec.toNat_ofNat]
  exact Nat.mod_eq_of_lt h
theorem zn_lit (n : Nat) : (OfNat.ofNat n : Int64) = lN n := rfl
theorem zn_sar (x s : Int64) (k : Nat) (hs : (s.toBitVec.smod 64).toNat = k) : (x >>> s).toInt = x.toInt >>> k := by
  show (x.toBitVec.sshiftRight (s.toBitVec.smod 64).toNat).toInt = _
  rw [hs, BitVec.toInt_sshiftRight]
  rfl
theorem zn_sarN {a : Nat} (h : a < 2 ^ 63) (s : Int64) (k : Nat) (hs : (s.toBitVec.smod 64).toNat = k) : lN a >>> s = lN (a / 2 ^ k) := by
  apply Int64.toInt_inj.mp
  have h2 : a / 2 ^ k ≤ a := Nat.div_le_self _ _
  rw [zn_sar _ _ k hs, pk_lT h, pk_lT (by omega), Int.shiftRight_eq_div_pow]
  rfl
theorem zn_and (x : Int64) {m : Int64} (k : Nat) (hm : m.toBitVec.toNat = 2 ^ k - 1) : x &&& m = lN (x.toBitVec.toNat % 2 ^ k) := by
  apply Int64.toBitVec_inj.mp
  apply BitVec.eq_of_toNat_eq
  rw [Int64.toBitVec_and, BitVec.toNat_and, hm, Nat.and_two_pow_sub_one_eq_mod]
  show _ = (BitVec.ofNat 64 _).toNat
  rw [BitVec.toNat_ofNat]
  exact (Nat.mod_eq_of_lt (Nat.lt_of_le_of_lt (Nat.mod_le _ _) x.toBitVec.isLt)).symm
theorem zn_andN {a : Nat} (h : a < 2 ^ 64) {m : Int64} (k : Nat) (hm : m.toBitVec.toNat = 2 ^ k - 1) : lN a &&& m = lN (a % 2 ^ k) := by
  rw [zn_and _ k hm, zn_tn h]
theorem zn_shlN (a : Nat) (s : Int64) (k : Nat) (hs : (s.toBitVec.smod 64).toNat = k) : lN a <<< s = lN (a * 2 ^ k) := by
  apply Int64.toBitVec_inj.mp
  apply BitVec.eq_of_toNat_eq
  show ((BitVec.ofNat 64 a) <<< (s.toBitVec.smod 64).toNat).toNat = (BitVec.ofNat 64 (a * 2 ^ k)).toNat
  rw [hs, BitVec.toNat_shiftLeft, Nat.shiftLeft_eq, BitVec.toNat_ofNat, BitVec.toNat_ofNat, Nat.mod_mul_mod]
theorem zn_ne0 {a : Nat} (h0 : 0 < a) (h : a < 2 ^ 63) : ¬ lN a = 0 := by
  rw [show (0 : Int64) = lN 0 from rfl, pk_lEQ h (by omega)]
  omega
theorem zn_lift (n : Nat) {r m : Nat} (hr : r < m) (h1 : 2 ^ 31 ≤ m) (h2 : m < 2 ^ 62) : zf_Numbers_lift n (lN r) (lN m) = some (lN (r * 2 ^ 31 % m)) := by
  have e31 : ((31 : Int32).toInt64 &&& 63 : Int64) = 31 := by decide +kernel
  have eD : lN m >>> ((31 : Int32).toInt64 &&& 63) + (1 : Int64) = lN (m / 2 ^ 31 + 1) := by
    rw [e31, zn_sarN (by omega) 31 31 (by decide +kernel)]
    exact lN_add _ 1
  have eS : lN r <<< ((31 : Int32).toInt64 &&& 63) = lN (r * 2 ^ 31) := by
    rw [e31]; exact zn_shlN r 31 31 (by decide +kernel)
  generalize hD : m / 2 ^ 31 + 1 = D at eD
  have hD0 : 0 < D := by omega
  have hDm : m < D * 2 ^ 31 := by omega
  have hDm2 : D * 2 ^ 31 ≤ m + 2 ^ 31 := by omega
  have hDs : D < 2 ^ 63 := by omega
  generalize hq : r / D = q
  have hqr : q * D ≤ r := by rw [← hq]; exact Nat.div_mul_le_self r D
  have hqt : r < q * D + D := by have := Nat.lt_div_mul_add hD0 (a := r); rw [hq] at this; exact this
  have hq31 : q < 2 ^ 31 := by
    rw [← hq]
    exact (Nat.div_lt_iff_lt_mul hD0).mpr (by rw [Nat.mul_comm]; omega)
  have hle : q * m ≤ r * 2 ^ 31 := by
    have h3 : q * m ≤ q * (D * 2 ^ 31) := Nat.mul_le_mul_left q (Nat.le_of_lt hDm)
    have h4 : q * D * 2 ^ 31 ≤ r * 2 ^ 31 := Nat.mul_le_mul_right _ hqr
    rw [← Nat.mul_assoc] at h3
    exact Nat.le_trans h3 h4
  have hlt : r * 2 ^ 31 - q * m < 2 ^ 63 := by
    have h3 : q * (D * 2 ^ 31) ≤ q * (m + 2 ^ 31) := Nat.mul_le_mul_left q hDm2
    rw [Nat.mul_add, ← Nat.mul_assoc] at h3
    omega
  unfold zf_Numbers_lift
  simp only [zk_l]
  rw [eD, eS, if_pos (zn_ne0 hD0 hDs), if_pos (zn_ne0 (by omega) (by omega)), pk_lDiv (by omega) hD0 hDs, hq, lN_mul, lN_sub hle, pk_lRem hlt (by omega) (by omega)]
  congr 2
  have h5 : r * 2 ^ 31 = (r * 2 ^ 31 - q * m) + q * m := by omega
  conv => rhs; rw [h5]
  rw [Nat.add_mul_mod_self_right]
theorem zn_split (a b m : Nat) : ((((a / 2 ^ 31) * (b / 2 ^ 31) % m * 2 ^ 31 % m + ((a / 2 ^ 31) * (b % 2 ^ 31) + (a % 2 ^ 31) * (b / 2 ^ 31)) % m) % m * 2 ^ 31) % m + (a % 2 ^ 31) * (b % 2 ^ 31) % m) % m = a * b % m := by
  have ha : a = (a / 2 ^ 31) * 2 ^ 31 + a % 2 ^ 31 := (Nat.div_add_mod' a (2 ^ 31)).symm
  have hb : b = (b / 2 ^ 31) * 2 ^ 31 + b % 2 ^ 31 := (Nat.div_add_mod' b (2 ^ 31)).symm
  generalize a / 2 ^ 31 = p at ha ⊢
  generalize a % 2 ^ 31 = q at ha ⊢
  generalize b / 2 ^ 31 = r at hb ⊢
  generalize b % 2 ^ 31 = t at hb ⊢
  subst ha hb
  simp only [Nat.mod_mul_mod, Nat.mod_add_mod, Nat.add_mod_mod]
  congr 1
  grind
theorem zn_times (n : Nat) {a b m : Nat} (ha : a < m) (hb : b < m) (h1 : 2 ^ 31 ≤ m) (h2 : m < 2 ^ 62) : zf_Numbers_times n (lN a) (lN b) (lN m) = some (lN (a * b % m)) := by
  have e31 : ((31 : Int32).toInt64 &&& 63 : Int64) = 31 := by decide +kernel
  have hm0 : 0 < m := by omega
  have hm63 : m < 2 ^ 63 := by omega
  have ne := zn_ne0 hm0 hm63
  have a1 : a / 2 ^ 31 < 2 ^ 31 := by omega
  have a2 : a % 2 ^ 31 < 2 ^ 31 := Nat.mod_lt _ (by decide)
  have b1 : b / 2 ^ 31 < 2 ^ 31 := by omega
  have b2 : b % 2 ^ 31 < 2 ^ 31 := Nat.mod_lt _ (by decide)
  have k2 : (2147483647 : Int64).toBitVec.toNat = 2 ^ 31 - 1 := by decide +kernel
  rw [← zn_split a b m]
  unfold zf_Numbers_times
  simp only [zk_l]
  rw [e31, zn_sarN (show a < 2 ^ 63 by omega) 31 31 (by decide +kernel), zn_sarN (show b < 2 ^ 63 by omega) 31 31 (by decide +kernel), zn_andN (show a < 2 ^ 64 by omega) 31 k2, zn_andN (show b < 2 ^ 64 by omega) 31 k2]
  generalize a / 2 ^ 31 = p at *
  generalize a % 2 ^ 31 = q at *
  generalize b / 2 ^ 31 = r at *
  generalize b % 2 ^ 31 = t at *
  have m1 : p * r < 2 ^ 62 := by have := Nat.mul_lt_mul'' a1 b1; omega
  have m2 : p * t < 2 ^ 62 := by have := Nat.mul_lt_mul'' a1 b2; omega
  have m3 : q * r < 2 ^ 62 := by have := Nat.mul_lt_mul'' a2 b1; omega
  have m4 : q * t < 2 ^ 62 := by have := Nat.mul_lt_mul'' a2 b2; omega
  have l1 : ∀ y : Nat, y % m < m := fun y => Nat.mod_lt _ hm0
  rw [if_pos ne, lN_mul, pk_lRem (by omega) hm0 hm63, zn_lift n (l1 _) h1 h2]
  simp only [zk_p]
  rw [if_pos ne, lN_mul, lN_mul, lN_add, pk_lRem (by omega) hm0 hm63, if_pos ne, lN_add, pk_lRem (by have := l1 (p * r % m * 2 ^ 31); have := l1 (p * t + q * r); omega) hm0 hm63, zn_lift n (l1 _) h1 h2]
  simp only [zk_p]
  rw [if_pos ne, if_pos ne, lN_mul, pk_lRem (by omega) hm0 hm63, lN_add, pk_lRem (by have := l1 ((p * r % m * 2 ^ 31 % m + (p * t + q * r) % m) % m * 2 ^ 31); have := l1 (q * t); omega) hm0 hm63]
theorem zn_odd {x : Nat} (h : x < 2 ^ 63) : (lg_cmp (lN x &&& (1 : Int64)) (1 : Int64) = 0) ↔ x % 2 = 1 := by
  rw [lg_cmp_eq, zn_andN (show x < 2 ^ 64 by omega) 1 (by decide +kernel), show (1 : Int64) = lN 1 from rfl, pk_lEQ (by omega) (by omega)]
theorem zn_half {x : Nat} (h : x < 2 ^ 63) : lN x >>> ((1 : Int32).toInt64 &&& 63) = lN (x / 2) := by
  rw [show ((1 : Int32).toInt64 &&& 63 : Int64) = 1 by decide +kernel]
  exact zn_sarN h 1 1 (by decide +kernel)
theorem zn_pos {x : Nat} (h : x < 2 ^ 63) : (lg_cmp (lN x) (0 : Int64) ≤ 0) ↔ x = 0 := by
  rw [lg_cmp_le, show (0 : Int64) = lN 0 from rfl, pk_lLE h (by omega)]
  omega
theorem zn_sq (x e m : Nat) : (x * x % m) ^ (e / 2) % m = x ^ (2 * (e / 2)) % m := by
  rw [← Nat.pow_mod, Nat.pow_mul]
  congr 2
  exact (Nat.pow_two x).symm
theorem zn_pow_step (p x e m : Nat) (ho : e % 2 = 1) : (p * x % m) * (x * x % m) ^ (e / 2) % m = p * x ^ e % m := by
  rw [Nat.mod_mul_mod, Nat.mul_mod, zn_sq, ← Nat.mul_mod]
  have : x ^ e = x * x ^ (2 * (e / 2)) := by
    conv => lhs; rw [show e = 2 * (e / 2) + 1 by omega]
    rw [Nat.pow_succ, Nat.mul_comm]
  rw [this, Nat.mul_assoc]
theorem zn_pow_even (p x e m : Nat) (ho : ¬ e % 2 = 1) : p * (x * x % m) ^ (e / 2) % m = p * x ^ e % m := by
  rw [Nat.mul_mod, zn_sq, ← Nat.mul_mod]
  have : x ^ e = x ^ (2 * (e / 2)) := by
    conv => lhs; rw [show e = 2 * (e / 2) by omega]
  rw [this]
theorem zn_power_l (n : Nat) {m : Nat} (h1 : 2 ^ 31 ≤ m) (h2 : m < 2 ^ 62) : ∀ (k f p x e : Nat), p < m → x < m → e < 2 ^ k → k < f → k ≤ 63 → zl_Numbers_power_9 n f (lN m) (lN p) (lN x) (lN e) = some (lN (p * x ^ e % m)) := by
  intro k
  induction k with
  | zero =>
    intro f p x e hp hx he hf _
    obtain ⟨f, rfl⟩ : ∃ g, f = g + 1 := ⟨f - 1, by omega⟩
    have e0 : e = 0 := by omega
    subst e0
    rw [zl_Numbers_power_9, if_pos ((zn_pos (by omega)).mpr rfl), Nat.pow_zero, Nat.mul_one, Nat.mod_eq_of_lt hp]
  | succ k ih =>
    intro f p x e hp hx he hf hk
    obtain ⟨f, rfl⟩ : ∃ g, f = g + 1 := ⟨f - 1, by omega⟩
    have he63 : e < 2 ^ 63 := Nat.lt_of_lt_of_le he (Nat.pow_le_pow_right (by decide) hk)
    have hm0 : 0 < m := by omega
    have he2 : e / 2 < 2 ^ k := by rw [Nat.pow_succ] at he; omega
    rw [zl_Numbers_power_9]
    by_cases e0 : e = 0
    · subst e0
      rw [if_pos ((zn_pos (by omega)).mpr rfl), Nat.pow_zero, Nat.mul_one, Nat.mod_eq_of_lt hp]
    · rw [if_neg (fun h => e0 ((zn_pos he63).mp h))]
      by_cases ho : e % 2 = 1
      · rw [if_pos ((zn_odd he63).mpr ho), zn_times n hp hx h1 h2]
        simp only [zk_p]
        rw [zb_Numbers_power_36, zn_times n hx hx h1 h2]
        simp only [zk_p, zk_l]
        rw [zn_half he63, ih f _ _ _ (Nat.mod_lt _ hm0) (Nat.mod_lt _ hm0) he2 (by omega) (by omega), zn_pow_step _ _ _ _ ho]
      · rw [if_neg (fun h => ho ((zn_odd he63).mp h)), zb_Numbers_power_36, zn_times n hx hx h1 h2]
        simp only [zk_p, zk_l]
        rw [zn_half he63, ih f _ _ _ hp (Nat.mod_lt _ hm0) he2 (by omega) (by omega), zn_pow_even _ _ _ _ ho]
theorem zn_power {n : Nat} (hn : 64 ≤ n) {m : Nat} (h1 : 2 ^ 31 ≤ m) (h2 : m < 2 ^ 62) {x e : Nat} (hx : x < m) (he : e < 2 ^ 63) : zf_Numbers_power n (lN x) (lN e) (lN m) = some (lN (x ^ e % m)) := by
  rw [zf_Numbers_power, show (1 : Int64) = lN 1 from rfl, zn_power_l n h1 h2 63 n 1 x e (by omega) hx he (by omega) (by omega), Nat.one_mul]
theorem zn_mtimes_l (n : Nat) {m : Nat} (h1 : 0 < m) (h2 : m < 2 ^ 62) : ∀ (k f p x e : Nat), p < m → x < m → e < 2 ^ k → k < f → k ≤ 63 → zl_M_times_12 n f (lN m) (lN p) (lN x) (lN e) = some (lN ((p + x * e) % m)) := by
  intro k
  induction k with
  | zero =>
    intro f p x e hp hx he hf _
    obtain ⟨f, rfl⟩ : ∃ g, f = g + 1 := ⟨f - 1, by omega⟩
    have e0 : e = 0 := by omega
    subst e0
    rw [zl_M_times_12, if_pos ((zn_pos (by omega)).mpr rfl), Nat.mul_zero, Nat.add_zero, Nat.mod_eq_of_lt hp]
  | succ k ih =>
    intro f p x e hp hx he hf hk
    obtain ⟨f, rfl⟩ : ∃ g, f = g + 1 := ⟨f - 1, by omega⟩
    have he63 : e < 2 ^ 63 := Nat.lt_of_lt_of_le he (Nat.pow_le_pow_right (by decide) hk)
    have ne := zn_ne0 h1 (show m < 2 ^ 63 by omega)
    have he2 : e / 2 < 2 ^ k := by rw [Nat.pow_succ] at he; omega
    have l1 : ∀ y : Nat, y % m < m := fun y => Nat.mod_lt _ h1
    rw [zl_M_times_12]
    by_cases e0 : e = 0
    · subst e0
      rw [if_pos ((zn_pos (by omega)).mpr rfl), Nat.mul_zero, Nat.add_zero, Nat.mod_eq_of_lt hp]
    · rw [if_neg (fun h => e0 ((zn_pos he63).mp h))]
      by_cases ho : e % 2 = 1
      · rw [if_pos ((zn_odd he63).mpr ho), if_pos ne]
        simp only [zk_l]
        rw [zb_M_times_38, if_pos ne]
        simp only [zk_l]
        rw [zn_half he63, lN_add, lN_add, pk_lRem (by omega) h1 (by omega), pk_lRem (by omega) h1 (by omega), ih f _ _ _ (l1 _) (l1 _) he2 (by omega) (by omega)]
        congr 2
        rw [Nat.mod_add_mod, Nat.add_mod, Nat.mod_mul_mod, ← Nat.add_mod]
        congr 1
        have : x * e = x + (x + x) * (e / 2) := by
          conv => lhs; rw [show e = 1 + 2 * (e / 2) by omega]
          grind
        omega
      · rw [if_neg (fun h => ho ((zn_odd he63).mp h)), zb_M_times_38, if_pos ne]
        simp only [zk_l]
        rw [zn_half he63, lN_add, pk_lRem (by omega) h1 (by omega), ih f _ _ _ hp (l1 _) he2 (by omega) (by omega)]
        congr 2
        rw [Nat.add_mod, Nat.mod_mul_mod, ← Nat.add_mod]
        congr 1
        have : x * e = (x + x) * (e / 2) := by
          conv => lhs; rw [show e = 2 * (e / 2) by omega]
          grind
        omega
theorem zn_mtimes {n : Nat} (hn : 64 ≤ n) {m : Nat} (h1 : 0 < m) (h2 : m < 2 ^ 62) {x e : Nat} (hx : x < m) (he : e < 2 ^ 63) : zf_M_times n (lN x) (lN e) (lN m) = some (lN (x * e % m)) := by
  rw [zf_M_times, if_pos (zn_ne0 h1 (by omega))]
  simp only [zk_l]
  rw [pk_lRem (by omega) h1 (by omega), Nat.mod_eq_of_lt hx, show (0 : Int64) = lN 0 from rfl, zn_mtimes_l n h1 h2 63 n 0 x e h1 hx he (by omega) (by omega), Nat.zero_add]
theorem zn_mpower_l {n : Nat} (hn : 64 ≤ n) {m : Nat} (h1 : 0 < m) (h2 : m < 2 ^ 62) : ∀ (k f p x e : Nat), p < m → x < m → e < 2 ^ k → k < f → k ≤ 63 → zl_M_power_15 n f (lN m) (lN p) (lN x) (lN e) = some (lN (p * x ^ e % m)) := by
  intro k
  induction k with
  | zero =>
    intro f p x e hp hx he hf _
    obtain ⟨f, rfl⟩ : ∃ g, f = g + 1 := ⟨f - 1, by omega⟩
    have e0 : e = 0 := by omega
    subst e0
    rw [zl_M_power_15, if_pos ((zn_pos (by omega)).mpr rfl), Nat.pow_zero, Nat.mul_one, Nat.mod_eq_of_lt hp]
  | succ k ih =>
    intro f p x e hp hx he hf hk
    obtain ⟨f, rfl⟩ : ∃ g, f = g + 1 := ⟨f - 1, by omega⟩
    have he63 : e < 2 ^ 63 := Nat.lt_of_lt_of_le he (Nat.pow_le_pow_right (by decide) hk)
    have he2 : e / 2 < 2 ^ k := by rw [Nat.pow_succ] at he; omega
    rw [zl_M_power_15]
    by_cases e0 : e = 0
    · subst e0
      rw [if_pos ((zn_pos (by omega)).mpr rfl), Nat.pow_zero, Nat.mul_one, Nat.mod_eq_of_lt hp]
    · rw [if_neg (fun h => e0 ((zn_pos he63).mp h))]
      by_cases ho : e % 2 = 1
      · rw [if_pos ((zn_odd he63).mpr ho), zn_mtimes hn h1 h2 hp (by omega)]
        simp only [zk_p]
        rw [zb_M_power_42, zn_mtimes hn h1 h2 hx (by omega)]
        simp only [zk_p, zk_l]
        rw [zn_half he63, ih f _ _ _ (Nat.mod_lt _ h1) (Nat.mod_lt _ h1) he2 (by omega) (by omega), zn_pow_step _ _ _ _ ho]
      · rw [if_neg (fun h => ho ((zn_odd he63).mp h)), zb_M_power_42, zn_mtimes hn h1 h2 hx (by omega)]
        simp only [zk_p, zk_l]
        rw [zn_half he63, ih f _ _ _ hp (Nat.mod_lt _ h1) he2 (by omega) (by omega), zn_pow_even _ _ _ _ ho]
theorem zn_mpower {n : Nat} (hn : 64 ≤ n) {m : Nat} (h1 : 1 < m) (h2 : m < 2 ^ 62) {x e : Nat} (hx : x < m) (he : e < 2 ^ 63) : zf_M_power n (lN x) (lN e) (lN m) = some (lN (x ^ e % m)) := by
  have ne := zn_ne0 (show 0 < m by omega) (show m < 2 ^ 63 by omega)
  rw [zf_M_power, if_pos ne]
  simp only [zk_l]
  rw [if_pos ne, show (1 : Int64) = lN 1 from rfl, pk_lRem (by omega) (by omega) (by omega), pk_lRem (by omega) (by omega) (by omega), Nat.mod_eq_of_lt hx, Nat.mod_eq_of_lt h1, zn_mpower_l hn (by omega) h2 63 n 1 x e h1 hx he (by omega) (by omega), Nat.one_mul]
