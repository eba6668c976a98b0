/-! The layout: what lies where (printed by expand.py). -/
def zq_K (a : Nat) : Nat × Nat := if a < 10 then [(2, 7), (2, 1), (0, 200), (2, 6), (1, 13), (1, 4), (1, 4), (2, 5), (3, 13), (4, 7)].getD a (0, 0) else if a < 23 then (2, 0) else if a < 44 then (if (a - 23) % 3 = 0 then (2, 3) else (1, 4)) else [(2, 8), (0, 200), (1, 13), (1, 4), (1, 4), (1, 6), (1, 6), (1, 6), (1, 15), (1, 4), (1, 4), (1, 180), (1, 36), (1, 24), (1, 24), (0, 5), (0, 5), (0, 5)].getD (a - 44) (0, 0)
def zq_R (a k : Nat) : Option Nat :=
  if a = 8 then (if k < 13 then some (10 + k) else none) else if a = 9 then (if k < 7 then some (23 + 3 * k) else none) else if 23 ≤ a ∧ a < 44 ∧ (a - 23) % 3 = 0 then (if k = 6 then some (a + 1) else if k = 7 then some (a + 2) else none)
  else ([((0, 0), 1), ((0, 1), 3), ((0, 2), 7), ((1, 0), 2), ((3, 0), 4), ((3, 1), 5), ((3, 2), 6), ((7, 0), 8), ((7, 1), 9), ((44, 0), 45), ((44, 2), 46), ((44, 4), 47), ((44, 5), 48), ((44, 6), 49), ((44, 7), 50), ((44, 8), 51), ((44, 11), 52), ((44, 13), 53), ((44, 14), 54), ((44, 16), 55), ((44, 18), 56), ((44, 19), 57), ((44, 20), 58), ((44, 21), 59), ((44, 22), 60), ((44, 23), 61)] : List ((Nat × Nat) × Nat)).lookup (a, k)
def zq_w (s : zh_S) : Prop := (∀ a, a < 62 → a < zh_N s) ∧ (∀ a, a < 62 → zh_K s a = zq_K a) ∧ ∀ a k, (zq_R a k).isSome = true → zh_R s a k = zq_R a k
theorem zw_N0 {s : zh_S} (w : zq_w s) : 0 < zh_N s := w.1 0 (by decide)
theorem zw_K0 {s : zh_S} (w : zq_w s) : zh_K s 0 = (2, 7) := w.2.1 0 (by decide)
theorem zw_N1 {s : zh_S} (w : zq_w s) : 1 < zh_N s := w.1 1 (by decide)
theorem zw_K1 {s : zh_S} (w : zq_w s) : zh_K s 1 = (2, 1) := w.2.1 1 (by decide)
theorem zw_N2 {s : zh_S} (w : zq_w s) : 2 < zh_N s := w.1 2 (by decide)
theorem zw_K2 {s : zh_S} (w : zq_w s) : zh_K s 2 = (0, 200) := w.2.1 2 (by decide)
theorem zw_N3 {s : zh_S} (w : zq_w s) : 3 < zh_N s := w.1 3 (by decide)
theorem zw_K3 {s : zh_S} (w : zq_w s) : zh_K s 3 = (2, 6) := w.2.1 3 (by decide)
theorem zw_N4 {s : zh_S} (w : zq_w s) : 4 < zh_N s := w.1 4 (by decide)
theorem zw_K4 {s : zh_S} (w : zq_w s) : zh_K s 4 = (1, 13) := w.2.1 4 (by decide)
theorem zw_N5 {s : zh_S} (w : zq_w s) : 5 < zh_N s := w.1 5 (by decide)
theorem zw_K5 {s : zh_S} (w : zq_w s) : zh_K s 5 = (1, 4) := w.2.1 5 (by decide)
theorem zw_N6 {s : zh_S} (w : zq_w s) : 6 < zh_N s := w.1 6 (by decide)
theorem zw_K6 {s : zh_S} (w : zq_w s) : zh_K s 6 = (1, 4) := w.2.1 6 (by decide)
theorem zw_N7 {s : zh_S} (w : zq_w s) : 7 < zh_N s := w.1 7 (by decide)
theorem zw_K7 {s : zh_S} (w : zq_w s) : zh_K s 7 = (2, 5) := w.2.1 7 (by decide)
theorem zw_N8 {s : zh_S} (w : zq_w s) : 8 < zh_N s := w.1 8 (by decide)
theorem zw_K8 {s : zh_S} (w : zq_w s) : zh_K s 8 = (3, 13) := w.2.1 8 (by decide)
theorem zw_N9 {s : zh_S} (w : zq_w s) : 9 < zh_N s := w.1 9 (by decide)
theorem zw_K9 {s : zh_S} (w : zq_w s) : zh_K s 9 = (4, 7) := w.2.1 9 (by decide)
theorem zw_N44 {s : zh_S} (w : zq_w s) : 44 < zh_N s := w.1 44 (by decide)
theorem zw_K44 {s : zh_S} (w : zq_w s) : zh_K s 44 = (2, 8) := w.2.1 44 (by decide)
theorem zw_N45 {s : zh_S} (w : zq_w s) : 45 < zh_N s := w.1 45 (by decide)
theorem zw_K45 {s : zh_S} (w : zq_w s) : zh_K s 45 = (0, 200) := w.2.1 45 (by decide)
theorem zw_N46 {s : zh_S} (w : zq_w s) : 46 < zh_N s := w.1 46 (by decide)
theorem zw_K46 {s : zh_S} (w : zq_w s) : zh_K s 46 = (1, 13) := w.2.1 46 (by decide)
theorem zw_N47 {s : zh_S} (w : zq_w s) : 47 < zh_N s := w.1 47 (by decide)
theorem zw_K47 {s : zh_S} (w : zq_w s) : zh_K s 47 = (1, 4) := w.2.1 47 (by decide)
theorem zw_N48 {s : zh_S} (w : zq_w s) : 48 < zh_N s := w.1 48 (by decide)
theorem zw_K48 {s : zh_S} (w : zq_w s) : zh_K s 48 = (1, 4) := w.2.1 48 (by decide)
theorem zw_N49 {s : zh_S} (w : zq_w s) : 49 < zh_N s := w.1 49 (by decide)
theorem zw_K49 {s : zh_S} (w : zq_w s) : zh_K s 49 = (1, 6) := w.2.1 49 (by decide)
theorem zw_N50 {s : zh_S} (w : zq_w s) : 50 < zh_N s := w.1 50 (by decide)
theorem zw_K50 {s : zh_S} (w : zq_w s) : zh_K s 50 = (1, 6) := w.2.1 50 (by decide)
theorem zw_N51 {s : zh_S} (w : zq_w s) : 51 < zh_N s := w.1 51 (by decide)
theorem zw_K51 {s : zh_S} (w : zq_w s) : zh_K s 51 = (1, 6) := w.2.1 51 (by decide)
theorem zw_N52 {s : zh_S} (w : zq_w s) : 52 < zh_N s := w.1 52 (by decide)
theorem zw_K52 {s : zh_S} (w : zq_w s) : zh_K s 52 = (1, 15) := w.2.1 52 (by decide)
theorem zw_N53 {s : zh_S} (w : zq_w s) : 53 < zh_N s := w.1 53 (by decide)
theorem zw_K53 {s : zh_S} (w : zq_w s) : zh_K s 53 = (1, 4) := w.2.1 53 (by decide)
theorem zw_N54 {s : zh_S} (w : zq_w s) : 54 < zh_N s := w.1 54 (by decide)
theorem zw_K54 {s : zh_S} (w : zq_w s) : zh_K s 54 = (1, 4) := w.2.1 54 (by decide)
theorem zw_N55 {s : zh_S} (w : zq_w s) : 55 < zh_N s := w.1 55 (by decide)
theorem zw_K55 {s : zh_S} (w : zq_w s) : zh_K s 55 = (1, 180) := w.2.1 55 (by decide)
theorem zw_N56 {s : zh_S} (w : zq_w s) : 56 < zh_N s := w.1 56 (by decide)
theorem zw_K56 {s : zh_S} (w : zq_w s) : zh_K s 56 = (1, 36) := w.2.1 56 (by decide)
theorem zw_N57 {s : zh_S} (w : zq_w s) : 57 < zh_N s := w.1 57 (by decide)
theorem zw_K57 {s : zh_S} (w : zq_w s) : zh_K s 57 = (1, 24) := w.2.1 57 (by decide)
theorem zw_N58 {s : zh_S} (w : zq_w s) : 58 < zh_N s := w.1 58 (by decide)
theorem zw_K58 {s : zh_S} (w : zq_w s) : zh_K s 58 = (1, 24) := w.2.1 58 (by decide)
theorem zw_N59 {s : zh_S} (w : zq_w s) : 59 < zh_N s := w.1 59 (by decide)
theorem zw_K59 {s : zh_S} (w : zq_w s) : zh_K s 59 = (0, 5) := w.2.1 59 (by decide)
theorem zw_N60 {s : zh_S} (w : zq_w s) : 60 < zh_N s := w.1 60 (by decide)
theorem zw_K60 {s : zh_S} (w : zq_w s) : zh_K s 60 = (0, 5) := w.2.1 60 (by decide)
theorem zw_N61 {s : zh_S} (w : zq_w s) : 61 < zh_N s := w.1 61 (by decide)
theorem zw_K61 {s : zh_S} (w : zq_w s) : zh_K s 61 = (0, 5) := w.2.1 61 (by decide)
theorem zw_A2 {s : zh_S} (w : zq_w s) {i : Nat} (h : i < 200) : zh_oa s 2 0 (nI i) := ⟨by rw [zw_K2 w], zw_N2 w, nI_pos (by omega), by rw [zw_K2 w, nI_clamp (by omega)]; exact h⟩
theorem zw_A4 {s : zh_S} (w : zq_w s) {i : Nat} (h : i < 13) : zh_oa s 4 1 (nI i) := ⟨by rw [zw_K4 w], zw_N4 w, nI_pos (by omega), by rw [zw_K4 w, nI_clamp (by omega)]; exact h⟩
theorem zw_A5 {s : zh_S} (w : zq_w s) {i : Nat} (h : i < 4) : zh_oa s 5 1 (nI i) := ⟨by rw [zw_K5 w], zw_N5 w, nI_pos (by omega), by rw [zw_K5 w, nI_clamp (by omega)]; exact h⟩
theorem zw_A6 {s : zh_S} (w : zq_w s) {i : Nat} (h : i < 4) : zh_oa s 6 1 (nI i) := ⟨by rw [zw_K6 w], zw_N6 w, nI_pos (by omega), by rw [zw_K6 w, nI_clamp (by omega)]; exact h⟩
theorem zw_A45 {s : zh_S} (w : zq_w s) {i : Nat} (h : i < 200) : zh_oa s 45 0 (nI i) := ⟨by rw [zw_K45 w], zw_N45 w, nI_pos (by omega), by rw [zw_K45 w, nI_clamp (by omega)]; exact h⟩
theorem zw_A46 {s : zh_S} (w : zq_w s) {i : Nat} (h : i < 13) : zh_oa s 46 1 (nI i) := ⟨by rw [zw_K46 w], zw_N46 w, nI_pos (by omega), by rw [zw_K46 w, nI_clamp (by omega)]; exact h⟩
theorem zw_A47 {s : zh_S} (w : zq_w s) {i : Nat} (h : i < 4) : zh_oa s 47 1 (nI i) := ⟨by rw [zw_K47 w], zw_N47 w, nI_pos (by omega), by rw [zw_K47 w, nI_clamp (by omega)]; exact h⟩
theorem zw_A48 {s : zh_S} (w : zq_w s) {i : Nat} (h : i < 4) : zh_oa s 48 1 (nI i) := ⟨by rw [zw_K48 w], zw_N48 w, nI_pos (by omega), by rw [zw_K48 w, nI_clamp (by omega)]; exact h⟩
theorem zw_A49 {s : zh_S} (w : zq_w s) {i : Nat} (h : i < 6) : zh_oa s 49 1 (nI i) := ⟨by rw [zw_K49 w], zw_N49 w, nI_pos (by omega), by rw [zw_K49 w, nI_clamp (by omega)]; exact h⟩
theorem zw_A50 {s : zh_S} (w : zq_w s) {i : Nat} (h : i < 6) : zh_oa s 50 1 (nI i) := ⟨by rw [zw_K50 w], zw_N50 w, nI_pos (by omega), by rw [zw_K50 w, nI_clamp (by omega)]; exact h⟩
theorem zw_A51 {s : zh_S} (w : zq_w s) {i : Nat} (h : i < 6) : zh_oa s 51 1 (nI i) := ⟨by rw [zw_K51 w], zw_N51 w, nI_pos (by omega), by rw [zw_K51 w, nI_clamp (by omega)]; exact h⟩
theorem zw_A52 {s : zh_S} (w : zq_w s) {i : Nat} (h : i < 15) : zh_oa s 52 1 (nI i) := ⟨by rw [zw_K52 w], zw_N52 w, nI_pos (by omega), by rw [zw_K52 w, nI_clamp (by omega)]; exact h⟩
theorem zw_A53 {s : zh_S} (w : zq_w s) {i : Nat} (h : i < 4) : zh_oa s 53 1 (nI i) := ⟨by rw [zw_K53 w], zw_N53 w, nI_pos (by omega), by rw [zw_K53 w, nI_clamp (by omega)]; exact h⟩
theorem zw_A54 {s : zh_S} (w : zq_w s) {i : Nat} (h : i < 4) : zh_oa s 54 1 (nI i) := ⟨by rw [zw_K54 w], zw_N54 w, nI_pos (by omega), by rw [zw_K54 w, nI_clamp (by omega)]; exact h⟩
theorem zw_A55 {s : zh_S} (w : zq_w s) {i : Nat} (h : i < 180) : zh_oa s 55 1 (nI i) := ⟨by rw [zw_K55 w], zw_N55 w, nI_pos (by omega), by rw [zw_K55 w, nI_clamp (by omega)]; exact h⟩
theorem zw_A56 {s : zh_S} (w : zq_w s) {i : Nat} (h : i < 36) : zh_oa s 56 1 (nI i) := ⟨by rw [zw_K56 w], zw_N56 w, nI_pos (by omega), by rw [zw_K56 w, nI_clamp (by omega)]; exact h⟩
theorem zw_A57 {s : zh_S} (w : zq_w s) {i : Nat} (h : i < 24) : zh_oa s 57 1 (nI i) := ⟨by rw [zw_K57 w], zw_N57 w, nI_pos (by omega), by rw [zw_K57 w, nI_clamp (by omega)]; exact h⟩
theorem zw_A58 {s : zh_S} (w : zq_w s) {i : Nat} (h : i < 24) : zh_oa s 58 1 (nI i) := ⟨by rw [zw_K58 w], zw_N58 w, nI_pos (by omega), by rw [zw_K58 w, nI_clamp (by omega)]; exact h⟩
theorem zw_A59 {s : zh_S} (w : zq_w s) {i : Nat} (h : i < 5) : zh_oa s 59 0 (nI i) := ⟨by rw [zw_K59 w], zw_N59 w, nI_pos (by omega), by rw [zw_K59 w, nI_clamp (by omega)]; exact h⟩
theorem zw_A60 {s : zh_S} (w : zq_w s) {i : Nat} (h : i < 5) : zh_oa s 60 0 (nI i) := ⟨by rw [zw_K60 w], zw_N60 w, nI_pos (by omega), by rw [zw_K60 w, nI_clamp (by omega)]; exact h⟩
theorem zw_A61 {s : zh_S} (w : zq_w s) {i : Nat} (h : i < 5) : zh_oa s 61 0 (nI i) := ⟨by rw [zw_K61 w], zw_N61 w, nI_pos (by omega), by rw [zw_K61 w, nI_clamp (by omega)]; exact h⟩
theorem zw_R0_0 {s : zh_S} (w : zq_w s) : zh_R s 0 0 = some 1 := w.2.2 0 0 (by decide)
theorem zw_R0_1 {s : zh_S} (w : zq_w s) : zh_R s 0 1 = some 3 := w.2.2 0 1 (by decide)
theorem zw_R0_2 {s : zh_S} (w : zq_w s) : zh_R s 0 2 = some 7 := w.2.2 0 2 (by decide)
theorem zw_R1_0 {s : zh_S} (w : zq_w s) : zh_R s 1 0 = some 2 := w.2.2 1 0 (by decide)
theorem zw_R3_0 {s : zh_S} (w : zq_w s) : zh_R s 3 0 = some 4 := w.2.2 3 0 (by decide)
theorem zw_R3_1 {s : zh_S} (w : zq_w s) : zh_R s 3 1 = some 5 := w.2.2 3 1 (by decide)
theorem zw_R3_2 {s : zh_S} (w : zq_w s) : zh_R s 3 2 = some 6 := w.2.2 3 2 (by decide)
theorem zw_R7_0 {s : zh_S} (w : zq_w s) : zh_R s 7 0 = some 8 := w.2.2 7 0 (by decide)
theorem zw_R7_1 {s : zh_S} (w : zq_w s) : zh_R s 7 1 = some 9 := w.2.2 7 1 (by decide)
theorem zw_R44_0 {s : zh_S} (w : zq_w s) : zh_R s 44 0 = some 45 := w.2.2 44 0 (by decide)
theorem zw_R44_2 {s : zh_S} (w : zq_w s) : zh_R s 44 2 = some 46 := w.2.2 44 2 (by decide)
theorem zw_R44_4 {s : zh_S} (w : zq_w s) : zh_R s 44 4 = some 47 := w.2.2 44 4 (by decide)
theorem zw_R44_5 {s : zh_S} (w : zq_w s) : zh_R s 44 5 = some 48 := w.2.2 44 5 (by decide)
theorem zw_R44_6 {s : zh_S} (w : zq_w s) : zh_R s 44 6 = some 49 := w.2.2 44 6 (by decide)
theorem zw_R44_7 {s : zh_S} (w : zq_w s) : zh_R s 44 7 = some 50 := w.2.2 44 7 (by decide)
theorem zw_R44_8 {s : zh_S} (w : zq_w s) : zh_R s 44 8 = some 51 := w.2.2 44 8 (by decide)
theorem zw_R44_11 {s : zh_S} (w : zq_w s) : zh_R s 44 11 = some 52 := w.2.2 44 11 (by decide)
theorem zw_R44_13 {s : zh_S} (w : zq_w s) : zh_R s 44 13 = some 53 := w.2.2 44 13 (by decide)
theorem zw_R44_14 {s : zh_S} (w : zq_w s) : zh_R s 44 14 = some 54 := w.2.2 44 14 (by decide)
theorem zw_R44_16 {s : zh_S} (w : zq_w s) : zh_R s 44 16 = some 55 := w.2.2 44 16 (by decide)
theorem zw_R44_18 {s : zh_S} (w : zq_w s) : zh_R s 44 18 = some 56 := w.2.2 44 18 (by decide)
theorem zw_R44_19 {s : zh_S} (w : zq_w s) : zh_R s 44 19 = some 57 := w.2.2 44 19 (by decide)
theorem zw_R44_20 {s : zh_S} (w : zq_w s) : zh_R s 44 20 = some 58 := w.2.2 44 20 (by decide)
theorem zw_R44_21 {s : zh_S} (w : zq_w s) : zh_R s 44 21 = some 59 := w.2.2 44 21 (by decide)
theorem zw_R44_22 {s : zh_S} (w : zq_w s) : zh_R s 44 22 = some 60 := w.2.2 44 22 (by decide)
theorem zw_R44_23 {s : zh_S} (w : zq_w s) : zh_R s 44 23 = some 61 := w.2.2 44 23 (by decide)
theorem zs_II (s : zh_S) (a k : Nat) (v : Int32) (b j : Nat) : zh_I (zh_uI s a k v) b j = if b = a ∧ j = k then v else zh_I s b j := by
  show va_up s.1 a (va_up (s.1 a) k v) b j = _
  unfold va_up
  by_cases h : b = a
  · subst h
    by_cases h2 : j = k <;> simp [h2] <;> rfl
  · simp [h]; rfl
theorem zs_JJ (s : zh_S) (a k : Nat) (v : Int64) (b j : Nat) : zh_J (zh_uJ s a k v) b j = if b = a ∧ j = k then v else zh_J s b j := by
  show va_up s.2.1 a (va_up (s.2.1 a) k v) b j = _
  unfold va_up
  by_cases h : b = a
  · subst h
    by_cases h2 : j = k <;> simp [h2] <;> rfl
  · simp [h]; rfl
theorem zs_RR (s : zh_S) (a k : Nat) (v : Option Nat) (b j : Nat) : zh_R (zh_uR s a k v) b j = if b = a ∧ j = k then v else zh_R s b j := by
  show va_up s.2.2.1 a (va_up (s.2.2.1 a) k v) b j = _
  unfold va_up
  by_cases h : b = a
  · subst h
    by_cases h2 : j = k <;> simp [h2] <;> rfl
  · simp [h]; rfl
theorem zs_IJ (s : zh_S) (a k : Nat) (v : Int64) : zh_I (zh_uJ s a k v) = zh_I s := rfl
theorem zs_IR (s : zh_S) (a k : Nat) (v : Option Nat) : zh_I (zh_uR s a k v) = zh_I s := rfl
theorem zs_JI (s : zh_S) (a k : Nat) (v : Int32) : zh_J (zh_uI s a k v) = zh_J s := rfl
theorem zs_JR (s : zh_S) (a k : Nat) (v : Option Nat) : zh_J (zh_uR s a k v) = zh_J s := rfl
theorem zs_RI (s : zh_S) (a k : Nat) (v : Int32) : zh_R (zh_uI s a k v) = zh_R s := rfl
theorem zs_RJ (s : zh_S) (a k : Nat) (v : Int64) : zh_R (zh_uJ s a k v) = zh_R s := rfl
theorem zs_KI (s : zh_S) (a k : Nat) (v : Int32) : zh_K (zh_uI s a k v) = zh_K s := rfl
theorem zs_KJ (s : zh_S) (a k : Nat) (v : Int64) : zh_K (zh_uJ s a k v) = zh_K s := rfl
theorem zs_KR (s : zh_S) (a k : Nat) (v : Option Nat) : zh_K (zh_uR s a k v) = zh_K s := rfl
theorem zs_NI (s : zh_S) (a k : Nat) (v : Int32) : zh_N (zh_uI s a k v) = zh_N s := rfl
theorem zs_NJ (s : zh_S) (a k : Nat) (v : Int64) : zh_N (zh_uJ s a k v) = zh_N s := rfl
theorem zs_NR (s : zh_S) (a k : Nat) (v : Option Nat) : zh_N (zh_uR s a k v) = zh_N s := rfl
theorem zs_MI (s : zh_S) (a k : Nat) (v : Int32) : zh_M (zh_uI s a k v) = zh_M s := rfl
theorem zs_MJ (s : zh_S) (a k : Nat) (v : Int64) : zh_M (zh_uJ s a k v) = zh_M s := rfl
theorem zs_MR (s : zh_S) (a k : Nat) (v : Option Nat) : zh_M (zh_uR s a k v) = zh_M s := rfl
/-- the same things lie in the same places -/
def zq_E (s t : zh_S) : Prop := zh_R t = zh_R s ∧ zh_K t = zh_K s ∧ zh_N t = zh_N s ∧ zh_M t = zh_M s
/-- nothing but P has changed -/
def zq_F (P : Nat → Nat → Prop) (s t : zh_S) : Prop := zq_E s t ∧ ∀ a k, ¬ P a k → zh_I t a k = zh_I s a k ∧ zh_J t a k = zh_J s a k
theorem zq_E.w {s t : zh_S} (h : zq_E s t) (w : zq_w s) : zq_w t := by
  obtain ⟨h1, h2, h3, -⟩ := h
  unfold zq_w
  rw [h1, h2, h3]
  exact w
theorem zq_F.w {P : Nat → Nat → Prop} {s t : zh_S} (h : zq_F P s t) (w : zq_w s) : zq_w t := h.1.w w
theorem zq_F.rf {P : Nat → Nat → Prop} {s : zh_S} : zq_F P s s := ⟨⟨rfl, rfl, rfl, rfl⟩, fun _ _ _ => ⟨rfl, rfl⟩⟩
theorem zq_F.tr {P : Nat → Nat → Prop} {s t u : zh_S} (h : zq_F P s t) (g : zq_F P t u) : zq_F P s u :=
  ⟨⟨g.1.1.trans h.1.1, g.1.2.1.trans h.1.2.1, g.1.2.2.1.trans h.1.2.2.1, g.1.2.2.2.trans h.1.2.2.2⟩, fun a k q => ⟨(g.2 a k q).1.trans (h.2 a k q).1, (g.2 a k q).2.trans (h.2 a k q).2⟩⟩
theorem zq_F.mo {P Q : Nat → Nat → Prop} {s t : zh_S} (h : zq_F P s t) (hq : ∀ a k, P a k → Q a k) : zq_F Q s t := ⟨h.1, fun a k q => h.2 a k (fun p => q (hq a k p))⟩
theorem zq_F.uI {P : Nat → Nat → Prop} {s t : zh_S} (h : zq_F P s t) {a k : Nat} (p : P a k) (v : Int32) : zq_F P s (zh_uI t a k v) :=
  ⟨h.1, fun b j q => ⟨by rw [zs_II, if_neg (fun e => q (by rw [e.1, e.2]; exact p))]; exact (h.2 b j q).1, (h.2 b j q).2⟩⟩
theorem zq_F.uJ {P : Nat → Nat → Prop} {s t : zh_S} (h : zq_F P s t) {a k : Nat} (p : P a k) (v : Int64) : zq_F P s (zh_uJ t a k v) :=
  ⟨h.1, fun b j q => ⟨(h.2 b j q).1, by rw [zs_JJ, if_neg (fun e => q (by rw [e.1, e.2]; exact p))]; exact (h.2 b j q).2⟩⟩
/-- a row of bytes: its size at (o, k), its bytes in a -/
def zq_L (s : zh_S) (o k a : Nat) (l : List Nat) : Prop := zh_I s o k = nI l.length ∧ l.length ≤ 200 ∧ (∀ b ∈ l, b < 256) ∧ ∀ j, j < l.length → zh_I s a j = nI (l.getD j 0)
theorem zq_L.keep {s t : zh_S} {P : Nat → Nat → Prop} {o k a : Nat} {l : List Nat} (h : zq_L s o k a l) (f : zq_F P s t) (h1 : ¬ P o k) (h2 : ∀ j, ¬ P a j) : zq_L t o k a l :=
  ⟨by rw [(f.2 o k h1).1]; exact h.1, h.2.1, h.2.2.1, fun j hj => by rw [(f.2 a j (h2 j)).1]; exact h.2.2.2 j hj⟩
abbrev zq_PD (a k : Nat) : Prop := a = 2 ∨ a = 1 ∧ k = 1
abbrev zq_PE (a k : Nat) : Prop := a = 45 ∨ a = 44 ∧ k = 1
/-- the draft of the class, of the reference -/
abbrev zq_dV (s : zh_S) (l : List Nat) : Prop := zq_L s 1 1 2 l
abbrev zq_dM (s : zh_S) (l : List Nat) : Prop := zq_L s 44 1 45 l
