/-! The heap and the pure state; the judgement zg_G; rows that touch the heap. (classes, zh_f, zh_n, R_..: printed names.) -/
def zh_fv (h0 : Nat) (s : zh_S) (ci a k : Nat) : Value := match zh_f ci k with
  | 0 => .int (zh_I s a k)
  | 1 => .long (zh_J s a k)
  | _ => va_rf ((zh_R s a k).map (h0 + ·))
def zh_ce (h0 : Nat) (dA : Nat → ClassId) (s : zh_S) (a : Nat) : va_E := match zh_K s a with
  | (0, n) => .inl (dA 0, n, .inl (zh_I s a))
  | (1, n) => .inl (dA 1, n, .inr (.inl (zh_J s a)))
  | (2, ci) => .inr (ci, (List.range (zh_n ci)).map (zh_fv h0 s ci a))
  | (t + 3, n) => .inl (dA (t + 3), n, .inr (.inr (.inr (.inr (fun k => (zh_R s a k).map (h0 + ·))))))
abbrev zh_tys (dA : Nat → ClassId) : List (ClassId × FieldType) := [(dA 0, .int), (dA 1, .long), (dA 3, .object zr_Certificate), (dA 4, .object zr_RevokedList)]
def zh_mI (h0 : Nat) (D : va_G) (dA : Nat → ClassId) (s : zh_S) (H : Heap) : Prop := H.size = h0 + zh_N s ∧ ∀ a, a < zh_N s → va_at D classes (h0 + a, zh_ce h0 dA s a) H
theorem zh_set {h0 : Nat} {D : va_G} {dA : Nat → ClassId} {s s1 : zh_S} {H H1 : Heap} {a : Nat} (h : zh_mI h0 D dA s H) (hz : H1.size = H.size) (oq : ∀ q, q ≠ h0 + a → H1[q]? = H[q]?) (hN : zh_N s1 = zh_N s)
    (hco : ∀ b, b ≠ a → zh_ce h0 dA s1 b = zh_ce h0 dA s b) (hat : va_at D classes (h0 + a, zh_ce h0 dA s1 a) H1) : zh_mI h0 D dA s1 H1 := by
  refine ⟨by rw [hz, hN]; exact h.1, fun b hb => ?_⟩
  by_cases hba : b = a
  · subst hba; exact hat
  · rw [hco b hba]
    exact (h.2 b (by rw [← hN]; exact hb)).kept (oq _ (by show h0 + b ≠ h0 + a; omega))
theorem zh_push {h0 : Nat} {D : va_G} {dA : Nat → ClassId} {s s1 : zh_S} {H H1 : Heap} (h : zh_mI h0 D dA s H) (hz : H1.size = H.size + 1) (oq : ∀ q, q < H.size → H1[q]? = H[q]?) (hN : zh_N s1 = zh_N s + 1)
    (hco : ∀ b, b ≠ zh_N s → zh_ce h0 dA s1 b = zh_ce h0 dA s b) (hat : va_at D classes (H.size, zh_ce h0 dA s1 (zh_N s)) H1) : zh_mI h0 D dA s1 H1 := by
  refine ⟨by rw [hz, hN, h.1]; omega, fun b hb => ?_⟩
  by_cases hba : b = zh_N s
  · subst hba; rw [← h.1]; exact hat
  · rw [hco b hba]
    have hb2 : b < zh_N s := by omega
    exact (h.2 b hb2).kept (oq _ (by show h0 + b < H.size; rw [h.1]; omega))
theorem zh_one {D : va_G} {cl : List vw_C} {q : Nat × va_E} {H : Heap} (h : va_at D cl q H) : va_P D cl [q] H := by
  intro k x hx
  cases k with
  | zero => cases hx; exact h
  | succ k => cases hx
theorem zh_obj {h0 : Nat} {dA : Nat → ClassId} {s : zh_S} {a ci : Nat} (h : zh_oo s a ci) : zh_ce h0 dA s a = .inr (ci, (List.range (zh_n ci)).map (zh_fv h0 s ci a)) := by
  unfold zh_ce; rw [h.1]
theorem zh_ia {h0 : Nat} {dA : Nat → ClassId} {s : zh_S} {a : Nat} (h : (zh_K s a).1 = 0) : zh_ce h0 dA s a = .inl (dA 0, (zh_K s a).2, .inl (zh_I s a)) := by
  unfold zh_ce
  obtain ⟨t, n, e⟩ : ∃ t n, zh_K s a = (t, n) := ⟨_, _, rfl⟩
  rw [e] at h ⊢
  cases h; rfl
theorem zh_la {h0 : Nat} {dA : Nat → ClassId} {s : zh_S} {a : Nat} (h : (zh_K s a).1 = 1) : zh_ce h0 dA s a = .inl (dA 1, (zh_K s a).2, .inr (.inl (zh_J s a))) := by
  unfold zh_ce
  obtain ⟨t, n, e⟩ : ∃ t n, zh_K s a = (t, n) := ⟨_, _, rfl⟩
  rw [e] at h ⊢
  cases h; rfl
theorem zh_ra {h0 : Nat} {dA : Nat → ClassId} {s : zh_S} {a t : Nat} (h : (zh_K s a).1 = t + 3) : zh_ce h0 dA s a = .inl (dA (t + 3), (zh_K s a).2, .inr (.inr (.inr (.inr (fun k => (zh_R s a k).map (h0 + ·)))))) := by
  unfold zh_ce
  obtain ⟨t', n, e⟩ : ∃ t n, zh_K s a = (t, n) := ⟨_, _, rfl⟩
  rw [e] at h ⊢
  cases h; rfl
theorem zh_lset {N k : Nat} {f : Nat → Value} {v : Value} : ((List.range N).map f).set k v = (List.range N).map (va_up f k v) := by
  apply List.ext_getElem?
  intro j
  by_cases hj : j < N
  · by_cases hk : j = k
    · subst hk
      rw [List.getElem?_set_self (by simpa using hj), List.getElem?_map, List.getElem?_range hj]
      simp [va_up]
    · rw [List.getElem?_set_ne (Ne.symm hk), List.getElem?_map, List.getElem?_map, List.getElem?_range hj]
      simp [va_up, hk]
  · rw [List.getElem?_eq_none (by simpa using Nat.not_lt.mp hj), List.getElem?_eq_none (by simpa using Nat.not_lt.mp hj)]
theorem zh_in {i : Int32} {n : Nat} (h1 : ¬ i < 0) (h2 : i.toNatClampNeg < n) : vp_in i n := fun h => by
  rcases h with h | h
  · exact h1 h
  · omega
-- the pure state's own rows
theorem zh_N_uI (s : zh_S) (a k : Nat) (v : Int32) : zh_N (zh_uI s a k v) = zh_N s := rfl
theorem zh_M_uI (s : zh_S) (a k : Nat) (v : Int32) : zh_M (zh_uI s a k v) = zh_M s := rfl
theorem zh_N_uJ (s : zh_S) (a k : Nat) (v : Int64) : zh_N (zh_uJ s a k v) = zh_N s := rfl
theorem zh_M_uJ (s : zh_S) (a k : Nat) (v : Int64) : zh_M (zh_uJ s a k v) = zh_M s := rfl
theorem zh_N_uR (s : zh_S) (a k : Nat) (v : Option Nat) : zh_N (zh_uR s a k v) = zh_N s := rfl
theorem zh_M_uR (s : zh_S) (a k : Nat) (v : Option Nat) : zh_M (zh_uR s a k v) = zh_M s := rfl
theorem zh_ne_uI {h0 : Nat} {dA : Nat → ClassId} {s : zh_S} {a k b : Nat} {v : Int32} (h : b ≠ a) : zh_ce h0 dA (zh_uI s a k v) b = zh_ce h0 dA s b := by
  have e : zh_I (zh_uI s a k v) b = zh_I s b := by show va_up s.1 a _ b = s.1 b; rw [va_up_ne _ _ h]
  have f : ∀ ci, zh_fv h0 (zh_uI s a k v) ci b = zh_fv h0 s ci b := fun ci => by
    funext j; unfold zh_fv; rw [e]; rfl
  unfold zh_ce
  rw [e, show zh_K (zh_uI s a k v) = zh_K s from rfl, show zh_J (zh_uI s a k v) = zh_J s from rfl, show zh_R (zh_uI s a k v) = zh_R s from rfl]
  simp only [f]
theorem zh_ne_uJ {h0 : Nat} {dA : Nat → ClassId} {s : zh_S} {a k b : Nat} {v : Int64} (h : b ≠ a) : zh_ce h0 dA (zh_uJ s a k v) b = zh_ce h0 dA s b := by
  have e : zh_J (zh_uJ s a k v) b = zh_J s b := by show va_up s.2.1 a _ b = s.2.1 b; rw [va_up_ne _ _ h]
  have f : ∀ ci, zh_fv h0 (zh_uJ s a k v) ci b = zh_fv h0 s ci b := fun ci => by
    funext j; unfold zh_fv; rw [e]; rfl
  unfold zh_ce
  rw [e, show zh_K (zh_uJ s a k v) = zh_K s from rfl, show zh_I (zh_uJ s a k v) = zh_I s from rfl, show zh_R (zh_uJ s a k v) = zh_R s from rfl]
  simp only [f]
theorem zh_ne_uR {h0 : Nat} {dA : Nat → ClassId} {s : zh_S} {a k b : Nat} {v : Option Nat} (h : b ≠ a) : zh_ce h0 dA (zh_uR s a k v) b = zh_ce h0 dA s b := by
  have e : zh_R (zh_uR s a k v) b = zh_R s b := by show va_up s.2.2.1 a _ b = s.2.2.1 b; rw [va_up_ne _ _ h]
  have f : ∀ ci, zh_fv h0 (zh_uR s a k v) ci b = zh_fv h0 s ci b := fun ci => by
    funext j; unfold zh_fv; rw [e]; rfl
  unfold zh_ce
  rw [e, show zh_K (zh_uR s a k v) = zh_K s from rfl, show zh_I (zh_uR s a k v) = zh_I s from rfl, show zh_J (zh_uR s a k v) = zh_J s from rfl]
  simp only [f]
theorem zh_fv_uI {h0 : Nat} {s : zh_S} {ci a k : Nat} {v : Int32} (hf : zh_f ci k = 0) : zh_fv h0 (zh_uI s a k v) ci a = va_up (zh_fv h0 s ci a) k (.int v) := by
  funext j
  have e : zh_I (zh_uI s a k v) a = va_up (zh_I s a) k v := by show va_up s.1 a _ a = _; rw [va_up_self]; rfl
  by_cases hj : j = k
  · subst hj; rw [va_up_self]; unfold zh_fv; rw [hf, e, va_up_self]; rfl
  · rw [va_up_ne _ _ hj]; unfold zh_fv; rw [e, va_up_ne _ _ hj]; rfl
theorem zh_fv_uJ {h0 : Nat} {s : zh_S} {ci a k : Nat} {v : Int64} (hf : zh_f ci k = 1) : zh_fv h0 (zh_uJ s a k v) ci a = va_up (zh_fv h0 s ci a) k (.long v) := by
  funext j
  have e : zh_J (zh_uJ s a k v) a = va_up (zh_J s a) k v := by show va_up s.2.1 a _ a = _; rw [va_up_self]; rfl
  by_cases hj : j = k
  · subst hj; rw [va_up_self]; unfold zh_fv; rw [hf, e, va_up_self]; rfl
  · rw [va_up_ne _ _ hj]; unfold zh_fv; rw [e, va_up_ne _ _ hj]; rfl
theorem zh_fv_uR {h0 : Nat} {s : zh_S} {ci a k : Nat} {v : Option Nat} (hf : zh_f ci k = 2) : zh_fv h0 (zh_uR s a k v) ci a = va_up (zh_fv h0 s ci a) k (va_rf (v.map (h0 + ·))) := by
  funext j
  have e : zh_R (zh_uR s a k v) a = va_up (zh_R s a) k v := by show va_up s.2.2.1 a _ a = _; rw [va_up_self]; rfl
  by_cases hj : j = k
  · subst hj; rw [va_up_self]; unfold zh_fv; rw [hf, e, va_up_self]; rfl
  · rw [va_up_ne _ _ hj]; unfold zh_fv; rw [e, va_up_ne _ _ hj]; rfl
/-- what a walk says: from here the machine comes to Q; the state's counters never pass those at the end -/
def zg_G (p : Program) (l : Launch) (e : Env) (R : Room) (s : State) (m : MethodId) (args : Array Value) (below : List Frame) (meth : Method) (c : Code) (Q : State → Prop) (h0 : Nat) (D : va_G) (dA : Nat → ClassId) (nL c0 s0 : Nat) (z : zh_S) (x : zh_S) (pc : Nat) (lv : List (Nat × Value)) (st : List Value) : Prop :=
  (zh_N x ≤ zh_N z ∧ zh_M x ≤ zh_M z) ∧ ∀ (H : Heap) (locs : List Loc) (ls : Array Slot) (k j : Nat), zh_N x = c0 + k → zh_M x = s0 + j → zh_mI h0 D dA x H → va_S (fun q => h0 ≤ q) s.heap H locs → lv_has ls nL lv →
    W p l e R s m args below meth c H locs k j Q (F0 m pc ls st)
section ZG
variable {p : Program} {l : Launch} {e : Env} {R : Room} {s : State} {m : MethodId} {args : Array Value} {below : List Frame} {meth : Method} {c : Code} {Q : State → Prop} {h0 : Nat} {D : va_G} {dA : Nat → ClassId} {nL c0 s0 : Nat} {z x : zh_S} {pc pc' pc1 pc2 : Nat} {lv lv' : List (Nat × Value)} {st st' : List Value} {cc : ByteArray}
theorem zg_1 (h : ∀ (H : Heap) (locs : List Loc) (ls : Array Slot) (k j : Nat), lv_has ls nL lv → W p l e R s m args below meth c H locs k j Q (F0 m pc' ls st') → W p l e R s m args below meth c H locs k j Q (F0 m pc ls st))
    (kk : zg_G p l e R s m args below meth c Q h0 D dA nL c0 s0 z x pc' lv st') : zg_G p l e R s m args below meth c Q h0 D dA nL c0 s0 z x pc lv st :=
  ⟨kk.1, fun H locs ls k j h1 h2 hI hS hl => h H locs ls k j hl (kk.2 H locs ls k j h1 h2 hI hS hl)⟩
theorem zg_s (h : ∀ (H : Heap) (locs : List Loc) (ls : Array Slot) (k j : Nat), lv_has ls nL lv → (∀ ls' : Array Slot, lv_has ls' nL lv' → W p l e R s m args below meth c H locs k j Q (F0 m pc' ls' st')) → W p l e R s m args below meth c H locs k j Q (F0 m pc ls st))
    (kk : zg_G p l e R s m args below meth c Q h0 D dA nL c0 s0 z x pc' lv' st') : zg_G p l e R s m args below meth c Q h0 D dA nL c0 s0 z x pc lv st :=
  ⟨kk.1, fun H locs ls k j h1 h2 hI hS hl => h H locs ls k j hl (fun ls' hl' => kk.2 H locs ls' k j h1 h2 hI hS hl')⟩
theorem zg_2 {c1 c2 : Prop} (hc : c1 ∨ c2) (h : ∀ (H : Heap) (locs : List Loc) (ls : Array Slot) (k j : Nat), (c1 → W p l e R s m args below meth c H locs k j Q (F0 m pc1 ls st')) → (c2 → W p l e R s m args below meth c H locs k j Q (F0 m pc2 ls st')) → W p l e R s m args below meth c H locs k j Q (F0 m pc ls st))
    (k1 : c1 → zg_G p l e R s m args below meth c Q h0 D dA nL c0 s0 z x pc1 lv st') (k2 : c2 → zg_G p l e R s m args below meth c Q h0 D dA nL c0 s0 z x pc2 lv st') : zg_G p l e R s m args below meth c Q h0 D dA nL c0 s0 z x pc lv st :=
  ⟨by rcases hc with h | h; exact (k1 h).1; exact (k2 h).1, fun H locs ls k j h1 h2 hI hS hl => h H locs ls k j (fun q => (k1 q).2 H locs ls k j h1 h2 hI hS hl) (fun q => (k2 q).2 H locs ls k j h1 h2 hI hS hl)⟩
theorem zg_3 (h : ∀ (H : Heap) (locs : List Loc) (ls : Array Slot) (k j : Nat), va_S (fun q => h0 ≤ q) s.heap H locs → lv_has ls nL lv → W p l e R s m args below meth c H locs k j Q (F0 m pc' ls st') → W p l e R s m args below meth c H locs k j Q (F0 m pc ls st))
    (kk : zg_G p l e R s m args below meth c Q h0 D dA nL c0 s0 z x pc' lv st') : zg_G p l e R s m args below meth c Q h0 D dA nL c0 s0 z x pc lv st :=
  ⟨kk.1, fun H locs ls k j h1 h2 hI hS hl => h H locs ls k j hS hl (kk.2 H locs ls k j h1 h2 hI hS hl)⟩
theorem zg_ti {v y : Int32} (h : y = v) (kk : zg_G p l e R s m args below meth c Q h0 D dA nL c0 s0 z x pc lv (.int y :: st)) : zg_G p l e R s m args below meth c Q h0 D dA nL c0 s0 z x pc lv (.int v :: st) := by subst h; exact kk
theorem zg_tl {v y : Int64} (h : y = v) (kk : zg_G p l e R s m args below meth c Q h0 D dA nL c0 s0 z x pc lv (.long y :: st)) : zg_G p l e R s m args below meth c Q h0 D dA nL c0 s0 z x pc lv (.long v :: st) := by subst h; exact kk
/-- fewer locals -/
theorem zg_v (ks : List Nat) (hl : lv_pick lv ks = lv') (kk : zg_G p l e R s m args below meth c Q h0 D dA nL c0 s0 z x pc lv' st) : zg_G p l e R s m args below meth c Q h0 D dA nL c0 s0 z x pc lv st :=
  ⟨kk.1, fun H locs ls k j h1 h2 hI hS h => kk.2 H locs ls k j h1 h2 hI hS (lv_sub h ks hl)⟩
theorem zg_get (hexec : p.tables.exec = Jvm.exec) (hb : c.code = cc) {own ref C : String} {T : u_T} {N ci index : Nat} {Ts : List Cond} (hts : ∀ w ∈ Ts, w.before args s = true) (hin : ∀ w ∈ u_ws C T N, w ∈ Ts) (hown : s.vm.findClass own = some m.cls) (hK : va_K D classes (zh_tys dA) s) {a : Nat} (ho : zh_oo x a ci)
    (hc : classes[ci]? = some (C, T, N)) (hn : zh_n ci = N) (k : Nat) (hk : k < N) (hlink : (Cond.fieldLink own index ref (T k).2.1 (T k).2.2.1).before args s = true) (hsame : ∀ y, s.fieldFound? (T k).1 (T k).2.1 (T k).2.2.1 = some y → s.fieldFound? ref (T k).2.1 (T k).2.2.1 = some y)
    {v : Value} (hv : zh_fv h0 x ci a k = v) (hdg : decode cc pc = .ok (.getfield index, 3)) (hpc : pc + 3 = pc') (kk : zg_G p l e R s m args below meth c Q h0 D dA nL c0 s0 z x pc' lv (v :: st)) : zg_G p l e R s m args below meth c Q h0 D dA nL c0 s0 z x pc lv (.ref (h0 + a) :: st) := by
  subst hpc
  refine ⟨kk.1, fun H locs ls k' j h1 h2 hI hS hl => ?_⟩
  have hat := hI.2 a ho.2
  rw [zh_obj ho] at hat
  exact va_get hexec hb hts hin hown hK (zh_one hat) 0 rfl hc k hk hlink hsame (by rw [hn, List.getElem?_map, List.getElem?_range hk]; exact congrArg some hv) hdg (kk.2 H locs ls k' j h1 h2 hI hS hl)
/-- a field is written; y is the state behind it -/
theorem zg_put0 (hexec : p.tables.exec = Jvm.exec) (hb : c.code = cc) {own ref C : String} {T : u_T} {N ci index : Nat} {Ts : List Cond} (hts : ∀ w ∈ Ts, w.before args s = true) (hin : ∀ w ∈ u_ws C T N, w ∈ Ts) (ty0 : Nat → FieldType) (hty : ∀ k, k < N → parseFieldDescriptor (T k).2.2.1 = some (ty0 k)) (hnm : ∀ a, a < N → ∀ b, b < N → a ≠ b → (T a).2.1 ≠ (T b).2.1)
    (hown : s.vm.findClass own = some m.cls) (hK : va_K D classes (zh_tys dA) s) {a : Nat} (ho : zh_oo x a ci) (hc : classes[ci]? = some (C, T, N)) (hn : zh_n ci = N) (k : Nat) (hk : k < N) (hlink : (Cond.fieldLink own index ref (T k).2.1 (T k).2.2.1).before args s = true) (hsame : ∀ y, s.fieldFound? (T k).1 (T k).2.1 (T k).2.2.1 = some y → s.fieldFound? ref (T k).2.1 (T k).2.2.1 = some y)
    (hfin : (T k).2.2.2 = false ∨ ((T k).2.2.2 = true ∧ meth.name = "<init>" ∧ (T k).1 = own)) {ty : FieldType} {v : Value} (hd : parseFieldDescriptor (T k).2.2.1 = some ty) (hnr : narrow ty v = v) (hfit : fits ty v = true)
    {y : zh_S} (hyN : zh_N y = zh_N x) (hyM : zh_M y = zh_M x) (hyK : zh_K y = zh_K x) (hye : ∀ b, b ≠ a → zh_ce h0 dA y b = zh_ce h0 dA x b) (hyf : zh_fv h0 y ci a = va_up (zh_fv h0 x ci a) k v)
    (hdg : decode cc pc = .ok (.putfield index, 3)) (hpc : pc + 3 = pc') (kk : zg_G p l e R s m args below meth c Q h0 D dA nL c0 s0 z y pc' lv st) : zg_G p l e R s m args below meth c Q h0 D dA nL c0 s0 z x pc lv (v :: .ref (h0 + a) :: st) := by
  subst hpc
  refine ⟨by rw [← hyN, ← hyM]; exact kk.1, fun H locs ls k' j h1 h2 hI hS hl => ?_⟩
  have hat := hI.2 a ho.2
  rw [zh_obj ho] at hat
  have hap := va_apart (own := own) hts hin ty0 hty hnm hK hc
  obtain ⟨r, g1, cell, q1, q2, q3, q4⟩ := hat
  have hr : r = (C, T, N) := Option.some.inj (g1.symm.trans hc)
  subst hr
  have hcls := hK.1 ci _ hc
  obtain ⟨hSl, hfc, kC, hkC, hkind⟩ := hcls
  obtain ⟨cf, kf, fi, f, hi, hsl⟩ := hSl k hk
  have hst := (u_facts hfc hkC (u_lays hts hin hk) hi).1
  have hlay := hts _ (hin _ (u_in_lay hk))
  unfold u_lay at hlay
  have fin : ∀ H' : Heap, H'[h0 + a]? = some (cell.setSlot f.slot v) → H'.size = H.size → (∀ q, q ≠ h0 + a → H'[q]? = H[q]?) → W p l e R s m args below meth c H' (locs ++ [⟨h0 + a, f.slot⟩]) k' j Q (F0 m (pc + 3) ls st) := by
    intro H' e1 e2 e3
    rw [hsl] at e1 ⊢
    refine kk.2 H' _ ls k' j (by rw [hyN]; exact h1) (by rw [hyM]; exact h2) (zh_set hI e2 e3 hyN hye ?_) (hS.put e2 e3 (Nat.le_add_right h0 a)) hl
    rw [zh_obj (show zh_oo y a ci from ⟨by rw [hyK]; exact ho.1, by rw [hyN]; exact ho.2⟩), hyf, ← zh_lset]
    exact ⟨_, hc, t_OB.to (V := updV (vp_V ((List.range (zh_n ci)).map (zh_fv h0 x ci a))) k v) ⟨_, e1, q2, q3, t_set q4 hap hk v⟩ (fun j _ => vp_updV_set (by rw [hn]; simpa using hk) v j)⟩
  rcases hfin with hfin | ⟨hfin, hin2, hdecl⟩
  · rw [if_neg (by rw [hfin]; decide)] at hlay
    have h6 := u_store hfc hkC hkind hlay hi hd hnr hfit
    exact W.putK hexec hb (f := f) ⟨hown, hlink, ⟨_, _, _, hsame _ hi⟩, hst⟩ (by rw [q2]; exact h6) q1 q3 (by rw [hsl]; exact k2_hasslot (q4 k hk)) rfl rfl hdg fin
  · rw [if_pos hfin] at hlay
    have hcf : m.cls = cf := by
      obtain ⟨_, _, c', _, _, _, -, -, hf', -, -, -, hown2, -⟩ := Cond.laysFinal_spec hlay
      have e1 : c' = cf := by have := hi.symm.trans hf'; simp at this; exact this.1.symm
      rw [hdecl] at hown2
      rw [← e1]; exact Option.some.inj (hown.symm.trans hown2)
    have h6 := u_fits hfc hkC hkind (Or.inr hlay) hi hd hnr hfit
    exact W.putFinK hexec hb hown hlink (hsame _ hi) hst hcf hin2 (by rw [q2]; exact h6) q1 q3 (by rw [hsl]; exact k2_hasslot (q4 k hk)) rfl rfl hdg fin
theorem zg_putI (hexec : p.tables.exec = Jvm.exec) (hb : c.code = cc) {own ref C : String} {T : u_T} {N ci index : Nat} {Ts : List Cond} (hts : ∀ w ∈ Ts, w.before args s = true) (hin : ∀ w ∈ u_ws C T N, w ∈ Ts) (ty0 : Nat → FieldType) (hty : ∀ k, k < N → parseFieldDescriptor (T k).2.2.1 = some (ty0 k)) (hnm : ∀ a, a < N → ∀ b, b < N → a ≠ b → (T a).2.1 ≠ (T b).2.1)
    (hown : s.vm.findClass own = some m.cls) (hK : va_K D classes (zh_tys dA) s) {a : Nat} (ho : zh_oo x a ci) (hc : classes[ci]? = some (C, T, N)) (hn : zh_n ci = N) (k : Nat) (hk : k < N) (hlink : (Cond.fieldLink own index ref (T k).2.1 (T k).2.2.1).before args s = true) (hsame : ∀ y, s.fieldFound? (T k).1 (T k).2.1 (T k).2.2.1 = some y → s.fieldFound? ref (T k).2.1 (T k).2.2.1 = some y)
    (hfin : (T k).2.2.2 = false ∨ ((T k).2.2.2 = true ∧ meth.name = "<init>" ∧ (T k).1 = own)) {ty : FieldType} {v : Int32} (hd : parseFieldDescriptor (T k).2.2.1 = some ty) (hnr : narrow ty (.int v) = .int v) (hfit : fits ty (.int v) = true) (hf0 : zh_f ci k = 0) {y : zh_S} (hy : y = zh_uI x a k v)
    (hdg : decode cc pc = .ok (.putfield index, 3)) (hpc : pc + 3 = pc') (kk : zg_G p l e R s m args below meth c Q h0 D dA nL c0 s0 z y pc' lv st) : zg_G p l e R s m args below meth c Q h0 D dA nL c0 s0 z x pc lv (.int v :: .ref (h0 + a) :: st) := by
  subst hy
  exact zg_put0 (y := zh_uI x a k v) hexec hb hts hin ty0 hty hnm hown hK ho hc hn k hk hlink hsame hfin hd hnr hfit rfl rfl rfl (fun b hb => zh_ne_uI hb) (zh_fv_uI hf0) hdg hpc kk
theorem zg_putJ (hexec : p.tables.exec = Jvm.exec) (hb : c.code = cc) {own ref C : String} {T : u_T} {N ci index : Nat} {Ts : List Cond} (hts : ∀ w ∈ Ts, w.before args s = true) (hin : ∀ w ∈ u_ws C T N, w ∈ Ts) (ty0 : Nat → FieldType) (hty : ∀ k, k < N → parseFieldDescriptor (T k).2.2.1 = some (ty0 k)) (hnm : ∀ a, a < N → ∀ b, b < N → a ≠ b → (T a).2.1 ≠ (T b).2.1)
    (hown : s.vm.findClass own = some m.cls) (hK : va_K D classes (zh_tys dA) s) {a : Nat} (ho : zh_oo x a ci) (hc : classes[ci]? = some (C, T, N)) (hn : zh_n ci = N) (k : Nat) (hk : k < N) (hlink : (Cond.fieldLink own index ref (T k).2.1 (T k).2.2.1).before args s = true) (hsame : ∀ y, s.fieldFound? (T k).1 (T k).2.1 (T k).2.2.1 = some y → s.fieldFound? ref (T k).2.1 (T k).2.2.1 = some y)
    (hfin : (T k).2.2.2 = false ∨ ((T k).2.2.2 = true ∧ meth.name = "<init>" ∧ (T k).1 = own)) {ty : FieldType} {v : Int64} (hd : parseFieldDescriptor (T k).2.2.1 = some ty) (hnr : narrow ty (.long v) = .long v) (hfit : fits ty (.long v) = true) (hf0 : zh_f ci k = 1) {y : zh_S} (hy : y = zh_uJ x a k v)
    (hdg : decode cc pc = .ok (.putfield index, 3)) (hpc : pc + 3 = pc') (kk : zg_G p l e R s m args below meth c Q h0 D dA nL c0 s0 z y pc' lv st) : zg_G p l e R s m args below meth c Q h0 D dA nL c0 s0 z x pc lv (.long v :: .ref (h0 + a) :: st) := by
  subst hy
  exact zg_put0 (y := zh_uJ x a k v) hexec hb hts hin ty0 hty hnm hown hK ho hc hn k hk hlink hsame hfin hd hnr hfit rfl rfl rfl (fun b hb => zh_ne_uJ hb) (zh_fv_uJ hf0) hdg hpc kk
theorem zg_putR (hexec : p.tables.exec = Jvm.exec) (hb : c.code = cc) {own ref C : String} {T : u_T} {N ci index : Nat} {Ts : List Cond} (hts : ∀ w ∈ Ts, w.before args s = true) (hin : ∀ w ∈ u_ws C T N, w ∈ Ts) (ty0 : Nat → FieldType) (hty : ∀ k, k < N → parseFieldDescriptor (T k).2.2.1 = some (ty0 k)) (hnm : ∀ a, a < N → ∀ b, b < N → a ≠ b → (T a).2.1 ≠ (T b).2.1)
    (hown : s.vm.findClass own = some m.cls) (hK : va_K D classes (zh_tys dA) s) {a : Nat} (ho : zh_oo x a ci) (hc : classes[ci]? = some (C, T, N)) (hn : zh_n ci = N) (k : Nat) (hk : k < N) (hlink : (Cond.fieldLink own index ref (T k).2.1 (T k).2.2.1).before args s = true) (hsame : ∀ y, s.fieldFound? (T k).1 (T k).2.1 (T k).2.2.1 = some y → s.fieldFound? ref (T k).2.1 (T k).2.2.1 = some y)
    (hfin : (T k).2.2.2 = false ∨ ((T k).2.2.2 = true ∧ meth.name = "<init>" ∧ (T k).1 = own)) {ty : FieldType} {v : Option Nat} {w : Value} (hd : parseFieldDescriptor (T k).2.2.1 = some ty) (hnr : narrow ty w = w) (hfit : fits ty w = true) (hf0 : zh_f ci k = 2) {y : zh_S} (hy : y = zh_uR x a k v)
    (hdg : decode cc pc = .ok (.putfield index, 3)) (hpc : pc + 3 = pc') (kk : zg_G p l e R s m args below meth c Q h0 D dA nL c0 s0 z y pc' lv st) (hw : va_rf (v.map (h0 + ·)) = w := by rfl) : zg_G p l e R s m args below meth c Q h0 D dA nL c0 s0 z x pc lv (w :: .ref (h0 + a) :: st) := by
  subst hy
  exact zg_put0 (y := zh_uR x a k v) hexec hb hts hin ty0 hty hnm hown hK ho hc hn k hk hlink hsame hfin hd hnr hfit rfl rfl rfl (fun b hb => zh_ne_uR hb) (by rw [zh_fv_uR hf0, hw]) hdg hpc kk
theorem zg_recv (hK : va_K D classes (zh_tys dA) s) {H : Heap} (hI : zh_mI h0 D dA x H) {a ci : Nat} (ho : zh_oo x a ci) {q : vw_C} (hc : classes[ci]? = some q) : ∃ cell : Cell, H[h0 + a]? = some cell ∧ cell.vm.isStatics = false ∧ s.vm.findClass q.1 = some cell.cls := by
  have hat := hI.2 a ho.2
  rw [zh_obj ho] at hat
  exact va_recv hK (zh_one hat) hc (q0 := 0) rfl
theorem zg_iald (hexec : p.tables.exec = Jvm.exec) (hb : c.code = cc) (hK : va_K D classes (zh_tys dA) s) {a : Nat} {i : Int32} (ho : zh_oa x a 0 i) (hdg : decode cc pc = .ok (.iaload, 1)) (hpc : pc + 1 = pc')
    (kk : zg_G p l e R s m args below meth c Q h0 D dA nL c0 s0 z x pc' lv (.int (zh_I x a i.toNatClampNeg) :: st)) : zg_G p l e R s m args below meth c Q h0 D dA nL c0 s0 z x pc lv (.int i :: .ref (h0 + a) :: st) := by
  subst hpc
  refine ⟨kk.1, fun H locs ls k' j h1 h2 hI hS hl => ?_⟩
  have hat := hI.2 a ho.2.1
  rw [zh_ia ho.1] at hat
  exact va_iald hexec hb hK (zh_one hat) 0 0 rfl rfl (zh_in ho.2.2.1 ho.2.2.2) hdg (kk.2 H locs ls k' j h1 h2 hI hS hl)
theorem zg_lald (hexec : p.tables.exec = Jvm.exec) (hb : c.code = cc) (hK : va_K D classes (zh_tys dA) s) {a : Nat} {i : Int32} (ho : zh_oa x a 1 i) (hdg : decode cc pc = .ok (.laload, 1)) (hpc : pc + 1 = pc')
    (kk : zg_G p l e R s m args below meth c Q h0 D dA nL c0 s0 z x pc' lv (.long (zh_J x a i.toNatClampNeg) :: st)) : zg_G p l e R s m args below meth c Q h0 D dA nL c0 s0 z x pc lv (.int i :: .ref (h0 + a) :: st) := by
  subst hpc
  refine ⟨kk.1, fun H locs ls k' j h1 h2 hI hS hl => ?_⟩
  have hat := hI.2 a ho.2.1
  rw [zh_la ho.1] at hat
  exact va_lald hexec hb hK (zh_one hat) 0 1 rfl rfl (zh_in ho.2.2.1 ho.2.2.2) hdg (kk.2 H locs ls k' j h1 h2 hI hS hl)
theorem zg_aald (hexec : p.tables.exec = Jvm.exec) (hb : c.code = cc) (hK : va_K D classes (zh_tys dA) s) {a t t0 : Nat} {C : String} (ht : (zh_tys dA)[t0]? = some (dA (t + 3), .object C)) {i : Int32} (ho : zh_oa x a (t + 3) i) {b : Nat} (hr : zh_R x a i.toNatClampNeg = some b) (hdg : decode cc pc = .ok (.aaload, 1)) (hpc : pc + 1 = pc')
    (kk : zg_G p l e R s m args below meth c Q h0 D dA nL c0 s0 z x pc' lv (.ref (h0 + b) :: st)) : zg_G p l e R s m args below meth c Q h0 D dA nL c0 s0 z x pc lv (.int i :: .ref (h0 + a) :: st) := by
  subst hpc
  refine ⟨kk.1, fun H locs ls k' j h1 h2 hI hS hl => ?_⟩
  have hat := hI.2 a ho.2.1
  rw [zh_ra ho.1] at hat
  have e9 : va_rf ((zh_R x a i.toNatClampNeg).map (h0 + ·)) = .ref (h0 + b) := by rw [hr]; rfl
  refine va_aldq hexec hb hK (zh_one hat) 0 t0 rfl ht (zh_in ho.2.2.1 ho.2.2.2) hdg ?_
  show W p l e R s m args below meth c H locs k' j Q (F0 m (pc + 1) ls (va_rf ((zh_R x a i.toNatClampNeg).map (h0 + ·)) :: st))
  rw [e9]
  exact kk.2 H locs ls k' j h1 h2 hI hS hl
theorem zg_iast (hexec : p.tables.exec = Jvm.exec) (hb : c.code = cc) (hK : va_K D classes (zh_tys dA) s) {a : Nat} {i v : Int32} (ho : zh_oa x a 0 i) {y : zh_S} (hy : y = zh_uI x a i.toNatClampNeg v) (hdg : decode cc pc = .ok (.iastore, 1)) (hpc : pc + 1 = pc')
    (kk : zg_G p l e R s m args below meth c Q h0 D dA nL c0 s0 z y pc' lv st) : zg_G p l e R s m args below meth c Q h0 D dA nL c0 s0 z x pc lv (.int v :: .int i :: .ref (h0 + a) :: st) := by
  subst hpc; subst hy
  refine ⟨kk.1, fun H locs ls k' j h1 h2 hI hS hl => ?_⟩
  have hat := hI.2 a ho.2.1
  rw [zh_ia ho.1] at hat
  have hat : H[h0 + a]? = some (vp_cell (dA 0) ((zh_K x a).2, .inl (zh_I x a))) := hat
  refine W.iast hexec hb hat ((hK.2 0 _ rfl).1 (zh_K x a).2 (fun j => .int (zh_I x a j))) (fun q => by cases q) (by show ¬ (i < 0 ∨ (arrV _ _ _).slots.size ≤ _); rw [arrV_size]; exact zh_in ho.2.2.1 ho.2.2.2) rfl rfl hdg fun H1 e1 z1 oq => ?_
  refine kk.2 H1 _ ls k' j h1 h2 (zh_set hI z1 oq rfl (fun b hb => zh_ne_uI hb) ?_) (hS.put z1 oq (Nat.le_add_right h0 a)) hl
  rw [zh_ia (show (zh_K (zh_uI x a i.toNatClampNeg v) a).1 = 0 from ho.1)]
  show H1[h0 + a]? = some (vp_cell (dA 0) ((zh_K x a).2, .inl (zh_I (zh_uI x a i.toNatClampNeg v) a)))
  have e2 : zh_I (zh_uI x a i.toNatClampNeg v) a = va_up (zh_I x a) i.toNatClampNeg v := by show va_up x.1 a _ a = _; rw [va_up_self]; rfl
  rw [e1, e2, vp_cell_i, vp_cell_i, arrV_store]
  congr 2
  funext q
  by_cases hq : q = i.toNatClampNeg
  · subst hq; simp [updV, va_up]
  · simp [updV, va_up, hq]
theorem zg_last (hexec : p.tables.exec = Jvm.exec) (hb : c.code = cc) (hK : va_K D classes (zh_tys dA) s) {a : Nat} {i : Int32} {v : Int64} (ho : zh_oa x a 1 i) {y : zh_S} (hy : y = zh_uJ x a i.toNatClampNeg v) (hdg : decode cc pc = .ok (.lastore, 1)) (hpc : pc + 1 = pc')
    (kk : zg_G p l e R s m args below meth c Q h0 D dA nL c0 s0 z y pc' lv st) : zg_G p l e R s m args below meth c Q h0 D dA nL c0 s0 z x pc lv (.long v :: .int i :: .ref (h0 + a) :: st) := by
  subst hpc; subst hy
  refine ⟨kk.1, fun H locs ls k' j h1 h2 hI hS hl => ?_⟩
  have hat := hI.2 a ho.2.1
  rw [zh_la ho.1] at hat
  have hat : H[h0 + a]? = some (vp_cell (dA 1) ((zh_K x a).2, .inr (.inl (zh_J x a)))) := hat
  refine W.last hexec hb hat ((hK.2 1 _ rfl).1 (zh_K x a).2 (fun j => .long (zh_J x a j))) (fun q => by cases q) (by show ¬ (i < 0 ∨ (arrV _ _ _).slots.size ≤ _); rw [arrV_size]; exact zh_in ho.2.2.1 ho.2.2.2) rfl rfl hdg fun H1 e1 z1 oq => ?_
  refine kk.2 H1 _ ls k' j h1 h2 (zh_set hI z1 oq rfl (fun b hb => zh_ne_uJ hb) ?_) (hS.put z1 oq (Nat.le_add_right h0 a)) hl
  rw [zh_la (show (zh_K (zh_uJ x a i.toNatClampNeg v) a).1 = 1 from ho.1)]
  show H1[h0 + a]? = some (vp_cell (dA 1) ((zh_K x a).2, .inr (.inl (zh_J (zh_uJ x a i.toNatClampNeg v) a))))
  have e2 : zh_J (zh_uJ x a i.toNatClampNeg v) a = va_up (zh_J x a) i.toNatClampNeg v := by show va_up x.2.1 a _ a = _; rw [va_up_self]; rfl
  rw [e1, e2, vp_cell_l, vp_cell_l, arrV_store]
  congr 2
  funext q
  by_cases hq : q = i.toNatClampNeg
  · subst hq; simp [updV, va_up]
  · simp [updV, va_up, hq]
/-- an object's reference into an array of references -/
theorem zg_aast (hexec : p.tables.exec = Jvm.exec) (hb : c.code = cc) (hK : va_K D classes (zh_tys dA) s) {a t t0 b ci : Nat} {r : vw_C} (ht : (zh_tys dA)[t0]? = some (dA (t + 3), .object r.1)) {i : Int32} (ho : zh_oa x a (t + 3) i) (hv : zh_oo x b ci) (hc : classes[ci]? = some r) {y : zh_S} (hy : y = zh_uR x a i.toNatClampNeg (some b)) (hdg : decode cc pc = .ok (.aastore, 1)) (hpc : pc + 1 = pc')
    (kk : zg_G p l e R s m args below meth c Q h0 D dA nL c0 s0 z y pc' lv st) : zg_G p l e R s m args below meth c Q h0 D dA nL c0 s0 z x pc lv (.ref (h0 + b) :: .int i :: .ref (h0 + a) :: st) := by
  subst hpc; subst hy
  refine ⟨kk.1, fun H locs ls k' j h1 h2 hI hS hl => ?_⟩
  have hat := hI.2 a ho.2.1
  rw [zh_ra ho.1] at hat
  have hat : H[h0 + a]? = some (vp_cell (dA (t + 3)) ((zh_K x a).2, .inr (.inr (.inr (.inr (fun k => (zh_R x a k).map (h0 + ·))))))) := hat
  have hbt := hI.2 b hv.2
  rw [zh_obj hv] at hbt
  obtain ⟨r', hr', cellV, g1, g2, g3, -⟩ := hbt
  have hcls := (hK.1 ci r hc).2
  obtain ⟨kA, comp, k1, k2, k3, -⟩ := (hK.2 t0 _ ht).2
  have hcomp : comp = D.1 ci := Option.some.inj (k3.symm.trans hcls.1)
  subst hcomp
  obtain ⟨kC, hkC, -⟩ := hcls.2
  refine W.aast hexec hb hat (fun q h => by cases h) (fun h => by cases h) k1 k2 rfl hkC ⟨ho.2.2.1, by show _ < (arrV _ _ _).slots.size; rw [arrV_size]; exact ho.2.2.2⟩ g1 (fun q h => by rw [g3] at h; cases h) (by rw [g2]; exact hkC) (by rw [g2]; exact va_assign hcls) rfl rfl hdg fun H1 e1 z1 oq => ?_
  refine kk.2 H1 _ ls k' j h1 h2 (zh_set hI z1 oq rfl (fun b hb => zh_ne_uR hb) ?_) (hS.put z1 oq (Nat.le_add_right h0 a)) hl
  rw [zh_ra (show (zh_K (zh_uR x a i.toNatClampNeg (some b)) a).1 = t + 3 from ho.1)]
  show H1[h0 + a]? = some (vp_cell (dA (t + 3)) ((zh_K x a).2, .inr (.inr (.inr (.inr (fun k => (zh_R (zh_uR x a i.toNatClampNeg (some b)) a k).map (h0 + ·)))))))
  have e2 : zh_R (zh_uR x a i.toNatClampNeg (some b)) a = va_up (zh_R x a) i.toNatClampNeg (some b) := by show va_up x.2.2.1 a _ a = _; rw [va_up_self]; rfl
  rw [e1, e2, vp_cell_q, vp_cell_q, arrV_store]
  congr 2
  funext q
  by_cases hq : q = i.toNatClampNeg
  · subst hq; simp [updV, va_up, va_rf]
  · simp [updV, va_up, hq]
theorem zg_ralen (hexec : p.tables.exec = Jvm.exec) (hb : c.code = cc) (hK : va_K D classes (zh_tys dA) s) {a t t0 : Nat} {C : String} (ht : (zh_tys dA)[t0]? = some (dA (t + 3), .object C)) (ho : zh_ol x a (t + 3)) (hdg : decode cc pc = .ok (.arraylength, 1)) (hpc : pc + 1 = pc')
    (kk : zg_G p l e R s m args below meth c Q h0 D dA nL c0 s0 z x pc' lv (.int (Int32.ofNat (zh_K x a).2) :: st)) : zg_G p l e R s m args below meth c Q h0 D dA nL c0 s0 z x pc lv (.ref (h0 + a) :: st) := by
  subst hpc
  refine ⟨kk.1, fun H locs ls k' j h1 h2 hI hS hl => ?_⟩
  have hat := hI.2 a ho.2
  rw [zh_ra ho.1] at hat
  exact va_alen hexec hb hK (zh_one hat) 0 t0 rfl ht rfl hdg (kk.2 H locs ls k' j h1 h2 hI hS hl)
/-- the room at the end is the claim's -/
abbrev zg_R (R : Room) (c0 s0 : Nat) (z : zh_S) : Prop := zh_N z ≤ c0 + R.cells ∧ zh_M z ≤ s0 + R.slots
def zh_dv : Nat → Value
  | 0 => .int 0
  | 1 => .long 0
  | _ => .null
theorem zh_fv_new {h0 : Nat} {x : zh_S} {ci k sl : Nat} : zh_fv h0 (zh_new x (2, ci) sl) ci (zh_N x) k = zh_dv (zh_f ci k) := by
  have e1 : zh_I (zh_new x (2, ci) sl) (zh_N x) k = 0 := by show va_up x.1 (zh_N x) _ (zh_N x) k = 0; rw [va_up_self]
  have e2 : zh_J (zh_new x (2, ci) sl) (zh_N x) k = 0 := by show va_up x.2.1 (zh_N x) _ (zh_N x) k = 0; rw [va_up_self]
  have e3 : zh_R (zh_new x (2, ci) sl) (zh_N x) k = none := by show va_up x.2.2.1 (zh_N x) _ (zh_N x) k = none; rw [va_up_self]
  unfold zh_fv
  rw [e1, e2, e3]
  unfold zh_dv
  split <;> simp_all [va_rf]
theorem zh_ne_new {h0 : Nat} {dA : Nat → ClassId} {x : zh_S} {kd : Nat × Nat} {sl b : Nat} (h : b ≠ zh_N x) : zh_ce h0 dA (zh_new x kd sl) b = zh_ce h0 dA x b := by
  have e1 : zh_I (zh_new x kd sl) b = zh_I x b := by show va_up x.1 (zh_N x) _ b = x.1 b; rw [va_up_ne _ _ h]
  have e2 : zh_J (zh_new x kd sl) b = zh_J x b := by show va_up x.2.1 (zh_N x) _ b = x.2.1 b; rw [va_up_ne _ _ h]
  have e3 : zh_R (zh_new x kd sl) b = zh_R x b := by show va_up x.2.2.1 (zh_N x) _ b = x.2.2.1 b; rw [va_up_ne _ _ h]
  have e4 : zh_K (zh_new x kd sl) b = zh_K x b := by show va_up x.2.2.2.1 (zh_N x) _ b = x.2.2.2.1 b; rw [va_up_ne _ _ h]
  have f : ∀ ci, zh_fv h0 (zh_new x kd sl) ci b = zh_fv h0 x ci b := fun ci => by
    funext j; unfold zh_fv; rw [e1, e2, e3]
  unfold zh_ce
  rw [e1, e2, e3, e4]
  simp only [f]
theorem zh_K_new {x : zh_S} {kd : Nat × Nat} {sl : Nat} : zh_K (zh_new x kd sl) (zh_N x) = kd := by show va_up x.2.2.2.1 (zh_N x) kd (zh_N x) = kd; rw [va_up_self]
theorem zg_new (hexec : p.tables.exec = Jvm.exec) (hb : c.code = cc) {own C : String} {T : u_T} {N ci index : Nat} {Ts : List Cond} (hts : ∀ w ∈ Ts, w.before args s = true) (hin : ∀ w ∈ u_ws C T N, w ∈ Ts) (ty : Nat → FieldType) (hty : ∀ k, k < N → parseFieldDescriptor (T k).2.2.1 = some (ty k)) (hown : s.vm.findClass own = some m.cls) (hcl : (Cond.classLink own index C).before args s = true) (hinst : (Cond.instantiable C N).before args s = true) (hini : (Cond.initialized C).before args s = true)
    (hK : va_K D classes (zh_tys dA) s) (hc : classes[ci]? = some (C, T, N)) (hn : zh_n ci = N) (hdef : ∀ j, j < N → defaultValue (ty j) = zh_dv (zh_f ci j)) (hR : zg_R R c0 s0 z) {y : zh_S} (hy : y = zh_new x (2, ci) N) {b : Nat} (hbn : b = zh_N x) (hdg : decode cc pc = .ok (.new index, 3)) (hpc : pc + 3 = pc')
    (kk : zg_G p l e R s m args below meth c Q h0 D dA nL c0 s0 z y pc' lv (.ref (h0 + b) :: st)) : zg_G p l e R s m args below meth c Q h0 D dA nL c0 s0 z x pc lv st := by
  subst hpc; subst hy; subst hbn
  have m1 : zh_N x + 1 ≤ zh_N z := kk.1.1
  have m2 : zh_M x + N ≤ zh_M z := kk.1.2
  refine ⟨⟨by omega, by omega⟩, fun H locs ls k' j h1 h2 hI hS hl => ?_⟩
  have hKn := hK.1 ci _ hc
  have r1 := hR.1
  have r2 := hR.2
  refine W.newcK hexec hb hown hcl hinst hini rfl hdg (by omega) (by omega) hKn.2.1 hI.1 fun H1 kC hkC e1 z1 o1 => ?_
  refine kk.2 H1 locs ls (k' + 1) (j + N) (by show zh_N x + 1 = _; omega) (by show zh_M x + N = _; omega) (zh_push hI (by rw [z1, hI.1]) (fun q hq => o1 q (by rw [← hI.1]; exact hq)) rfl (fun b hb => zh_ne_new hb) ?_) ⟨by rw [z1]; have := hS.1; rw [hI.1] at this; omega, fun q g1 g2 => (o1 q (by have := hS.1; rw [hI.1] at this; omega)).trans (hS.2.1 q g1 g2), hS.2.2⟩ hl
  rw [zh_obj (show zh_oo (zh_new x (2, ci) N) (zh_N x) ci from ⟨zh_K_new, Nat.lt_succ_self _⟩), hI.1]
  refine ⟨_, hc, (u_born ty hts hin hKn hkC e1 hty).to (fun q hq => ?_)⟩
  rw [hdef q hq, ← zh_fv_new (h0 := h0) (x := x) (sl := N)]
  have hq' : q < zh_n ci := by rw [hn]; exact hq
  simp [vp_V, hq']
end ZG
