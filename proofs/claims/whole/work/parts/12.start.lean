/-! THE CLAIM OUT OF ONE WALK OF THE LAW'S BODY. Your part is whole_start (and what it stands on); all else here is the same for every law, but numbers. -/
def R_law : String := "CertificateVaultLaw"
def lw_P (b : Addr) (xs : List Int32) (args : Array Value) (s : State) : Prop := args = #[.ref b] ∧ s.IntsAt b xs ∧ xs.length ≤ 4096 ∧ (Jvm.Cond.and given_1 narrow_1).before args s = true
def lw_Q (_ : Array Value) (s : State) (o : Outcome) (t : State) : Prop := o = .returned (some (.int 1)) ∧ Framed s o t [] 600000 7302250
def lw_Z (below : List Frame) (a : Array Value) (s : State) : State → Prop := fun t => ∃ o, t.status = .running ∧ Ended t below o ∧ lw_Q a s o t
/-- the law's own end, with 1 on the stack, nothing written that was there before, its room as the claim has it -/
theorem lw_ret {p : Program} {l : Launch} {e : Env} {s : State} {m : MethodId} {below : List Frame} {meth : Method} {c : Code} {b : Nat} (hx : p.tables.exec = Jvm.exec) (hb : c.code = code) (hr : meth.sig.returnType = ret) (hlocks : meth.locks = false) {pc : Nat} {H : Heap} {ls : Array Slot} (hdg : decode code pc = .ok (.ireturn, 1)) : W p l e room_1 s m #[Value.ref b] below meth c H [] 600000 7302250 (lw_Z below #[Value.ref b] s) (F0 m pc ls [.int 1]) := by
  intro T hT X
  obtain ⟨fs, hret, hrun, hended, hW, hframe⟩ := X.leave (v := some (.int 1)) (hlocks := hlocks) (fun h => by rw [hr] at h; cases h)
  have hmeth' : T.vm.method? m = some meth := X.method'
  refine ⟨T.setFrames fs, ?_, .returned (some (.int 1)), hrun, hended, rfl, ⟨_, rfl⟩, hW, hframe⟩
  jvm_step X.here [X.here.top, hx, hb, hdg, hmeth', hr, ret, narrow_b1]
  (try refine ⟨rfl, ?_⟩); (try refine ⟨rfl, ?_⟩)
  first | (intro acts; rw [hret _ acts rfl rfl rfl]) | rw [hret _ _ rfl rfl rfl]
  exact Steps.refl _
/-- what holds at the law's entry: the machine, the code, the tables' words (any of lw_tbl by 'hts w (by decide +kernel)'), the script of L ints xs at the cell b, what the Statement gives of the start (any of its parts by flat_of_before) -/
def lw_At (p : Program) (s : State) (m : MethodId) (meth : Method) (c : Code) (b L : Nat) (xs : Nat → Int32) : Prop :=
  p.tables.exec = Jvm.exec ∧ c.code = code ∧ meth.sig.returnType = ret ∧ c.maxLocals = 4 ∧ s.vm.findClass R_law = some m.cls ∧ (∀ w ∈ lw_tbl, w.before #[Value.ref b] s = true) ∧ va_X b L xs s s.heap ∧ b < s.heap.size ∧ meth.locks = false ∧ (Jvm.Cond.and given_1 narrow_1).before #[Value.ref b] s = true
def zh_0 : zh_S := (fun _ _ => 0, fun _ _ => 0, fun _ _ => none, fun _ => (0, 0), 0, 0)
theorem zz_six {p : Nat → Prop} (h0 : p 0) (h1 : p 1) (h2 : p 2) (h3 : p 3) (h4 : p 4) (h5 : p 5) : ∀ j : Nat, j < 6 → p j := by
  intro j hj
  rcases (show j = 0 ∨ j = 1 ∨ j = 2 ∨ j = 3 ∨ j = 4 ∨ j = 5 by omega) with rfl | rfl | rfl | rfl | rfl | rfl <;> assumption
theorem zz_arr {s : State} {cA : ClassId} {ty : FieldType} {kA : Class} {comp : ClassId} (h2 : s.vm.classes[cA]? = some kA) (h3 : kA.kind = .array comp ty) : ArrOfT s cA ty := fun n z => ⟨fun k h => (by cases h), kA, h2, comp, h3⟩
set_option maxHeartbeats 4000000 in
theorem zz_start {p : Program} {e : Env} {s : State} {m : MethodId} {below : List Frame} {meth : Method} {c : Code} (l : Launch) {b L : Nat} {xs : Nat → Int32} (C0 : lw_At p s m meth c b L xs) (n : Nat) (hp : ∃ z, zf_L_law n xs L zh_0 = some (1, z) ∧ zh_N z ≤ 600000 ∧ zh_M z ≤ 7302250) : W p l e room_1 s m #[Value.ref b] below meth c s.heap [] 0 0 (lw_Z below #[Value.ref b] s) (entryFrame m ([Value.ref b] : List Value).toArray 4) := by
  obtain ⟨hx, hb, hr, hml, hown, hts, hX, hbl, hlk, hgv⟩ := C0
  obtain ⟨z, hz, hzN, hzM⟩ := hp
  have hs := flat_of_before _ hgv
  have hT : ∀ w ∈ zw_T, w.before #[Value.ref b] s = true := fun w h => hts w (List.mem_filter.mp h).1
  obtain ⟨c0, i0, k0⟩ := u_known hT zi_Certificate (hT _ zt_136)
  obtain ⟨c1, i1, k1⟩ := u_known hT zi_Draft (hT _ zt_86)
  obtain ⟨c2, i2, k2⟩ := u_known hT zi_Reader (hT _ zt_491)
  obtain ⟨c3, i3, k3⟩ := u_known hT zi_RevokedList (hT _ zt_257)
  obtain ⟨c4, i4, k4⟩ := u_known hT zi_Search (hT _ zt_650)
  obtain ⟨c5, i5, k5⟩ := u_known hT zi_Shelf (hT _ zt_127)
  obtain ⟨c6, i6, k6⟩ := u_known hT zi_Tool (hT _ zt_105)
  obtain ⟨c7, i7, k7⟩ := u_known hT zi_V (hT _ zt_78)
  obtain ⟨c8, i8, k8⟩ := u_known hT zi_M (hT _ zt_780)
  obtain ⟨cI, kI, pI, f1, f2, f3⟩ := Cond.arrayClass_spec (hT _ zt_103)
  obtain ⟨cJ, kJ, pJ, g1, g2, g3⟩ := Cond.arrayClass_spec (hT _ zt_125)
  have hoC : (Cond.arrayOver (.object zr_Certificate)).before #[Value.ref b] s = true := hts _ (List.mem_of_getElem? (i := 133) (by decide +kernel))
  have hoR : (Cond.arrayOver (.object zr_RevokedList)).before #[Value.ref b] s = true := hts _ (List.mem_of_getElem? (i := 135) (by decide +kernel))
  obtain ⟨pC, cC, kC, q1, q2, q3, q4, q5⟩ := Cond.arrayOver_spec hoC
  obtain ⟨pR, cR, kR, r1, r2, r3, r4, r5⟩ := Cond.arrayOver_spec hoR
  have hK : va_K (fun q => [c0, c1, c2, c3, c4, c5, c6, c7, c8].getD q c0, fun q => [i0, i1, i2, i3, i4, i5, i6, i7, i8].getD q i0) classes (zh_tys (fun q => [cI, cJ, cI, cC, cR].getD q cI)) s := by
    refine ⟨fun c q hq => ?_, fun k q hk => ?_⟩
    · rcases c with _ | _ | _ | _ | _ | _ | _ | _ | _ | c
      · obtain rfl := Option.some.inj hq; exact k0
      · obtain rfl := Option.some.inj hq; exact k1
      · obtain rfl := Option.some.inj hq; exact k2
      · obtain rfl := Option.some.inj hq; exact k3
      · obtain rfl := Option.some.inj hq; exact k4
      · obtain rfl := Option.some.inj hq; exact k5
      · obtain rfl := Option.some.inj hq; exact k6
      · obtain rfl := Option.some.inj hq; exact k7
      · obtain rfl := Option.some.inj hq; exact k8
      · cases hq
    · rcases k with _ | _ | _ | _ | k
      · obtain rfl := Option.some.inj hk; exact ⟨zz_arr f2 f3, f1⟩
      · obtain rfl := Option.some.inj hk; exact ⟨zz_arr g2 g3, g1⟩
      · obtain rfl := Option.some.inj hk; exact ⟨zz_arr q3 q4, kC, pC, q3, q4, q1, q5⟩
      · obtain rfl := Option.some.inj hk; exact ⟨zz_arr r3 r4, kR, pR, r3, r4, r1, r5⟩
      · cases hk
  have hA : ∀ a : Nat, a < s.heap.size → ¬ (fun q => s.heap.size ≤ q) a := fun a h g => Nat.not_lt.mpr g h
  have hN : (Cond.initialized "CertificateVault$Numbers").before #[Value.ref b] s = true := hts _ (List.mem_of_getElem? (i := 73) (by decide +kernel))
  obtain ⟨t0, e0, T0⟩ := va_Tof (s := s) (args := #[Value.ref b]) (tm := .static "CertificateVault$Numbers" "MODULI" "[J") (ty := .long) (N := 6) (f := fun j => .long (zt_MODULI j)) (A := fun q => s.heap.size ≤ q) (by decide) (hs _ (by decide +kernel)) (va_eqt (hs (.eq (.length (.static "CertificateVault$Numbers" "MODULI" "[J")) (.int 6)) (by decide +kernel)))
    (zz_six (va_eqtl (hs (.eq (.elem (.static "CertificateVault$Numbers" "MODULI" "[J") (.int 0)) (.long 1200000049400000287)) (by decide +kernel))) (va_eqtl (hs (.eq (.elem (.static "CertificateVault$Numbers" "MODULI" "[J") (.int 1)) (.long 1430000491000037023)) (by decide +kernel))) (va_eqtl (hs (.eq (.elem (.static "CertificateVault$Numbers" "MODULI" "[J") (.int 2)) (.long 1536351190290809371)) (by decide +kernel))) (va_eqtl (hs (.eq (.elem (.static "CertificateVault$Numbers" "MODULI" "[J") (.int 3)) (.long 1728395075795061493)) (by decide +kernel))) (va_eqtl (hs (.eq (.elem (.static "CertificateVault$Numbers" "MODULI" "[J") (.int 4)) (.long 1697785988597898509)) (by decide +kernel))) (va_eqtl (hs (.eq (.elem (.static "CertificateVault$Numbers" "MODULI" "[J") (.int 5)) (.long 1597490175708938519)) (by decide +kernel)))) hA
  obtain ⟨t1, e1, T1⟩ := va_Tof (s := s) (args := #[Value.ref b]) (tm := .static "CertificateVault$Numbers" "EXPONENTS" "[J") (ty := .long) (N := 6) (f := fun j => .long (zt_EXPONENTS j)) (A := fun q => s.heap.size ≤ q) (by decide) (hs _ (by decide +kernel)) (va_eqt (hs (.eq (.length (.static "CertificateVault$Numbers" "EXPONENTS" "[J")) (.int 6)) (by decide +kernel)))
    (zz_six (va_eqtl (hs (.eq (.elem (.static "CertificateVault$Numbers" "EXPONENTS" "[J") (.int 0)) (.long 3)) (by decide +kernel))) (va_eqtl (hs (.eq (.elem (.static "CertificateVault$Numbers" "EXPONENTS" "[J") (.int 1)) (.long 17)) (by decide +kernel))) (va_eqtl (hs (.eq (.elem (.static "CertificateVault$Numbers" "EXPONENTS" "[J") (.int 2)) (.long 257)) (by decide +kernel))) (va_eqtl (hs (.eq (.elem (.static "CertificateVault$Numbers" "EXPONENTS" "[J") (.int 3)) (.long 65537)) (by decide +kernel))) (va_eqtl (hs (.eq (.elem (.static "CertificateVault$Numbers" "EXPONENTS" "[J") (.int 4)) (.long 5)) (by decide +kernel))) (va_eqtl (hs (.eq (.elem (.static "CertificateVault$Numbers" "EXPONENTS" "[J") (.int 5)) (.long 11)) (by decide +kernel)))) hA
  obtain ⟨t2, e2, T2⟩ := va_Tof (s := s) (args := #[Value.ref b]) (tm := .static "CertificateVault$Numbers" "PRIVATE_EXPONENTS" "[J") (ty := .long) (N := 6) (f := fun j => .long (zt_PRIVATE_EXPONENTS j)) (A := fun q => s.heap.size ≤ q) (by decide) (hs _ (by decide +kernel)) (va_eqt (hs (.eq (.length (.static "CertificateVault$Numbers" "PRIVATE_EXPONENTS" "[J")) (.int 6)) (by decide +kernel)))
    (zz_six (va_eqtl (hs (.eq (.elem (.static "CertificateVault$Numbers" "PRIVATE_EXPONENTS" "[J") (.int 0)) (.long 800000031466666827)) (by decide +kernel))) (va_eqtl (hs (.eq (.elem (.static "CertificateVault$Numbers" "PRIVATE_EXPONENTS" "[J") (.int 1)) (.long 84117675800002153)) (by decide +kernel))) (va_eqtl (hs (.eq (.elem (.static "CertificateVault$Numbers" "PRIVATE_EXPONENTS" "[J") (.int 2)) (.long 579867958021467505)) (by decide +kernel))) (va_eqtl (hs (.eq (.elem (.static "CertificateVault$Numbers" "PRIVATE_EXPONENTS" "[J") (.int 3)) (.long 1604812069470515813)) (by decide +kernel))) (va_eqtl (hs (.eq (.elem (.static "CertificateVault$Numbers" "PRIVATE_EXPONENTS" "[J") (.int 4)) (.long 339557197186246361)) (by decide +kernel))) (va_eqtl (hs (.eq (.elem (.static "CertificateVault$Numbers" "PRIVATE_EXPONENTS" "[J") (.int 5)) (.long 1161811034953791779)) (by decide +kernel)))) hA
  have Z0 := va_Zof (hts (.laysStatic "CertificateVault$Numbers" "MODULI" "[J") (List.mem_of_getElem? (i := 369) (by decide +kernel))) hN e0 hA
  have Z1 := va_Zof (hts (.laysStatic "CertificateVault$Numbers" "EXPONENTS" "[J") (List.mem_of_getElem? (i := 415) (by decide +kernel))) hN e1 hA
  have Z2 := va_Zof (hts (.laysStatic "CertificateVault$Numbers" "PRIVATE_EXPONENTS" "[J") (List.mem_of_getElem? (i := 467) (by decide +kernel))) hN e2 hA
  have hSt : zh_St s.heap.size (fun q => [t0, t1, t2].getD q t0) s s.heap := ⟨⟨Z0, T0⟩, ⟨Z1, T1⟩, ⟨Z2, T2⟩⟩
  have hNe : zh_Ne s := ⟨⟨va_Nw.of rfl (hts _ (List.mem_of_getElem? (i := 87) (by decide +kernel))), va_Nw.of rfl (hts _ (List.mem_of_getElem? (i := 106) (by decide +kernel))), va_Nw.of rfl (hts _ (List.mem_of_getElem? (i := 140) (by decide +kernel))), va_Nw.of rfl (hts _ (List.mem_of_getElem? (i := 261) (by decide +kernel))), va_Nw.of rfl (hts _ (List.mem_of_getElem? (i := 137) (by decide +kernel))), va_Nw.of rfl (hts _ (List.mem_of_getElem? (i := 258) (by decide +kernel)))⟩, va_AO.of hoC, va_AO.of hoR⟩
  have hmI : zh_mI s.heap.size (fun q => [c0, c1, c2, c3, c4, c5, c6, c7, c8].getD q c0, fun q => [i0, i1, i2, i3, i4, i5, i6, i7, i8].getD q i0) (fun q => [cI, cJ, cI, cC, cR].getD q cI) zh_0 s.heap := ⟨rfl, fun a ha => absurd ha (Nat.not_lt_zero a)⟩
  have X : zg_X p s m #[Value.ref b] meth c ze_L_law 4 zr_L (some .boolean) s.heap.size (fun q => [c0, c1, c2, c3, c4, c5, c6, c7, c8].getD q c0, fun q => [i0, i1, i2, i3, i4, i5, i6, i7, i8].getD q i0) (fun q => [cI, cJ, cI, cC, cR].getD q cI) (fun q => [t0, t1, t2].getD q t0) := ⟨hx, hb, hml, hown, hT, hr, hlk, zh_0, hmI, hK, hSt, hNe⟩
  have hR : zg_R room_1 0 0 z := ⟨by show zh_N z ≤ 0 + 600000; omega, by show zh_M z ≤ 0 + 7302250; omega⟩
  have hret := fun (_ : (1 : Int32) = 0 ∨ (1 : Int32) = 1) (pc : Nat) (lv : List (Nat × Value)) (hd : decode ze_L_law pc = .ok (.ireturn, 1)) =>
    (show zg_G p l e room_1 s m #[Value.ref b] below meth c (lw_Z below #[Value.ref b] s) s.heap.size (fun q => [c0, c1, c2, c3, c4, c5, c6, c7, c8].getD q c0, fun q => [i0, i1, i2, i3, i4, i5, i6, i7, i8].getD q i0) (fun q => [cI, cJ, cI, cC, cR].getD q cI) 4 0 0 z z pc lv [.int 1] from
      ⟨⟨Nat.le_refl _, Nat.le_refl _⟩, fun H locs ls k j h1 h2 hI hS hl => va_forget (fun q hq => hS.2.2 q hq) (W.widen (k := 600000) (n := 7302250) (by omega) (by omega) (lw_ret hx hb hr hlk hd))⟩)
  have hl := lv_entry [Value.ref b] (n := 4) (Nat.le_of_ble_eq_true rfl)
  rw [lg_entry_eq]
  exact (zw_L_law X hR ⟨by decide, by decide⟩ hret n xs L hX hbl (hA b hbl) zh_0 hz).2 s.heap [] _ 0 0 rfl rfl hmI va_S.rf hl
