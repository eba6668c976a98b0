/-! New arrays, arraycopy, contracts, calls, ends. -/
section ZN
variable {p : Program} {l : Launch} {e : Env} {R : Room} {s : State} {m : MethodId} {args : Array Value} {below : List Frame} {meth : Method} {c : Code} {Q : State → Prop} {h0 : Nat} {D : va_G} {dA : Nat → ClassId} {nL c0 s0 : Nat} {z x : zh_S} {pc pc' : Nat} {lv : List (Nat × Value)} {st : List Value} {cc : ByteArray}
theorem zg_newi (hexec : p.tables.exec = Jvm.exec) (hb : c.code = cc) (harr : (Cond.arrayClass .int).before args s = true) (hK : va_K D classes (zh_tys dA) s) (hR : zg_R R c0 s0 z) {i : Int32} (ho : ¬ i < 0 ∧ i.toNatClampNeg ≤ 1000) {y : zh_S} (hy : y = zh_new x (0, i.toNatClampNeg) i.toNatClampNeg) {b : Nat} (hbn : b = zh_N x) (hdg : decode cc pc = .ok (.newarray .int, 2)) (hpc : pc + 2 = pc')
    (kk : zg_G p l e R s m args below meth c Q h0 D dA nL c0 s0 z y pc' lv (.ref (h0 + b) :: st)) : zg_G p l e R s m args below meth c Q h0 D dA nL c0 s0 z x pc lv (.int i :: st) := by
  subst hpc; subst hy; subst hbn
  have m1 : zh_N x + 1 ≤ zh_N z := kk.1.1
  have m2 : zh_M x + i.toNatClampNeg ≤ zh_M z := kk.1.2
  have r1 := hR.1
  have r2 := hR.2
  have o2 := ho.2
  refine ⟨⟨by omega, by omega⟩, fun H locs ls k' j h1 h2 hI hS hl => ?_⟩
  refine va_newaK (atype := .int) hexec hb harr rfl hdg rfl ho.1 rfl (by show i.toNatClampNeg * 4 ≤ _; omega) (by omega) (by omega) hI.1 fun H1 cA e1 z1 o1 _ hNm => ?_
  have hcA : cA = dA 0 := Option.some.inj (hNm.symm.trans (hK.2 0 _ rfl).2)
  subst hcA
  refine kk.2 H1 locs ls (k' + 1) (j + i.toNatClampNeg) (by show zh_N x + 1 = _; omega) (by show zh_M x + i.toNatClampNeg = _; omega) (zh_push hI (by rw [z1, hI.1]) (fun q hq => o1 q (by rw [← hI.1]; exact hq)) rfl (fun b hb => zh_ne_new hb) ?_) ⟨by rw [z1]; have := hS.1; rw [hI.1] at this; omega, fun q g1 g2 => (o1 q (by have := hS.1; rw [hI.1] at this; omega)).trans (hS.2.1 q g1 g2), hS.2.2⟩ hl
  have eI : zh_I (zh_new x (0, i.toNatClampNeg) i.toNatClampNeg) (zh_N x) = fun _ => 0 := by show va_up x.1 (zh_N x) _ (zh_N x) = _; rw [va_up_self]
  rw [zh_ia (by rw [zh_K_new]), eI, zh_K_new, hI.1]
  exact e1
theorem zg_newl (hexec : p.tables.exec = Jvm.exec) (hb : c.code = cc) (harr : (Cond.arrayClass .long).before args s = true) (hK : va_K D classes (zh_tys dA) s) (hR : zg_R R c0 s0 z) {i : Int32} (ho : ¬ i < 0 ∧ i.toNatClampNeg ≤ 1000) {y : zh_S} (hy : y = zh_new x (1, i.toNatClampNeg) i.toNatClampNeg) {b : Nat} (hbn : b = zh_N x) (hdg : decode cc pc = .ok (.newarray .long, 2)) (hpc : pc + 2 = pc')
    (kk : zg_G p l e R s m args below meth c Q h0 D dA nL c0 s0 z y pc' lv (.ref (h0 + b) :: st)) : zg_G p l e R s m args below meth c Q h0 D dA nL c0 s0 z x pc lv (.int i :: st) := by
  subst hpc; subst hy; subst hbn
  have m1 : zh_N x + 1 ≤ zh_N z := kk.1.1
  have m2 : zh_M x + i.toNatClampNeg ≤ zh_M z := kk.1.2
  have r1 := hR.1
  have r2 := hR.2
  have o2 := ho.2
  refine ⟨⟨by omega, by omega⟩, fun H locs ls k' j h1 h2 hI hS hl => ?_⟩
  refine va_newaK (atype := .long) hexec hb harr rfl hdg rfl ho.1 rfl (by show i.toNatClampNeg * 8 ≤ _; omega) (by omega) (by omega) hI.1 fun H1 cA e1 z1 o1 _ hNm => ?_
  have hcA : cA = dA 1 := Option.some.inj (hNm.symm.trans (hK.2 1 _ rfl).2)
  subst hcA
  refine kk.2 H1 locs ls (k' + 1) (j + i.toNatClampNeg) (by show zh_N x + 1 = _; omega) (by show zh_M x + i.toNatClampNeg = _; omega) (zh_push hI (by rw [z1, hI.1]) (fun q hq => o1 q (by rw [← hI.1]; exact hq)) rfl (fun b hb => zh_ne_new hb) ?_) ⟨by rw [z1]; have := hS.1; rw [hI.1] at this; omega, fun q g1 g2 => (o1 q (by have := hS.1; rw [hI.1] at this; omega)).trans (hS.2.1 q g1 g2), hS.2.2⟩ hl
  have eI : zh_J (zh_new x (1, i.toNatClampNeg) i.toNatClampNeg) (zh_N x) = fun _ => 0 := by show va_up x.2.1 (zh_N x) _ (zh_N x) = _; rw [va_up_self]
  rw [zh_la (by rw [zh_K_new]), eI, zh_K_new, hI.1]
  exact e1
theorem zg_newr (hexec : p.tables.exec = Jvm.exec) (hb : c.code = cc) {own C : String} {index t t0 : Nat} (hown : s.vm.findClass own = some m.cls) (hclink : (Cond.classLink own index C).before args s = true) (hover : va_AO C s) (hK : va_K D classes (zh_tys dA) s) (ht : (zh_tys dA)[t0]? = some (dA (t + 3), .object C)) (hR : zg_R R c0 s0 z) {i : Int32} (ho : ¬ i < 0 ∧ i.toNatClampNeg ≤ 1000) {y : zh_S} (hy : y = zh_new x (t + 3, i.toNatClampNeg) i.toNatClampNeg) {b : Nat} (hbn : b = zh_N x) (hdg : decode cc pc = .ok (.anewarray index, 3)) (hpc : pc + 3 = pc')
    (kk : zg_G p l e R s m args below meth c Q h0 D dA nL c0 s0 z y pc' lv (.ref (h0 + b) :: st)) : zg_G p l e R s m args below meth c Q h0 D dA nL c0 s0 z x pc lv (.int i :: st) := by
  subst hpc; subst hy; subst hbn
  have m1 : zh_N x + 1 ≤ zh_N z := kk.1.1
  have m2 : zh_M x + i.toNatClampNeg ≤ zh_M z := kk.1.2
  have r1 := hR.1
  have r2 := hR.2
  have o2 := ho.2
  refine ⟨⟨by omega, by omega⟩, fun H locs ls k' j h1 h2 hI hS hl => ?_⟩
  refine W.anew hexec hb hown hclink (va_AO.use hover) rfl hdg rfl ho.1 (by omega) (by omega) (by omega) fun cA kA comp f1 f2 f3 f4 => ?_
  obtain ⟨kA', comp', -, -, -, hfc⟩ := (hK.2 t0 _ ht).2
  have hcA : cA = dA (t + 3) := Option.some.inj (f1.symm.trans hfc)
  subst hcA
  generalize hH1 : H.push ({ cls := dA (t + 3), slots := Array.replicate i.toNatClampNeg .null, vm := .none } : Cell) = H1
  have z1 : H1.size = H.size + 1 := by rw [← hH1, Array.size_push]
  have e1 : H1[H.size]? = some (arrV (dA (t + 3)) i.toNatClampNeg (fun _ => .null)) := by rw [← hH1, Array.getElem?_push_size, ← arrV_new]
  have o1 : ∀ q : Nat, q < H.size → H1[q]? = H[q]? := fun q hq => by rw [← hH1, Array.getElem?_push, if_neg (Nat.ne_of_lt hq)]
  show W p l e R s m args below meth c H1 locs (k' + 1) (j + i.toNatClampNeg) Q (F0 m (pc + 3) ls (.ref H.size :: st))
  rw [hI.1]
  refine kk.2 H1 locs ls (k' + 1) (j + i.toNatClampNeg) (by show zh_N x + 1 = _; omega) (by show zh_M x + i.toNatClampNeg = _; omega) (zh_push hI z1 o1 rfl (fun b hb => zh_ne_new hb) ?_) ⟨by rw [z1]; have := hS.1; omega, fun q g1 g2 => (o1 q (by have := hS.1; omega)).trans (hS.2.1 q g1 g2), hS.2.2⟩ hl
  have eI : zh_R (zh_new x (t + 3, i.toNatClampNeg) i.toNatClampNeg) (zh_N x) = fun _ => none := by show va_up x.2.2.1 (zh_N x) _ (zh_N x) = _; rw [va_up_self]
  rw [zh_ra (t := t) (by rw [zh_K_new]), eI, zh_K_new]
  exact e1
end ZN
/-- what stands of the tables of Numbers (they lie below h0, nobody writes them) -/
def zh_St (h0 : Nat) (tb : Nat → Nat) (U : State) (H : Heap) : Prop :=
  (va_Z zr_Numbers "MODULI" "[J" (.ref (tb 0)) (fun q => h0 ≤ q) U H ∧ va_T .long (tb 0) 6 (fun j => .long (zt_MODULI j)) (fun q => h0 ≤ q) U H) ∧
  (va_Z zr_Numbers "EXPONENTS" "[J" (.ref (tb 1)) (fun q => h0 ≤ q) U H ∧ va_T .long (tb 1) 6 (fun j => .long (zt_EXPONENTS j)) (fun q => h0 ≤ q) U H) ∧
  (va_Z zr_Numbers "PRIVATE_EXPONENTS" "[J" (.ref (tb 2)) (fun q => h0 ≤ q) U H ∧ va_T .long (tb 2) 6 (fun j => .long (zt_PRIVATE_EXPONENTS j)) (fun q => h0 ≤ q) U H)
theorem zh_St.moved {h0 : Nat} {tb : Nat → Nat} {u U : State} {H : Heap} (hvm : u.vm.Alike U.vm) (h : zh_St h0 tb u H) : zh_St h0 tb U H :=
  ⟨⟨h.1.1.moved hvm, h.1.2.moved hvm⟩, ⟨h.2.1.1.moved hvm, h.2.1.2.moved hvm⟩, ⟨h.2.2.1.moved hvm, h.2.2.2.moved hvm⟩⟩
theorem zh_St.kept {h0 : Nat} {tb : Nat → Nat} {U : State} {H H1 : Heap} (h : zh_St h0 tb U H) (hq : ∀ a : Nat, a < H.size → ¬ h0 ≤ a → H1[a]? = H[a]?) : zh_St h0 tb U H1 :=
  ⟨⟨h.1.1.kept hq, h.1.2.kept hq⟩, ⟨h.2.1.1.kept hq, h.2.1.2.kept hq⟩, ⟨h.2.2.1.kept hq, h.2.2.2.kept hq⟩⟩
/-- the nest mates' links and the classes of arrays -/
def zh_Ne (U : State) : Prop := (va_Nw (.methodLinkNest zr_V 9 zn_Draft_init "CertificateVault") U ∧ va_Nw (.methodLinkNest zr_V 18 zn_Tool_init "CertificateVault") U ∧ va_Nw (.methodLinkNest zr_Certificate 3 zn_Signed_init "CertificateVault") U ∧ va_Nw (.methodLinkNest zr_RevokedList 3 zn_Signed_init "CertificateVault") U ∧ va_Nw (.methodLinkNest zr_Shelf 30 zn_Certificate_init "CertificateVault") U ∧ va_Nw (.methodLinkNest zr_Shelf 31 zn_RevokedList_init "CertificateVault") U) ∧ va_AO zr_Certificate U ∧ va_AO zr_RevokedList U
theorem zh_ne0 {U : State} (h : zh_Ne U) : va_Nw (.methodLinkNest zr_V 9 zn_Draft_init "CertificateVault") U := h.1.1
theorem zh_ne1 {U : State} (h : zh_Ne U) : va_Nw (.methodLinkNest zr_V 18 zn_Tool_init "CertificateVault") U := h.1.2.1
theorem zh_ne2 {U : State} (h : zh_Ne U) : va_Nw (.methodLinkNest zr_Certificate 3 zn_Signed_init "CertificateVault") U := h.1.2.2.1
theorem zh_ne3 {U : State} (h : zh_Ne U) : va_Nw (.methodLinkNest zr_RevokedList 3 zn_Signed_init "CertificateVault") U := h.1.2.2.2.1
theorem zh_ne4 {U : State} (h : zh_Ne U) : va_Nw (.methodLinkNest zr_Shelf 30 zn_Certificate_init "CertificateVault") U := h.1.2.2.2.2.1
theorem zh_ne5 {U : State} (h : zh_Ne U) : va_Nw (.methodLinkNest zr_Shelf 31 zn_RevokedList_init "CertificateVault") U := h.1.2.2.2.2.2
theorem zh_Ne_warm {s U : State} (hW : s.WarmedH U.vm) (h : zh_Ne s) : zh_Ne U :=
  ⟨⟨h.1.1.warmM hW, h.1.2.1.warmM hW, h.1.2.2.1.warmM hW, h.1.2.2.2.1.warmM hW, h.1.2.2.2.2.1.warmM hW, h.1.2.2.2.2.2.warmM hW⟩, h.2.1.moved hW.alike, h.2.2.moved hW.alike⟩
theorem zh_Ne_same {s U : State} (e : s.vm = U.vm) (h : zh_Ne s) : zh_Ne U :=
  ⟨⟨h.1.1.same rfl e, h.1.2.1.same rfl e, h.1.2.2.1.same rfl e, h.1.2.2.2.1.same rfl e, h.1.2.2.2.2.1.same rfl e, h.1.2.2.2.2.2.same rfl e⟩, h.2.1.moved (by rw [e]; exact Vm.Alike.refl _), h.2.2.moved (by rw [e]; exact Vm.Alike.refl _)⟩
/-- what every method finds, and leaves -/
def zh_In (h0 : Nat) (D : va_G) (dA : Nat → ClassId) (tb : Nat → Nat) (x : zh_S) (U : State) : Prop :=
  zh_mI h0 D dA x U.heap ∧ va_K D classes (zh_tys dA) U ∧ zh_St h0 tb U U.heap ∧ zh_Ne U
theorem zh_In.go {h0 : Nat} {D : va_G} {dA : Nat → ClassId} {tb : Nat → Nat} {x y : zh_S} {s t : State} (h : zh_In h0 D dA tb x s) (hW : s.WarmedH t.vm) (hm : zh_mI h0 D dA y t.heap) (hF : ∀ q, q < s.heap.size → ¬ h0 ≤ q → t.heap[q]? = s.heap[q]?) : zh_In h0 D dA tb y t :=
  ⟨hm, va_K.moved hW.alike h.2.1, (h.2.2.1.kept hF).moved hW.alike, zh_Ne_warm hW h.2.2.2⟩
theorem zh_In_calling {h0 : Nat} {D : va_G} {dA : Nat → ClassId} {tb : Nat → Nat} {x : zh_S} {U : State} {g : JFrame} {mk : MethodId} {a : Array Value} (h : zh_In h0 D dA tb x U) : zh_In h0 D dA tb x (U.calling g mk a) :=
  ⟨h.1, va_K.moved (u := U) (U := U.calling g mk a) (Vm.Alike.refl U.vm) h.2.1, h.2.2.1.moved (u := U) (U := U.calling g mk a) (Vm.Alike.refl U.vm), zh_Ne_same (s := U) (U := U.calling g mk a) rfl h.2.2.2⟩
-- words
theorem zw_all {w : Cond} (h : w ∈ zw_T) : goodWord w = true := (List.mem_filter.mp h).2
theorem zw_g {c1 : Cond} (h : c1 ∈ zw_T) : GoodIn zw_T (c1 :: zw_T) := fun w hw => by
  rcases List.mem_cons.mp hw with rfl | hw
  · exact ⟨h, good_of_word (zw_all h)⟩
  · exact ⟨hw, good_of_word (zw_all hw)⟩
theorem zw_cons {a : Cond} {ws : List Cond} (h : a ∈ zw_T) (hg : GoodIn zw_T ws) : GoodIn zw_T (a :: ws) := fun w hw => by
  rcases List.mem_cons.mp hw with rfl | hw
  · exact ⟨h, good_of_word (zw_all h)⟩
  · exact hg w hw
theorem zw_gV {own C : String} {idx : Nat} {y : MethodName} {c1 : Cond} (h1 : (.methodLink own idx y : Cond) ∈ zw_T) (h2 : (.instanceMethod y : Cond) ∈ zw_T) (h3 : (.selects C y y : Cond) ∈ zw_T) (h4 : (.initialized C : Cond) ∈ zw_T) (h5 : c1 ∈ zw_T) : GoodIn zw_T (wsV own idx C y (c1 :: zw_T)) :=
  zw_cons h1 (zw_cons h2 (zw_cons h3 (zw_cons h4 (zw_g h5))))
theorem zw_gS {own : String} {idx : Nat} {y : MethodName} {c1 : Cond} (h1 : (.methodLink own idx y : Cond) ∈ zw_T) (h2 : (.static y : Cond) ∈ zw_T) (h3 : (.initialized y.cls : Cond) ∈ zw_T) (h5 : c1 ∈ zw_T) : GoodIn zw_T (va_wsS own idx y (c1 :: zw_T)) :=
  zw_cons h1 (zw_cons h2 (zw_cons h3 (zw_g h5)))
theorem zw_gU {own C owner : String} {idx : Nat} {x y : MethodName} {c1 : Cond} (h1 : (.methodLink own idx x : Cond) ∈ zw_T) (h2 : (.sameMethod x.cls owner x.name x.desc : Cond) ∈ zw_T) (h3 : (.selects C x y : Cond) ∈ zw_T) (h4 : (.instanceMethod y : Cond) ∈ zw_T) (h5 : (.initialized y.cls : Cond) ∈ zw_T) (h6 : c1 ∈ zw_T) : GoodIn zw_T (va_wsU own idx C owner x y (c1 :: zw_T)) :=
  zw_cons h1 (zw_cons h2 (zw_cons h3 (zw_cons h4 (zw_cons h5 (zw_g h6)))))
def zc_Q (h0 : Nat) (D : va_G) (dA : Nat → ClassId) (tb : Nat → Nat) (rv : Option Value) (y : zh_S) : Array Value → State → Outcome → State → Prop := fun _ st oc t => (oc = .returned rv ∧ zh_In h0 D dA tb y t) ∧ va_F (fun q => h0 ≤ q) st t
/-- the contract: method y, at the state x with the arguments av, answers rv and leaves y' -/
abbrev zc_M (l : Launch) (y : MethodName) (ws : List Cond) (fr lo : Nat) (h0 : Nat) (D : va_G) (dA : Nat → ClassId) (tb : Nat → Nat) (av : List Value) (x : zh_S) (rv : Option Value) (y' : zh_S) : Prop :=
  Met l y ws { frames := fr, cells := zh_N y' - zh_N x, slots := zh_M y' - zh_M x, locals := lo } (va_Pc av (fun U => zh_In h0 D dA tb x U)) (zc_Q h0 D dA tb rv y') (zh_N y' - zh_N x) (zh_M y' - zh_M x) (fun q => h0 ≤ q)
/-- what a walk knows of its method -/
def zg_X (p : Program) (s : State) (m : MethodId) (args : Array Value) (meth : Method) (c : Code) (cc : ByteArray) (nL : Nat) (own : String) (ret : Option FieldType) (h0 : Nat) (D : va_G) (dA : Nat → ClassId) (tb : Nat → Nat) : Prop :=
  p.tables.exec = Jvm.exec ∧ c.code = cc ∧ c.maxLocals = nL ∧ s.vm.findClass own = some m.cls ∧ (∀ w ∈ zw_T, w.before args s = true) ∧ meth.sig.returnType = ret ∧ meth.locks = false ∧ (∃ x, zh_In h0 D dA tb x s)
theorem zc_of {l : Launch} {y : MethodName} {ws : List Cond} {fr lo h0 : Nat} {D : va_G} {dA : Nat → ClassId} {tb : Nat → Nat} {av : List Value} {x y' : zh_S} {rv : Option Value} {cc : ByteArray} {maxL : Nat} {ret : Option FieldType} {lv : List (Nat × Value)} (hy : plainName y.cls = true) (hw : ws = Cond.code y cc maxL ret :: zw_T) (hn : (lg_sl av).length ≤ maxL) (hlv : lv_args 0 av = lv)
    (body : ∀ (p : Program) (e : Env) (s : State) (m : MethodId) (args : Array Value) (below : List Frame) (meth : Method) (c : Code), zg_X p s m args meth c cc maxL y.cls ret h0 D dA tb → meth.name = y.name →
      zg_G p l e { frames := fr, cells := zh_N y' - zh_N x, slots := zh_M y' - zh_M x, locals := lo } s m args below meth c (MQ below (zc_Q h0 D dA tb rv y') args s (zh_N y' - zh_N x) (zh_M y' - zh_M x) (fun q => h0 ≤ q)) h0 D dA maxL (zh_N x) (zh_M x) y' x 0 lv []) : zc_M l y ws fr lo h0 D dA tb av x rv y' := by
  refine Met.ofW (cc := cc) (maxL := maxL) (ret := ret) hy hw ?_
  intro p e s m args below meth c s₁ B hml hv
  obtain ⟨rfl, hIn⟩ := hv
  have hts0 := atoms_spec (ws := ws) B.pre
  have hts : ∀ w ∈ zw_T, w.before av.toArray s = true := fun w h => hts0 w (by rw [hw]; exact List.mem_cons_of_mem _ h)
  have hown : s.vm.findClass y.cls = some m.cls := findClass_of_methodNamed B.named
  have hl := lv_entry av (n := maxL) hn
  rw [lg_entry_eq]
  rw [hlv] at hl
  exact (body p e s m _ below meth c ⟨B.exec, B.bytes, hml, hown, hts, B.returns, B.notSynchronized, x, hIn⟩ (name_of_methodNamed B.named B.method).1).2 s.heap [] _ 0 0 rfl rfl hIn.1 va_S.rf hl
section ZC
variable {p : Program} {l : Launch} {e : Env} {R : Room} {s : State} {m : MethodId} {args : Array Value} {below : List Frame} {meth : Method} {c : Code} {Q : State → Prop} {h0 : Nat} {D : va_G} {dA : Nat → ClassId} {tb : Nat → Nat} {nL c0 s0 : Nat} {z x y : zh_S} {pc pc' : Nat} {lv : List (Nat × Value)} {st rest : List Value} {cc : ByteArray} {own : String} {ret : Option FieldType}
theorem zg_call {rv : Option Value} {a : Array Value} (X : zg_X p s m args meth c cc nL own ret h0 D dA tb) (hR : zg_R R c0 s0 z) (mono : zh_N x ≤ zh_N y ∧ zh_M x ≤ zh_M y)
    (hr : ∀ (H : Heap) (locs : List Loc) (ls : Array Slot) (k j : Nat), ls.size = nL → zh_mI h0 D dA x H → (∀ U : State, U.heap = H → s.WarmedH U.vm → zh_In h0 D dA tb x U) → k + (zh_N y - zh_N x) ≤ R.cells ∧ j + (zh_M y - zh_M x) ≤ R.slots →
      va_Run p l e R s m args below meth c H locs k j (zh_N y - zh_N x) (zh_M y - zh_M x) (F0 m pc ls st) rest (zc_Q h0 D dA tb rv y a) (fun q => h0 ≤ q))
    (hpc : pc + 3 = pc') (kk : zg_G p l e R s m args below meth c Q h0 D dA nL c0 s0 z y pc' lv (rv.toList ++ rest)) : zg_G p l e R s m args below meth c Q h0 D dA nL c0 s0 z x pc lv st := by
  subst hpc
  obtain ⟨m1, m2⟩ := kk.1
  obtain ⟨n1, n2⟩ := mono
  obtain ⟨r1, r2⟩ := hR
  refine ⟨⟨by omega, by omega⟩, fun H locs ls k j h1 h2 hI hS hl => ?_⟩
  obtain ⟨-, -, -, -, -, -, -, x0, hIn0⟩ := X
  have hU : ∀ U : State, U.heap = H → s.WarmedH U.vm → zh_In h0 D dA tb x U := fun U hU hW => hIn0.go hW (by rw [hU]; exact hI) (fun q g1 g2 => by rw [hU]; exact hS.2.1 q g1 g2)
  intro T hT X'
  obtain ⟨v, st₀, t, T', L, e0, X2, hL, e1, e2, ⟨⟨hv, hIn⟩, hz, hk⟩, go⟩ := hr H locs ls k j hl.1 hI hU ⟨by omega, by omega⟩ T hT X'
  cases hv
  rw [e0] at hz hk
  obtain ⟨t2, a1, b1⟩ := kk.2 T'.heap (locs ++ L) ls (k + (zh_N y - zh_N x)) (j + (zh_M y - zh_M x)) (by omega) (by omega) (by rw [e1]; exact hIn.1)
    ⟨Nat.le_trans hS.1 (by rw [e1]; exact hz), fun q g1 g2 => by rw [e1, hk q (Nat.lt_of_lt_of_le g1 hS.1) g2]; exact hS.2.1 q g1 g2, fun q hq => by
      rcases List.mem_append.mp hq with h | h
      · exact hS.2.2 q h
      · exact hL q h⟩ hl T' rfl X2
  exact ⟨t2, go t2 a1, b1⟩
/-- ends -/
theorem zg_vret (X : zg_X p s m args meth c cc nL own none h0 D dA tb) (hdg : decode cc pc = .ok (.return_, 1)) : zg_G p l e R s m args below meth c (MQ below (zc_Q h0 D dA tb none z) args s (zh_N z - c0) (zh_M z - s0) (fun q => h0 ≤ q)) h0 D dA nL c0 s0 z z pc lv [] := by
  obtain ⟨hx, hb, -, -, -, hr, hlk, x0, hIn0⟩ := X
  refine ⟨⟨Nat.le_refl _, Nat.le_refl _⟩, fun H locs ls k j h1 h2 hI hS hl => ?_⟩
  rw [show zh_N z - c0 = k by omega, show zh_M z - s0 = j by omega]
  exact W.vret hx hb hr (fun t ht hW => ⟨⟨rfl, hIn0.go hW (by rw [ht]; exact hI) (fun q g1 g2 => by rw [ht]; exact hS.2.1 q g1 g2)⟩, hS.F ht⟩) hS.2.2 hdg hlk
theorem zg_iret {ty : FieldType} {v : Int32} (X : zg_X p s m args meth c cc nL own (some ty) h0 D dA tb) (hn : narrow ty (.int v) = .int v) (hdg : decode cc pc = .ok (.ireturn, 1)) : zg_G p l e R s m args below meth c (MQ below (zc_Q h0 D dA tb (some (.int v)) z) args s (zh_N z - c0) (zh_M z - s0) (fun q => h0 ≤ q)) h0 D dA nL c0 s0 z z pc lv [.int v] := by
  obtain ⟨hx, hb, -, -, -, hr, hlk, x0, hIn0⟩ := X
  refine ⟨⟨Nat.le_refl _, Nat.le_refl _⟩, fun H locs ls k j h1 h2 hI hS hl => ?_⟩
  rw [show zh_N z - c0 = k by omega, show zh_M z - s0 = j by omega]
  exact W.zret hx hb hr hn (fun t ht hW => ⟨⟨rfl, hIn0.go hW (by rw [ht]; exact hI) (fun q g1 g2 => by rw [ht]; exact hS.2.1 q g1 g2)⟩, hS.F ht⟩) hS.2.2 hdg hlk
theorem zg_lret {v : Int64} (X : zg_X p s m args meth c cc nL own (some .long) h0 D dA tb) (hdg : decode cc pc = .ok (.lreturn, 1)) : zg_G p l e R s m args below meth c (MQ below (zc_Q h0 D dA tb (some (.long v)) z) args s (zh_N z - c0) (zh_M z - s0) (fun q => h0 ≤ q)) h0 D dA nL c0 s0 z z pc lv [.long v] := by
  obtain ⟨hx, hb, -, -, -, hr, hlk, x0, hIn0⟩ := X
  refine ⟨⟨Nat.le_refl _, Nat.le_refl _⟩, fun H locs ls k j h1 h2 hI hS hl => ?_⟩
  rw [show zh_N z - c0 = k by omega, show zh_M z - s0 = j by omega]
  exact W.lret hx hb hr (fun t ht hW => ⟨⟨rfl, hIn0.go hW (by rw [ht]; exact hI) (fun q g1 g2 => by rw [ht]; exact hS.2.1 q g1 g2)⟩, hS.F ht⟩) hS.2.2 hdg hlk
theorem zg_aret {C : String} {v : Value} (X : zg_X p s m args meth c cc nL own (some (.object C)) h0 D dA tb) (hv : v = .null ∨ ∃ a, v = .ref a) (hdg : decode cc pc = .ok (.areturn, 1)) : zg_G p l e R s m args below meth c (MQ below (zc_Q h0 D dA tb (some v) z) args s (zh_N z - c0) (zh_M z - s0) (fun q => h0 ≤ q)) h0 D dA nL c0 s0 z z pc lv [v] := by
  obtain ⟨hx, hb, -, -, -, hr, hlk, x0, hIn0⟩ := X
  refine ⟨⟨Nat.le_refl _, Nat.le_refl _⟩, fun H locs ls k j h1 h2 hI hS hl => ?_⟩
  rw [show zh_N z - c0 = k by omega, show zh_M z - s0 = j by omega]
  exact W.aret hx hb hr (Or.inl ⟨_, rfl⟩) hv (fun t ht hW => ⟨⟨rfl, hIn0.go hW (by rw [ht]; exact hI) (fun q g1 g2 => by rw [ht]; exact hS.2.1 q g1 g2)⟩, hS.F ht⟩) hS.2.2 hdg hlk
/-- the start of a call: what the callee's contract asks -/
theorem zg_pre {H : Heap} {av : List Value} (hU : ∀ U : State, U.heap = H → s.WarmedH U.vm → zh_In h0 D dA tb x U) : PreS s H (va_Pc av (fun U => zh_In h0 D dA tb x U)) av :=
  ⟨fun a U g mk q => ⟨q.1, zh_In_calling q.2⟩, fun U hh hW => ⟨rfl, hU U hh hW⟩⟩
end ZC
section ZCP
variable {p : Program} {l : Launch} {e : Env} {R : Room} {s : State} {m : MethodId} {args : Array Value} {below : List Frame} {meth : Method} {c : Code} {Q : State → Prop} {h0 : Nat} {D : va_G} {dA : Nat → ClassId} {nL c0 s0 : Nat} {z x : zh_S} {pc pc' : Nat} {lv : List (Nat × Value)} {st : List Value} {cc : ByteArray}
theorem zg_copy (hexec : p.tables.exec = Jvm.exec) (hb : c.code = cc) (hml : c.maxLocals = nL) {own : String} {index : Nat} (hown : s.vm.findClass own = some m.cls) (hlink : (Cond.methodLink own index arraycopyName).before args s = true) (hnat : (Cond.native arraycopyName).before args s = true) (hstat : (Cond.static arraycopyName).before args s = true) (hini : (Cond.initialized "java/lang/System").before args s = true)
    (hK : va_K D classes (zh_tys dA) s) {a b : Nat} {sp dp ln : Int32} (ho : zh_oc x a sp b dp ln) {y : zh_S} (hy : y = zh_cpy x a sp b dp ln) (hframes : 1 ≤ R.frames) (hlocals : (st.map fun v => v.category).sum + (nativeFrameWords "java/lang/System" "arraycopy" 5 + 11) ≤ R.locals) (hdg : decode cc pc = .ok (.invokestatic index, 3)) (hpc : pc + 3 = pc')
    (kk : zg_G p l e R s m args below meth c Q h0 D dA nL c0 s0 z y pc' lv st) : zg_G p l e R s m args below meth c Q h0 D dA nL c0 s0 z x pc lv (.int ln :: .int dp :: .ref (h0 + b) :: .int sp :: .ref (h0 + a) :: st) := by
  subst hpc; subst hy
  obtain ⟨o1, o2, o3, o4, g1, g2, g3, g4, g5⟩ := ho
  refine ⟨kk.1, fun H locs ls k' j h1 h2 hI hS hl => ?_⟩
  have hc0 : H[h0 + a]? = some (vp_cell (dA 0) ((zh_K x a).2, .inl (zh_I x a))) := by have h := hI.2 a o2; rw [zh_ia o1] at h; exact h
  have hc1 : H[h0 + b]? = some (vp_cell (dA 0) ((zh_K x b).2, .inl (zh_I x b))) := by have h := hI.2 b o4; rw [zh_ia o3] at h; exact h
  have nn : ∀ z : Int32, ¬ z < 0 → z.toInt = (z.toNatClampNeg : Int) := by
    intro z hz
    have hz0 : (0 : Int) ≤ z.toInt := by
      have := Int32.not_lt.mp hz
      simpa using Int32.le_iff_toInt_le.mp this
    show z.toInt = ((z.toInt.toNat : Nat) : Int)
    omega
  intro T hT X
  obtain ⟨-, k0, hk0, cm0, hkk0⟩ := (hK.2 0 _ rfl).1 (zh_K x a).2 (fun j => .int (zh_I x a j))
  obtain ⟨-, k1, hk1, cm1, hkk1⟩ := (hK.2 0 _ rfl).1 (zh_K x b).2 (fun j => .int (zh_I x b j))
  obtain ⟨vm', X', step⟩ := X.arraycopy hexec hown hlink hnat hstat hini (src := h0 + a) (dst := h0 + b) (cs := vp_cell (dA 0) ((zh_K x a).2, .inl (zh_I x a))) (cd := vp_cell (dA 0) ((zh_K x b).2, .inl (zh_I x b))) (srcPos := sp) (destPos := dp) (n := ln) (by rw [hT]; exact hc0) (by rw [hT]; exact hc1)
    (fun _ h => by cases h) (fun _ h => by cases h) (fun h => by cases h) (fun h => by cases h) hk0 hk1 hkk0 hkk1 (by simp [refKind]) g1 g2 g3
    (by rw [nn sp g1, nn ln g3]; show ¬ _ > ((arrV (dA 0) (zh_K x a).2 (fun j => .int (zh_I x a j))).slots.size : Int); rw [arrV_size]; omega)
    (by rw [nn dp g2, nn ln g3]; show ¬ _ > ((arrV (dA 0) (zh_K x b).2 (fun j => .int (zh_I x b j))).slots.size : Int); rw [arrV_size]; omega)
    (fun vm₁ _ i hi => by
      have e : (vp_cell (dA 0) ((zh_K x a).2, .inl (zh_I x a))).slots.getD (sp.toNatClampNeg + i) .null = .int (zh_I x a (sp.toNatClampNeg + i)) := by
        show (arrV (dA 0) (zh_K x a).2 (fun j => .int (zh_I x a j))).slots.getD _ _ = _
        rw [Array.getD_eq_getD_getElem?, arrV_read _ _ (by omega)]
        rfl
      refine ⟨?_, ?_⟩
      · rw [e]; rfl
      · rw [e]; exact trivial)
    (g := F0 m pc ls (.int ln :: .int dp :: .ref (h0 + b) :: .int sp :: .ref (h0 + a) :: st)) rfl (by rw [hml]; exact hl.1) (rest := st) rfl (by rw [hb]; exact hdg) hframes (by show 2 * 0 + _ + _ ≤ _; omega)
  have e1 : copied (vp_cell (dA 0) ((zh_K x a).2, .inl (zh_I x a))) (vp_cell (dA 0) ((zh_K x b).2, .inl (zh_I x b))) sp dp ln = vp_cell (dA 0) ((zh_K x b).2, .inl (va_cpy (zh_I x a) (zh_I x b) sp.toNatClampNeg dp.toNatClampNeg ln.toNatClampNeg)) := va_copied (fun z => .int z) (dA 0) (dA 0) (zh_I x a) (zh_I x b) g4
  rw [e1] at X' step
  have hlt : h0 + b < H.size := (Array.getElem?_eq_some_iff.mp hc1).1
  have hheap : ((T.setVm vm').setCell (h0 + b) (vp_cell (dA 0) ((zh_K x b).2, .inl (va_cpy (zh_I x a) (zh_I x b) sp.toNatClampNeg dp.toNatClampNeg ln.toNatClampNeg)))).heap = H.setIfInBounds (h0 + b) (vp_cell (dA 0) ((zh_K x b).2, .inl (va_cpy (zh_I x a) (zh_I x b) sp.toNatClampNeg dp.toNatClampNeg ln.toNatClampNeg))) := by rw [← hT]; rfl
  have oq : ∀ q : Nat, q ≠ h0 + b → (H.setIfInBounds (h0 + b) (vp_cell (dA 0) ((zh_K x b).2, .inl (va_cpy (zh_I x a) (zh_I x b) sp.toNatClampNeg dp.toNatClampNeg ln.toNatClampNeg))))[q]? = H[q]? := fun q hq => by simp [Array.getElem?_setIfInBounds, Ne.symm hq]
  have eI : zh_I (zh_cpy x a sp b dp ln) b = va_cpy (zh_I x a) (zh_I x b) sp.toNatClampNeg dp.toNatClampNeg ln.toNatClampNeg := by show va_up x.1 b _ b = _; rw [va_up_self]; rfl
  have hne : ∀ q, q ≠ b → zh_ce h0 dA (zh_cpy x a sp b dp ln) q = zh_ce h0 dA x q := fun q hq => by
    have e2 : zh_I (zh_cpy x a sp b dp ln) q = zh_I x q := by show va_up x.1 b _ q = x.1 q; rw [va_up_ne _ _ hq]
    have f : ∀ ci, zh_fv h0 (zh_cpy x a sp b dp ln) ci q = zh_fv h0 x ci q := fun ci => by
      funext j; unfold zh_fv; rw [e2]; rfl
    unfold zh_ce
    rw [e2, show zh_K (zh_cpy x a sp b dp ln) = zh_K x from rfl, show zh_J (zh_cpy x a sp b dp ln) = zh_J x from rfl, show zh_R (zh_cpy x a sp b dp ln) = zh_R x from rfl]
    simp only [f]
  have hI2 : zh_mI h0 D dA (zh_cpy x a sp b dp ln) (H.setIfInBounds (h0 + b) (vp_cell (dA 0) ((zh_K x b).2, .inl (va_cpy (zh_I x a) (zh_I x b) sp.toNatClampNeg dp.toNatClampNeg ln.toNatClampNeg)))) := by
    refine zh_set hI (by simp) oq rfl hne ?_
    rw [zh_ia (show (zh_K (zh_cpy x a sp b dp ln) b).1 = 0 from o3), eI]
    show (H.setIfInBounds (h0 + b) _)[h0 + b]? = some _
    simp [Array.getElem?_setIfInBounds, hlt]
    rfl
  obtain ⟨t, a1, b1⟩ := kk.2 _ _ ls k' j h1 h2 hI2 ⟨by simp; exact hS.1, fun q q1 q2 => by
      rw [oq q (fun e => q2 (by rw [e]; exact Nat.le_add_right h0 b))]
      exact hS.2.1 q q1 q2, fun q hq => by
      rcases List.mem_append.mp hq with h | h
      · exact hS.2.2 q h
      · obtain ⟨w, -, hw⟩ := List.mem_map.mp h
        rw [← hw]
        exact Nat.le_add_right h0 b⟩ hl _ hheap X'
  exact ⟨t, step t a1, b1⟩
end ZCP
