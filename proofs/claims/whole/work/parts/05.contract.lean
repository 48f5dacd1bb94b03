/-! contracts over footprints, returns, calls -/
def CQ (D : DD) (ad : Nat → Nat) (n : Nat) (A : Nat → Prop) (Qm : Option Value → List va_E → Prop) : Array Value → State → Outcome → State → Prop := fun _ st oc t => (∃ (v : Option Value) (cs : List va_E), oc = .returned v ∧ Qm v cs ∧ cs.length = n ∧ va_P D.1 vcl (wsO ad cs) t.heap) ∧ va_F A st t
def GQ (D : DD) (X : MX) (A : Nat → Prop) (ad : Nat → Nat) (n : Nat) (Qm : Option Value → List va_E → Prop) : State → Prop := MQ X.2.2.2.2.2.2.2.1 (CQ D ad n A Qm) X.2.2.2.2.2.2.1 X.2.2.2.2.1 0 0 A
def RT (X : MX) (ret : Option FieldType) : Prop := X.2.2.2.2.2.2.2.2.1.sig.returnType = ret ∧ X.2.2.2.2.2.2.2.2.1.locks = false
abbrev MI : Type := MethodName × ByteArray × Nat × Option FieldType × Nat × Nat
def miR (mi : MI) : Room := { frames := mi.2.2.2.2.1, cells := 0, slots := 0, locals := mi.2.2.2.2.2 }
/-- the contract of a method that makes no cell: from the footprint cs at the addresses ad, with the arguments As, it returns v and leaves cs' with Qm v cs' -/
def Ct (D : DD) (l : Launch) (mi : MI) (As : List Value) (ad : Nat → Nat) (cs : List va_E) (Qm : Option Value → List va_E → Prop) : Prop :=
  ∀ sz : Nat, Met l mi.1 (Cond.code mi.1 mi.2.1 mi.2.2.1 mi.2.2.2.1 :: TB) (miR mi) (va_Pc As (fun U => U.heap.size = sz ∧ va_P D.1 vcl (wsO ad cs) U.heap ∧ va_D (fun _ => True) (wsO ad cs) ∧ va_K D.1 vcl (tysO D) U ∧ NL U)) (CQ D ad cs.length (va_A (wsO ad cs) sz) Qm) 0 0 (va_A (wsO ad cs) sz)
theorem Ct.of {D : DD} {l : Launch} {mi : MI} {As : List Value} {ad : Nat → Nat} {cs : List va_E} {Qm : Option Value → List va_E → Prop} (hy : plainName mi.1.cls = true) (hn : (lg_sl As).length ≤ mi.2.2.1)
    (body : ∀ (X : MX) (A : Nat → Prop), X.2.1 = l → CX D X A mi.1.cls mi.2.1 mi.2.2.1 (miR mi) → RT X mi.2.2.2.1 → G D X A 0 0 (GQ D X A ad cs.length Qm) ad 0 (lent As ++ lpad (mi.2.2.1 - (lg_sl As).length)) [] cs) : Ct D l mi As ad cs Qm := by
  intro sz
  refine Met.ofW (cc := mi.2.1) (maxL := mi.2.2.1) (ret := mi.2.2.2.1) hy rfl ?_
  intro p e s m args below meth c s₁ B hml hv
  obtain ⟨rfl, hsz, hP, hD0, hK, hN⟩ := hv
  have hts := atoms_spec (ws := Cond.code mi.1 mi.2.1 mi.2.2.1 mi.2.2.2.1 :: TB) B.pre
  have hown : s.vm.findClass mi.1.cls = some m.cls := findClass_of_methodNamed B.named
  subst hsz
  have hD := hD0.self (sz := s.heap.size)
  have hl := LH.entry As hn
  rw [lg_entry_eq]
  exact body (p, l, e, (headSpec (Cond.code mi.1 mi.2.1 mi.2.2.1 mi.2.2.2.1 :: TB) (miR mi)).room, s, m, As.toArray, below, meth, c) (va_A (wsO ad cs) s.heap.size) rfl
    ⟨B.exec, B.bytes, hml, hown, fun w hw => hts w (List.mem_cons_of_mem _ hw), hK, hN, fun q h => Or.inr h, rfl⟩ ⟨B.returns, B.notSynchronized⟩ _ _ _ hl hP hD va_S.rf
section GR2
variable {D : DD} {X : MX} {A : Nat → Prop} {own : String} {cc : ByteArray} {nL kc ks : Nat} {R : Room} {Q : State → Prop} {ad : Nat → Nat} {pc n : Nat} {lv : List (Option Value)} {st : List Value} {cs : List va_E} {Qm : Option Value → List va_E → Prop}
theorem G_iret (M : CX D X A own cc nL R) (hr : RT X (some .int)) {v : Int32} (d : decode cc pc = .ok (.ireturn, 1)) (hn : cs.length = n) (h : Qm (some (.int v)) cs) : G D X A 0 0 (GQ D X A ad n Qm) ad pc lv [.int v] cs := fun ls H locs hL hP hD hS =>
  W.iret M.1 M.2.1 hr.1 (fun t ht hW => ⟨⟨_, cs, rfl, h, hn, by rw [ht]; exact hP⟩, hS.F ht⟩) hS.2.2 d hr.2
theorem G_zret (M : CX D X A own cc nL R) (hr : RT X (some .boolean)) {v : Int32} (d : decode cc pc = .ok (.ireturn, 1)) (hv : narrow .boolean (.int v) = .int v) (hn : cs.length = n) (h : Qm (some (.int v)) cs) : G D X A 0 0 (GQ D X A ad n Qm) ad pc lv [.int v] cs := fun ls H locs hL hP hD hS =>
  W.zret M.1 M.2.1 hr.1 hv (fun t ht hW => ⟨⟨_, cs, rfl, h, hn, by rw [ht]; exact hP⟩, hS.F ht⟩) hS.2.2 d hr.2
theorem G_lret (M : CX D X A own cc nL R) (hr : RT X (some .long)) {v : Int64} (d : decode cc pc = .ok (.lreturn, 1)) (hn : cs.length = n) (h : Qm (some (.long v)) cs) : G D X A 0 0 (GQ D X A ad n Qm) ad pc lv [.long v] cs := fun ls H locs hL hP hD hS =>
  W.lret M.1 M.2.1 hr.1 (fun t ht hW => ⟨⟨_, cs, rfl, h, hn, by rw [ht]; exact hP⟩, hS.F ht⟩) hS.2.2 d hr.2
theorem G_vret (M : CX D X A own cc nL R) (hr : RT X none) (d : decode cc pc = .ok (.return_, 1)) (hn : cs.length = n) (h : Qm none cs) : G D X A 0 0 (GQ D X A ad n Qm) ad pc lv [] cs := fun ls H locs hL hP hD hS =>
  W.vret M.1 M.2.1 hr.1 (fun t ht hW => ⟨⟨_, cs, rfl, h, hn, by rw [ht]; exact hP⟩, hS.F ht⟩) hS.2.2 d hr.2
end GR2
/-! a callee's footprint: the caller's cells at the places is -/
def pn : List Nat → Nat → Nat
  | [], _ => 0
  | a :: _, 0 => a
  | _ :: r, n + 1 => pn r n
def Pk (cs : List va_E) : List Nat → List va_E → Prop
  | [], [] => True
  | i :: is, c :: wc => gt cs i = some c ∧ Pk cs is wc
  | _, _ => False
def sall : List va_E → List Nat → List va_E → List va_E
  | cs, i :: is, c :: r => sall (cs.set i c) is r
  | cs, _, _ => cs
def pushArgs : List Value → List Value → List Value
  | [], st => st
  | v :: vs, st => pushArgs vs (v :: st)
theorem pushArgs_eq : ∀ (vs st : List Value), pushArgs vs st = vs.reverse ++ st
  | [], st => rfl
  | v :: vs, st => by rw [pushArgs, pushArgs_eq vs]; simp
theorem Pk_len : ∀ {cs : List va_E} {is : List Nat} {wc : List va_E}, Pk cs is wc → is.length = wc.length
  | cs, [], [], _ => rfl
  | cs, i :: is, c :: wc, h => by simp [Pk_len h.2]
  | cs, [], c :: wc, h => h.elim
  | cs, i :: is, [], h => h.elim
theorem Pk_get : ∀ {cs : List va_E} {is : List Nat} {wc : List va_E}, Pk cs is wc → ∀ (j : Nat) (c : va_E), wc[j]? = some c → ∃ i, is[j]? = some i ∧ cs[i]? = some c ∧ pn is j = i
  | cs, [], [], _, j, c, h => by simp at h
  | cs, i :: is, c0 :: wc, hp, 0, c, h => by
    simp at h
    subst h
    exact ⟨i, by simp, by rw [← gt_eq]; exact hp.1, rfl⟩
  | cs, i :: is, c0 :: wc, hp, j + 1, c, h => by
    obtain ⟨i1, h1, h2, h3⟩ := Pk_get hp.2 j c (by simpa using h)
    exact ⟨i1, by simpa using h1, h2, h3⟩
  | cs, [], c0 :: wc, hp, _, _, _ => hp.elim
  | cs, i :: is, [], hp, _, _, _ => hp.elim
theorem sall_len : ∀ (cs : List va_E) (is : List Nat) (r : List va_E), (sall cs is r).length = cs.length
  | cs, [], _ => by simp [sall]
  | cs, i :: is, [] => by simp [sall]
  | cs, i :: is, c :: r => by simp [sall, sall_len]
theorem sall_out : ∀ (cs : List va_E) (is : List Nat) (r : List va_E) (k : Nat), k ∉ is → (sall cs is r)[k]? = cs[k]?
  | cs, [], _, k, _ => by simp [sall]
  | cs, i :: is, [], k, _ => by simp [sall]
  | cs, i :: is, c :: r, k, h => by
    rw [sall, sall_out _ is r k (fun q => h (List.mem_cons_of_mem _ q)), List.getElem?_set_ne (fun q => h (by rw [q]; exact List.mem_cons_self))]
theorem sall_in : ∀ (cs : List va_E) (is : List Nat) (r : List va_E) (j k : Nat) (c : va_E), va_nd is = true → is[j]? = some k → r[j]? = some c → k < cs.length → (sall cs is r)[k]? = some c
  | cs, [], _, j, k, c, _, h, _, _ => by simp at h
  | cs, i :: is, [], j, k, c, _, _, h, _ => by simp at h
  | cs, i :: is, c0 :: r, 0, k, c, hn, h1, h2, hk => by
    simp at h1 h2
    subst h1; subst h2
    simp only [va_nd, Bool.and_eq_true, decide_eq_true_eq] at hn
    rw [sall, sall_out _ _ _ _ hn.1, List.getElem?_set_self hk]
  | cs, i :: is, c0 :: r, j + 1, k, c, hn, h1, h2, hk => by
    simp only [va_nd, Bool.and_eq_true, decide_eq_true_eq] at hn
    exact sall_in (cs.set i c0) is r j k c hn.2 (by simpa using h1) (by simpa using h2) (by simpa using hk)
theorem call_P {D : DD} {ad : Nat → Nat} {cs wc : List va_E} {is : List Nat} {H : Heap} (hpk : Pk cs is wc) (hP : va_P D.1 vcl (wsO ad cs) H) : va_P D.1 vcl (wsO (fun j => ad (pn is j)) wc) H := by
  intro j q hq
  rw [wsO_get] at hq
  obtain ⟨c, hc, rfl⟩ := Option.map_eq_some_iff.mp hq
  obtain ⟨i, h1, h2, h3⟩ := Pk_get hpk j c hc
  exact hP i _ (by rw [wsO_get, h2, h3]; rfl)
theorem call_D {A B : Nat → Prop} {ad : Nat → Nat} {cs wc : List va_E} {is : List Nat} (hpk : Pk cs is wc) (hnd : va_nd is = true) (hD : va_D A (wsO ad cs)) (hAB : ∀ q, A q → B q) : va_D B (wsO (fun j => ad (pn is j)) wc) := by
  refine ⟨fun j1 j2 x y h1 h2 hxy => ?_, fun j q hq => ?_⟩
  · rw [wsO_get] at h1 h2
    obtain ⟨c1, e1, rfl⟩ := Option.map_eq_some_iff.mp h1
    obtain ⟨c2, e2, rfl⟩ := Option.map_eq_some_iff.mp h2
    obtain ⟨i1, a1, a2, a3⟩ := Pk_get hpk j1 c1 e1
    obtain ⟨i2, b1, b2, b3⟩ := Pk_get hpk j2 c2 e2
    have := hD.1 i1 i2 (ad i1, c1) (ad i2, c2) (by rw [wsO_get, a2]; rfl) (by rw [wsO_get, b2]; rfl) (by simp only [a3, b3] at hxy; exact hxy)
    subst this
    exact va_nd_inj is hnd j1 j2 i1 a1 b1
  · rw [wsO_get] at hq
    obtain ⟨c, hc, rfl⟩ := Option.map_eq_some_iff.mp hq
    obtain ⟨i, h1, h2, h3⟩ := Pk_get hpk j c hc
    exact hAB _ (by simp only [h3]; exact hD.2 i (ad i, c) (by rw [wsO_get, h2]; rfl))
theorem call_A {A : Nat → Prop} {ad : Nat → Nat} {cs wc : List va_E} {is : List Nat} {H0 H : Heap} {locs : List Loc} (hpk : Pk cs is wc) (hD : va_D A (wsO ad cs)) (hS : va_S A H0 H locs) (hA : ∀ q : Nat, H0.size ≤ q → A q) : ∀ q, va_A (wsO (fun j => ad (pn is j)) wc) H.size q → A q := by
  rintro q (⟨k, e, h⟩ | h)
  · rw [wsO_get] at h
    obtain ⟨c, hc, he⟩ := Option.map_eq_some_iff.mp h
    obtain ⟨i, h1, h2, h3⟩ := Pk_get hpk k c hc
    have : ad i = q := by rw [← h3]; exact congrArg Prod.fst he
    rw [← this]
    exact hD.2 i (ad i, c) (by rw [wsO_get, h2]; rfl)
  · exact hA q (Nat.le_trans hS.1 h)
theorem call_back {D : DD} {A : Nat → Prop} {ad : Nat → Nat} {cs wc c1 : List va_E} {is : List Nat} {H H1 : Heap} (hpk : Pk cs is wc) (hnd : va_nd is = true) (hP : va_P D.1 vcl (wsO ad cs) H) (hD : va_D A (wsO ad cs)) (hl : c1.length = wc.length)
    (hk : ∀ q : Nat, q < H.size → ¬ va_A (wsO (fun j => ad (pn is j)) wc) H.size q → H1[q]? = H[q]?) (hP1 : va_P D.1 vcl (wsO (fun j => ad (pn is j)) c1) H1) : va_P D.1 vcl (wsO ad (sall cs is c1)) H1 ∧ va_D A (wsO ad (sall cs is c1)) := by
  have hlen := Pk_len hpk
  refine ⟨fun k q hq => ?_, fun i j x y hx hy hxy => ?_, fun k q hq => ?_⟩
  · rw [wsO_get] at hq
    obtain ⟨c, hc, rfl⟩ := Option.map_eq_some_iff.mp hq
    have hkl : k < cs.length := by have := (List.getElem?_eq_some_iff.mp hc).1; rwa [sall_len] at this
    by_cases hin : k ∈ is
    · obtain ⟨j, hj⟩ := List.getElem?_of_mem hin
      have hj2 : j < c1.length := by rw [hl, ← hlen]; exact (List.getElem?_eq_some_iff.mp hj).1
      have hcj : c1[j]? = some c1[j] := List.getElem?_eq_getElem hj2
      have hs := sall_in cs is c1 j k _ hnd hj hcj hkl
      rw [hs] at hc
      cases hc
      have hw : wc[j]? = some (wc[j]'(by omega)) := List.getElem?_eq_getElem (by omega)
      obtain ⟨i, h1, h2, h3⟩ := Pk_get hpk j _ hw
      have e : i = k := Option.some.inj (h1.symm.trans hj)
      have := hP1 j (ad (pn is j), c1[j]) (by rw [wsO_get, hcj]; rfl)
      rw [h3, e] at this
      exact this
    · rw [sall_out cs is c1 k hin] at hc
      have h0 : (wsO ad cs)[k]? = some (ad k, c) := by rw [wsO_get, hc]; rfl
      refine (hP k _ h0).kept (hk _ (hP k _ h0).lt ?_)
      rintro (⟨j, e, h⟩ | h)
      · rw [wsO_get] at h
        obtain ⟨cj, hcj, he⟩ := Option.map_eq_some_iff.mp h
        obtain ⟨i, h1, h2, h3⟩ := Pk_get hpk j cj hcj
        have ha : ad i = ad k := by have := congrArg Prod.fst he; simpa [h3] using this
        have := hD.1 i k (ad i, cj) (ad k, c) (by rw [wsO_get, h2]; rfl) h0 ha
        subst this
        exact hin (List.mem_of_getElem? h1)
      · exact absurd (hP k _ h0).lt (by simpa using h)
  · rw [wsO_get] at hx hy
    obtain ⟨c2, e2, rfl⟩ := Option.map_eq_some_iff.mp hx
    obtain ⟨c3, e3, rfl⟩ := Option.map_eq_some_iff.mp hy
    have l2 : i < cs.length := by have := (List.getElem?_eq_some_iff.mp e2).1; rwa [sall_len] at this
    have l3 : j < cs.length := by have := (List.getElem?_eq_some_iff.mp e3).1; rwa [sall_len] at this
    exact hD.1 i j (ad i, cs[i]) (ad j, cs[j]) (by rw [wsO_get, List.getElem?_eq_getElem l2]; rfl) (by rw [wsO_get, List.getElem?_eq_getElem l3]; rfl) hxy
  · rw [wsO_get] at hq
    obtain ⟨c2, e2, rfl⟩ := Option.map_eq_some_iff.mp hq
    have l2 : k < cs.length := by have := (List.getElem?_eq_some_iff.mp e2).1; rwa [sall_len] at this
    exact hD.2 k (ad k, cs[k]) (by rw [wsO_get, List.getElem?_eq_getElem l2]; rfl)
section GR3
variable {D : DD} {X : MX} {A : Nat → Prop} {own : String} {cc : ByteArray} {nL kc ks : Nat} {R : Room} {Q : State → Prop} {ad : Nat → Nat} {pc n : Nat} {lv : List (Option Value)} {st st0 : List Value} {cs wc : List va_E} {Qm : Option Value → List va_E → Prop} {mi : MI} {As : List Value}
/-- behind a call -/
theorem G_back (is : List Nat) (hpk : Pk cs is wc) (hnd : va_nd is = true) {ls : Array Slot} {H : Heap} {locs : List Loc} {a : Array Value} (hL : LH ls lv) (hP : va_P D.1 vcl (wsO ad cs) H) (hD : va_D A (wsO ad cs)) (hS : va_S A X.2.2.2.2.1.heap H locs) (hA : ∀ q : Nat, X.2.2.2.2.1.heap.size ≤ q → A q)
    (hr : va_Run X.1 X.2.1 X.2.2.1 X.2.2.2.1 X.2.2.2.2.1 X.2.2.2.2.2.1 X.2.2.2.2.2.2.1 X.2.2.2.2.2.2.2.1 X.2.2.2.2.2.2.2.2.1 X.2.2.2.2.2.2.2.2.2 H locs kc ks 0 0 (F0 X.2.2.2.2.2.1 pc ls st0) st (CQ D (fun j => ad (pn is j)) wc.length (va_A (wsO (fun j => ad (pn is j)) wc) H.size) Qm a) (va_A (wsO (fun j => ad (pn is j)) wc) H.size))
    (kk : ∀ (v : Option Value) (c1 : List va_E), Qm v c1 → c1.length = wc.length → G D X A kc ks Q ad (pc + 3) lv (v.toList ++ st) (sall cs is c1)) :
    W X.1 X.2.1 X.2.2.1 X.2.2.2.1 X.2.2.2.2.1 X.2.2.2.2.2.1 X.2.2.2.2.2.2.1 X.2.2.2.2.2.2.2.1 X.2.2.2.2.2.2.2.2.1 X.2.2.2.2.2.2.2.2.2 H locs kc ks Q (F0 X.2.2.2.2.2.1 pc ls st0) := by
  intro T hT XX
  obtain ⟨v, st₀, t, T', L, h0, X', hL', e1, e2, ⟨⟨v2, c1, hv, hq, hlen, hP1⟩, hz, hk⟩, stp⟩ := hr T hT XX
  cases hv
  rw [h0] at hz hk
  have hF := call_A hpk hD hS hA
  obtain ⟨hP2, hD2⟩ := call_back (H1 := t.heap) hpk hnd hP hD hlen hk hP1
  obtain ⟨t2, a1, b1⟩ := kk v c1 hq hlen ls t.heap (locs ++ L) hL hP2 hD2
    ⟨Nat.le_trans hS.1 hz, fun q h1 h2 => by rw [hk q (Nat.lt_of_lt_of_le h1 hS.1) (fun z => h2 (hF q z))]; exact hS.2.1 q h1 h2, fun q hq => by
      rcases List.mem_append.mp hq with h | h
      · exact hS.2.2 q h
      · exact hF _ (hL' q h)⟩ T' e1 X'
  exact ⟨t2, stp t2 a1, b1⟩
theorem Ct.blind {sz : Nat} : FrameBlind (va_Pc As (fun U => U.heap.size = sz ∧ va_P D.1 vcl (wsO ad cs) U.heap ∧ va_D (fun _ => True) (wsO ad cs) ∧ va_K D.1 vcl (tysO D) U ∧ NL U)) := by
  intro a U g mk ⟨h1, h2, h3, h4, h5, h6⟩
  exact ⟨h1, h2, h3, h4, va_K.moved (u := U) (U := U.calling g mk a) (Vm.Alike.refl U.vm) h5, fun q hq => va_Nw.same rfl rfl (h6 q hq)⟩
theorem TB_pay {s : State} {args : Array Value} {w0 : Cond} (hts : ∀ w ∈ TB, w.before args s = true) (h0 : w0 ∈ TB) : ∀ w ∈ w0 :: TB, ∀ (a' : Array Value) (U : State), s.WarmedH U.vm → w.before a' U = true := by
  intro w hw a' U hW
  have hw' : w ∈ TB := by
    rcases List.mem_cons.mp hw with h | h
    · rw [h]; exact h0
    · exact h
  exact word_at hW (TB_good w hw') (hts w hw')
/-- what the tables say of a method: its code, what its descriptor takes -/
def MC (mi : MI) (np : Nat) : Prop := Cond.code mi.1 mi.2.1 mi.2.2.1 mi.2.2.2.1 ∈ TB ∧ Cond.initialized mi.1.cls ∈ TB ∧ (mi.1.cls ≠ "java/lang/invoke/MethodHandle" ∧ mi.1.cls ≠ "java/lang/invoke/VarHandle") ∧ (parseMethodDescriptor mi.1.desc).map (fun d => d.parameters.length) = some np
theorem MC.len {np : Nat} (h : MC mi np) : ∀ sig, parseMethodDescriptor mi.1.desc = some sig → np = sig.parameters.length := fun sig hs => by
  have h2 := h.2.2.2
  rw [hs] at h2
  exact (Option.some.inj h2).symm
def MV (own : String) (i : Nat) (mi : MI) (ci np : Nat) : Prop := MC mi np ∧ Cond.methodLink own i mi.1 ∈ TB ∧ Cond.instanceMethod mi.1 ∈ TB ∧ Cond.selects mi.1.cls mi.1 mi.1 ∈ TB ∧ ∃ (T : u_T) (N : Nat), vcl[ci]? = some (mi.1.cls, T, N)
def MS (own : String) (i : Nat) (mi : MI) (np : Nat) : Prop := MC mi np ∧ Cond.methodLink own i mi.1 ∈ TB ∧ Cond.static mi.1 ∈ TB
def MN (own : String) (i : Nat) (mi : MI) (np : Nat) : Prop := MC mi np ∧ (∃ host, (own, i, mi.1, host) ∈ nst) ∧ Cond.static mi.1 ∈ TB
theorem G_callv (M : CX D X A own cc nL R) {i ci np a : Nat} {fs : List Value} (is : List Nat) (d : decode cc pc = .ok (.invokevirtual i, 3)) (V : MV own i mi ci np) (C : Ct D X.2.1 mi (.ref (ad a) :: As) (fun j => ad (pn is j)) wc Qm) (hc : gt cs a = some (ob ci fs)) (hpk : Pk cs is wc) (hst : st0 = pushArgs (.ref (ad a) :: As) st) (hlv : lv.length = nL) (hnp : As.length = np) (hnd : va_nd is = true) (hw : (st.map fun v => v.category).sum ≤ 8) (hf : mi.2.2.2.2.1 + 1 ≤ R.frames) (hlo : 8 + (mi.2.2.1 + 11) + mi.2.2.2.2.2 ≤ R.locals) (hcs : kc ≤ R.cells ∧ ks ≤ R.slots)
    (kk : ∀ (v : Option Value) (c1 : List va_E), Qm v c1 → c1.length = wc.length → G D X A kc ks Q ad (pc + 3) lv (v.toList ++ st) (sall cs is c1)) : G D X A kc ks Q ad pc lv st0 cs := fun ls H locs hL hP hD hS => by
  obtain ⟨hx, hb, hml, hown, hts, hK, hN, hA, hR⟩ := M
  obtain ⟨V0, V1, V2, V3, T, N, V4⟩ := V
  subst hst
  rw [pushArgs_eq, List.reverse_cons, List.append_assoc]
  refine G_back is hpk hnd hL hP hD hS hA (va_runV (ws := Cond.code mi.1 mi.2.1 mi.2.2.1 mi.2.2.2.1 :: TB) (rm := miR mi) (C := mi.1.cls) (n := np) ⟨hx, hb, hml, hown, hts⟩ (C H.size) ⟨⟨rfl, rfl, by rw [hR]; exact hf, by rw [hR]; exact hlo, TB_pay hts V0.1, List.mem_cons_self, hts _ V0.1, hts _ V0.2.1, V0.2.2.1, V0.len, hts _ V1⟩, hts _ V2, hts _ V3⟩
    ⟨Ct.blind, va_recv hK hP V4 (wsO_at hc), fun U hU hW => ⟨rfl, by rw [hU], by rw [hU]; exact call_P hpk hP, call_D hpk hnd hD (fun _ _ => trivial), va_K.moved hW.alike hK, hN.warm hW⟩⟩ rfl hnp (hL.1.trans hlv) rfl (lv_room hw) d (by rw [hR]; exact hcs)) kk
theorem G_calls (M : CX D X A own cc nL R) {i np : Nat} (is : List Nat) (d : decode cc pc = .ok (.invokestatic i, 3)) (V : MS own i mi np) (C : Ct D X.2.1 mi As (fun j => ad (pn is j)) wc Qm) (hpk : Pk cs is wc) (hst : st0 = pushArgs As st) (hlv : lv.length = nL) (hnp : As.length = np) (hnd : va_nd is = true) (hw : (st.map fun v => v.category).sum ≤ 8) (hf : mi.2.2.2.2.1 + 1 ≤ R.frames) (hlo : 8 + (mi.2.2.1 + 11) + mi.2.2.2.2.2 ≤ R.locals) (hcs : kc ≤ R.cells ∧ ks ≤ R.slots)
    (kk : ∀ (v : Option Value) (c1 : List va_E), Qm v c1 → c1.length = wc.length → G D X A kc ks Q ad (pc + 3) lv (v.toList ++ st) (sall cs is c1)) : G D X A kc ks Q ad pc lv st0 cs := fun ls H locs hL hP hD hS => by
  obtain ⟨hx, hb, hml, hown, hts, hK, hN, hA, hR⟩ := M
  obtain ⟨V0, V1, V2⟩ := V
  subst hst
  rw [pushArgs_eq]
  refine G_back is hpk hnd hL hP hD hS hA (va_runS (ws := Cond.code mi.1 mi.2.1 mi.2.2.1 mi.2.2.2.1 :: TB) (rm := miR mi) (n := np) ⟨hx, hb, hml, hown, hts⟩ (C H.size) ⟨⟨rfl, rfl, by rw [hR]; exact hf, by rw [hR]; exact hlo, TB_pay hts V0.1, List.mem_cons_self, hts _ V0.1, hts _ V0.2.1, V0.2.2.1, V0.len, hts _ V1⟩, hts _ V2⟩
    ⟨Ct.blind, fun U hU hW => ⟨rfl, by rw [hU], by rw [hU]; exact call_P hpk hP, call_D hpk hnd hD (fun _ _ => trivial), va_K.moved hW.alike hK, hN.warm hW⟩⟩ rfl hnp (hL.1.trans hlv) rfl (lv_room hw) d (by rw [hR]; exact hcs)) kk
theorem G_calln (M : CX D X A own cc nL R) {i np : Nat} (is : List Nat) (d : decode cc pc = .ok (.invokestatic i, 3)) (V : MN own i mi np) (C : Ct D X.2.1 mi As (fun j => ad (pn is j)) wc Qm) (hpk : Pk cs is wc) (hst : st0 = pushArgs As st) (hlv : lv.length = nL) (hnp : As.length = np) (hnd : va_nd is = true) (hw : (st.map fun v => v.category).sum ≤ 8) (hf : mi.2.2.2.2.1 + 1 ≤ R.frames) (hlo : 8 + (mi.2.2.1 + 11) + mi.2.2.2.2.2 ≤ R.locals) (hcs : kc ≤ R.cells ∧ ks ≤ R.slots)
    (kk : ∀ (v : Option Value) (c1 : List va_E), Qm v c1 → c1.length = wc.length → G D X A kc ks Q ad (pc + 3) lv (v.toList ++ st) (sall cs is c1)) : G D X A kc ks Q ad pc lv st0 cs := fun ls H locs hL hP hD hS => by
  obtain ⟨hx, hb, hml, hown, hts, hK, hN, hA, hR⟩ := M
  obtain ⟨V0, ⟨host, V1⟩, V2⟩ := V
  subst hst
  rw [pushArgs_eq]
  refine G_back is hpk hnd hL hP hD hS hA (va_runSN (ws := Cond.code mi.1 mi.2.1 mi.2.2.1 mi.2.2.2.1 :: TB) (rm := miR mi) (n := np) (host := host) (index := i) ⟨hx, hb, hml, hown, hts⟩ (C H.size) ⟨⟨⟨rfl, rfl, by rw [hR]; exact hf, by rw [hR]; exact hlo, TB_pay hts V0.1, List.mem_cons_self⟩, hts _ V0.1, hts _ V0.2.1, V0.2.2.1, V0.len, va_Nw.use rfl (hN _ V1)⟩, hts _ V2, trivial⟩
    ⟨Ct.blind, fun U hU hW => ⟨rfl, by rw [hU], by rw [hU]; exact call_P hpk hP, call_D hpk hnd hD (fun _ _ => trivial), va_K.moved hW.alike hK, hN.warm hW⟩⟩ rfl hnp (hL.1.trans hlv) rfl (lv_room hw) d (by rw [hR]; exact hcs)) kk
end GR3
