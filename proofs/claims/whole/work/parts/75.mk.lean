/-! making cells: the addresses stand in a list -/
theorem pn_l : ∀ (L N : List Nat) (k : Nat), k < L.length → pn (L ++ N) k = pn L k
  | [], _, k, h => absurd h (Nat.not_lt_zero k)
  | a :: L, N, 0, _ => rfl
  | a :: L, N, k + 1, h => pn_l L N k (by simpa using h)
theorem pn_r : ∀ (L N : List Nat) (k : Nat), pn (L ++ N) (L.length + k) = pn N k
  | [], N, k => by simp
  | a :: L, N, k => by
    have := pn_r L N k
    rw [show (a :: L).length + k = (L.length + k) + 1 by simp; omega]
    exact this
theorem wsO_app {L N : List Nat} {cs ds : List va_E} (h : L.length = cs.length) : wsO (pn (L ++ N)) (cs ++ ds) = wsO (pn L) cs ++ wsO (pn N) ds := by
  apply List.ext_getElem?
  intro i
  rw [wsO_get]
  by_cases hi : i < cs.length
  · rw [List.getElem?_append_left hi, List.getElem?_append_left (by simp [wsO]; exact hi), wsO_get, pn_l L N i (by omega)]
  · obtain ⟨k, rfl⟩ : ∃ k, i = L.length + k := ⟨i - L.length, by omega⟩
    rw [List.getElem?_append_right (by omega), List.getElem?_append_right (by simp [wsO]; omega), wsO_get, pn_r]
    simp only [wsO, List.length_mapIdx]
    rw [show L.length + k - cs.length = k by omega]
theorem wsO_1 {L : List Nat} {cs : List va_E} {q : Nat} {c : va_E} (h : L.length = cs.length) : wsO (pn (L ++ [q])) (cs ++ [c]) = wsO (pn L) cs ++ [(q, c)] := wsO_app h
theorem arr_id {D : DD} {s : State} {k : Nat} {cA : ClassId} {ty : FieldType} (hK : va_K D.1 vcl (tysO D) s) (hk : (tysO D)[k]? = some (D.2 k, ty)) (hK1 : va_K D.1 vcl (tysO D ++ [(cA, ty)]) s) (hty : ∀ c, va_RA s c ty → s.vm.findClass ("[" ++ ty.toString) = some c) : cA = D.2 k := by
  have h1 := hty _ (hK.2 k _ hk).2
  have h2 := hty _ (hK1.2 (tysO D).length (cA, ty) (by rw [List.getElem?_append_right (Nat.le_refl _)]; simp)).2
  exact Option.some.inj (h2.symm.trans h1)
theorem ra_obj {s : State} {C : String} (c : ClassId) (h : va_RA s c (.object C)) : s.vm.findClass ("[" ++ (FieldType.object C).toString) = some c := by
  obtain ⟨_, _, _, _, _, h⟩ := h
  exact h
theorem tb_ai : Cond.arrayClass .int ∈ TB := by decide +kernel
theorem tb_al : Cond.arrayClass .long ∈ TB := by decide +kernel
theorem tb_ab : Cond.arrayClass .boolean ∈ TB := by decide +kernel
section
variable {D : DD} {X : MX} {A : Nat → Prop} {own : String} {cc : ByteArray} {nL kc ks : Nat} {R : Room} {Q : State → Prop} {pc : Nat} {lv : List (Option Value)} {st : List Value} {cs : List va_E} {L : List Nat}
theorem G_newi (M : CX D X A own cc nL R) {n : Nat} {x : Int32} (d : decode cc pc = .ok (.newarray .int, 2)) (hx : x = nI n) (hn : n < 100000) (hl : L.length = cs.length) (hc : kc + 1 ≤ R.cells) (hs : ks + n ≤ R.slots) (k : ∀ q, G D X A (kc + 1) (ks + n) Q (pn (L ++ [q])) (pc + 2) lv (.ref q :: st) (cs ++ [ia D n (fun _ => 0)])) : G D X A kc ks Q (pn L) pc lv (.int x :: st) cs := fun ls H locs hL hP hD hS => by
  obtain ⟨hx1, hb, hml, hown, hts, hK, hN, hA, hR⟩ := M
  refine va_newa (atype := .int) hx1 hb (hts _ tb_ai) rfl hK hP hD hS hA (a0 := (n, .inl (fun _ => 0))) (fun cA => rfl) (by rw [hx]; exact nI_pos (by omega)) (by rw [hx]; exact nI_clamp (by omega)) (by show n * 4 ≤ _; omega) (by rw [hR]; exact hc) (by rw [hR]; exact hs) d (fun q cA H1 hK1 hP1 hD1 hS1 => ?_)
  have e := arr_id (k := 0) hK rfl hK1 (fun c h => h)
  subst e
  refine k q ls H1 locs hL ?_ ?_ hS1
  · rw [wsO_1 hl]; exact hP1
  · rw [wsO_1 hl]; exact hD1
theorem G_newl (M : CX D X A own cc nL R) {n : Nat} {x : Int32} (d : decode cc pc = .ok (.newarray .long, 2)) (hx : x = nI n) (hn : n < 100000) (hl : L.length = cs.length) (hc : kc + 1 ≤ R.cells) (hs : ks + n ≤ R.slots) (k : ∀ q, G D X A (kc + 1) (ks + n) Q (pn (L ++ [q])) (pc + 2) lv (.ref q :: st) (cs ++ [la D n (fun _ => 0)])) : G D X A kc ks Q (pn L) pc lv (.int x :: st) cs := fun ls H locs hL hP hD hS => by
  obtain ⟨hx1, hb, hml, hown, hts, hK, hN, hA, hR⟩ := M
  refine va_newa (atype := .long) hx1 hb (hts _ tb_al) rfl hK hP hD hS hA (a0 := (n, .inr (.inl (fun _ => 0)))) (fun cA => rfl) (by rw [hx]; exact nI_pos (by omega)) (by rw [hx]; exact nI_clamp (by omega)) (by show n * 8 ≤ _; omega) (by rw [hR]; exact hc) (by rw [hR]; exact hs) d (fun q cA H1 hK1 hP1 hD1 hS1 => ?_)
  have e := arr_id (k := 1) hK rfl hK1 (fun c h => h)
  subst e
  refine k q ls H1 locs hL ?_ ?_ hS1
  · rw [wsO_1 hl]; exact hP1
  · rw [wsO_1 hl]; exact hD1
theorem G_newz (M : CX D X A own cc nL R) {n : Nat} {x : Int32} (d : decode cc pc = .ok (.newarray .boolean, 2)) (hx : x = nI n) (hn : n < 100000) (hl : L.length = cs.length) (hc : kc + 1 ≤ R.cells) (hs : ks + n ≤ R.slots) (k : ∀ q, G D X A (kc + 1) (ks + n) Q (pn (L ++ [q])) (pc + 2) lv (.ref q :: st) (cs ++ [za D n (fun _ => 0)])) : G D X A kc ks Q (pn L) pc lv (.int x :: st) cs := fun ls H locs hL hP hD hS => by
  obtain ⟨hx1, hb, hml, hown, hts, hK, hN, hA, hR⟩ := M
  refine va_newa (atype := .boolean) hx1 hb (hts _ tb_ab) rfl hK hP hD hS hA (a0 := (n, .inl (fun _ => 0))) (fun cA => rfl) (by rw [hx]; exact nI_pos (by omega)) (by rw [hx]; exact nI_clamp (by omega)) (by show n * 1 ≤ _; omega) (by rw [hR]; exact hc) (by rw [hR]; exact hs) d (fun q cA H1 hK1 hP1 hD1 hS1 => ?_)
  have e := arr_id (k := 2) hK rfl hK1 (fun c h => h)
  subst e
  refine k q ls H1 locs hL ?_ ?_ hS1
  · rw [wsO_1 hl]; exact hP1
  · rw [wsO_1 hl]; exact hD1
/-- what the tables say of a made object -/
def NW (own : String) (i ci N : Nat) (fs : List Value) : Prop := ∃ (C : String) (T : u_T) (tf : Nat → FieldType), vcl[ci]? = some (C, T, N) ∧ (∀ w ∈ u_ws C T N, w ∈ TB) ∧ (∀ k, k < N → parseFieldDescriptor (T k).2.2.1 = some (tf k)) ∧ Cond.classLink own i C ∈ TB ∧ Cond.instantiable C N ∈ TB ∧ Cond.initialized C ∈ TB ∧ ∀ j, j < N → defaultValue (tf j) = vp_V fs j
theorem G_new (M : CX D X A own cc nL R) {i ci N : Nat} {fs : List Value} (d : decode cc pc = .ok (.new i, 3)) (F : NW own i ci N fs) (hl : L.length = cs.length) (hc : kc + 1 ≤ R.cells) (hs : ks + N ≤ R.slots) (k : ∀ q, G D X A (kc + 1) (ks + N) Q (pn (L ++ [q])) (pc + 3) lv (.ref q :: st) (cs ++ [ob ci fs])) : G D X A kc ks Q (pn L) pc lv st cs := fun ls H locs hL hP hD hS => by
  obtain ⟨hx1, hb, hml, hown, hts, hK, hN, hA, hR⟩ := M
  obtain ⟨C, T, tf, f1, f2, f3, f4, f5, f6, f7⟩ := F
  refine va_new hx1 hb hts f2 tf f3 hown (hts _ f4) (hts _ f5) (hts _ f6) hK hP hD hS hA f1 f7 (by rw [hR]; exact hc) (by rw [hR]; exact hs) d (fun q H1 hP1 hD1 hS1 => ?_)
  refine k q ls H1 locs hL ?_ ?_ hS1
  · rw [wsO_1 hl]; exact hP1
  · rw [wsO_1 hl]; exact hD1
theorem tb_oi : Cond.instanceMethod Lib.objectInit ∈ TB := by decide +kernel
theorem tb_oc : Cond.code Lib.objectInit ⟨#[0xb1]⟩ 1 none ∈ TB := by decide +kernel
theorem G_oinit (M : CX D X A own cc nL R) {i a : Nat} {ad : Nat → Nat} (d : decode cc pc = .ok (.invokespecial i, 3)) (hw : Cond.methodLink own i Lib.objectInit ∈ TB) (hlv : lv.length = nL) (h8 : (st.map fun v => v.category).sum ≤ 8) (hf : 1 ≤ R.frames) (hlo : 20 ≤ R.locals) (k : G D X A kc ks Q ad (pc + 3) lv st cs) : G D X A kc ks Q ad pc lv (.ref a :: st) cs := fun ls H locs hL hP hD hS => by
  obtain ⟨hx1, hb, hml, hown, hts, hK, hN, hA, hR⟩ := M
  refine W.objInit hx1 hb hown (hts _ hw) (hts _ tb_oi) (hts _ tb_oc) rfl (by rw [hml]; exact hL.1.trans hlv) rfl d (by rw [hR]; exact hf) ?_ (k ls H locs hL hP hD hS)
  show 2 * 0 + (st.map fun v => v.category).sum + 12 ≤ X.2.2.2.1.locals
  rw [hR]
  omega
theorem G_putr (M : CX D X A own cc nL R) (hi : X.2.2.2.2.2.2.2.2.1.name = "<init>") {ad : Nat → Nat} (a : Nat) {i ci f q : Nat} {ty : FieldType} {fs : List Value} (d : decode cc pc = .ok (.putfield i, 3)) (F : FL own i ci f ty true) (hn : narrow ty (.ref q) = .ref q) (hfit : fits ty (.ref q) = true) (hc : gt cs a = some (ob ci fs)) (hl : f < fs.length) {o : Nat} (ho : o = ad a) (k : G D X A kc ks Q ad (pc + 3) lv st (cs.set a (ob ci (fs.set f (.ref q))))) : G D X A kc ks Q ad pc lv (.ref q :: .ref o :: st) cs := fun ls H locs hL hP hD hS => by
  subst ho
  obtain ⟨C, T, N, tf, h1, h2, h3, h4, h5, h6, h7, h8, h9⟩ := F
  refine va_putF M.1 M.2.1 M.2.2.2.2.1 h3 tf h4 h5 M.2.2.2.1 M.2.2.2.2.2.1 hP hD hS a (wsO_at hc) h1 f h2 (M.2.2.2.2.1 _ h6) (fun _ h => h) h7 hi (h9 rfl) h8 hn hfit hl d (fun H1 locs1 hP1 hD1 hS1 => ?_)
  rw [wsO_set] at hP1 hD1
  exact k ls H1 locs1 hL hP1 hD1 hS1
end
/-! constructors -/
def miN (mi : MI) (kc ks : Nat) : Room := { frames := mi.2.2.2.2.1, cells := kc, slots := ks, locals := mi.2.2.2.2.2 }
def IQ (D : DD) (o : Nat) (A : Nat → Prop) (cf : (Nat → Nat) → List va_E) : Array Value → State → Outcome → State → Prop := fun _ st oc t => (∃ N : List Nat, oc = .returned none ∧ N.length + 1 = (cf (pn (o :: N))).length ∧ va_P D.1 vcl (wsO (pn (o :: N)) (cf (pn (o :: N)))) t.heap ∧ va_D A (wsO (pn (o :: N)) (cf (pn (o :: N))))) ∧ va_F A st t
def CI (D : DD) (l : Launch) (mi : MI) (kc ks : Nat) (E : State → Prop) (c0 : va_E) (cf : (Nat → Nat) → List va_E) : Prop := ∀ o sz : Nat, Met l mi.1 (Cond.code mi.1 mi.2.1 mi.2.2.1 mi.2.2.2.1 :: TB) (miN mi kc ks) (va_Pc [.ref o] (fun U => U.heap.size = sz ∧ va_P D.1 vcl (wsO (pn [o]) [c0]) U.heap ∧ va_D (fun _ => True) (wsO (pn [o]) [c0]) ∧ va_K D.1 vcl (tysO D) U ∧ NL U ∧ E U)) (IQ D o (va_A (wsO (pn [o]) [c0]) sz) cf) kc ks (va_A (wsO (pn [o]) [c0]) sz)
def GI (D : DD) (X : MX) (A : Nat → Prop) (o kc ks : Nat) (cf : (Nat → Nat) → List va_E) : State → Prop := MQ X.2.2.2.2.2.2.2.1 (IQ D o A cf) X.2.2.2.2.2.2.1 X.2.2.2.2.1 kc ks A
theorem CI.of {D : DD} {l : Launch} {mi : MI} {kc ks : Nat} {E : State → Prop} {c0 : va_E} {cf : (Nat → Nat) → List va_E} (hy : plainName mi.1.cls = true) (hn : 1 ≤ mi.2.2.1) (hi : mi.1.name = "<init>")
    (body : ∀ (o : Nat) (X : MX) (A : Nat → Prop), X.2.1 = l → CX D X A mi.1.cls mi.2.1 mi.2.2.1 (miN mi kc ks) → RT X mi.2.2.2.1 → X.2.2.2.2.2.2.2.2.1.name = "<init>" → E X.2.2.2.2.1 → G D X A 0 0 (GI D X A o kc ks cf) (pn [o]) 0 (lent [.ref o] ++ lpad (mi.2.2.1 - 1)) [] [c0]) : CI D l mi kc ks E c0 cf := by
  intro o sz
  refine Met.ofW (cc := mi.2.1) (maxL := mi.2.2.1) (ret := mi.2.2.2.1) hy rfl ?_
  intro p e s m args below meth c s₁ B hml hv
  obtain ⟨rfl, hsz, hP, hD0, hK, hN, hE⟩ := hv
  have hts := atoms_spec (ws := Cond.code mi.1 mi.2.1 mi.2.2.1 mi.2.2.2.1 :: TB) B.pre
  have hown : s.vm.findClass mi.1.cls = some m.cls := findClass_of_methodNamed B.named
  have hin : meth.name = mi.1.name := (name_of_methodNamed B.named B.method).1
  subst hsz
  have hD := hD0.self (sz := s.heap.size)
  have hl := LH.entry [.ref o] hn
  rw [lg_entry_eq]
  exact body o (p, l, e, (headSpec (Cond.code mi.1 mi.2.1 mi.2.2.1 mi.2.2.2.1 :: TB) (miN mi kc ks)).room, s, m, [Value.ref o].toArray, below, meth, c) (va_A (wsO (pn [o]) [c0]) s.heap.size) rfl
    ⟨B.exec, B.bytes, hml, hown, fun w hw => hts w (List.mem_cons_of_mem _ hw), hK, hN, fun q h => Or.inr h, rfl⟩ ⟨B.returns, B.notSynchronized⟩ (hin.trans hi) hE _ _ _ hl hP hD va_S.rf
section
variable {D : DD} {X : MX} {A : Nat → Prop} {own : String} {cc : ByteArray} {nL kc ks : Nat} {R : Room} {Q : State → Prop} {pc : Nat} {lv : List (Option Value)} {st : List Value} {cs : List va_E} {L : List Nat}
theorem G_cret (M : CX D X A own cc nL R) (hr : RT X none) {o : Nat} {N : List Nat} {cf : (Nat → Nat) → List va_E} (d : decode cc pc = .ok (.return_, 1)) (hc : cs = cf (pn (o :: N))) (hn : N.length + 1 = cs.length) : G D X A kc ks (GI D X A o kc ks cf) (pn (o :: N)) pc lv [] cs := fun ls H locs hL hP hD hS => by
  subst hc
  exact W.vret M.1 M.2.1 hr.1 (fun t ht hW => ⟨⟨N, rfl, hn, by rw [ht]; exact hP, hD⟩, hS.F ht⟩) hS.2.2 d hr.2
theorem CI.blind {o sz : Nat} {E : State → Prop} (hEb : ∀ U V : State, U.vm.Alike V.vm → E U → E V) {c0 : va_E} : FrameBlind (va_Pc [.ref o] (fun U => U.heap.size = sz ∧ va_P D.1 vcl (wsO (pn [o]) [c0]) U.heap ∧ va_D (fun _ => True) (wsO (pn [o]) [c0]) ∧ va_K D.1 vcl (tysO D) U ∧ NL U ∧ E U)) := by
  intro a U g mk ⟨h1, h2, h3, h4, h5, h6, h7⟩
  exact ⟨h1, h2, h3, h4, va_K.moved (u := U) (U := U.calling g mk a) (Vm.Alike.refl U.vm) h5, fun q hq => va_Nw.same rfl rfl (h6 q hq), hEb U (U.calling g mk a) (Vm.Alike.refl U.vm) h7⟩
/-- behind a constructor -/
theorem G_cback {q mc ms : Nat} {c0 : va_E} {cf : (Nat → Nat) → List va_E} {st0 : List Value} (hl : L.length = cs.length) {ls : Array Slot} {H : Heap} {locs : List Loc} {a : Array Value} (hL : LH ls lv) (hP : va_P D.1 vcl (wsO (pn (L ++ [q])) (cs ++ [c0])) H) (hD : va_D A (wsO (pn (L ++ [q])) (cs ++ [c0]))) (hS : va_S A X.2.2.2.2.1.heap H locs) (hA : ∀ q : Nat, X.2.2.2.2.1.heap.size ≤ q → A q)
    (hr : va_Run X.1 X.2.1 X.2.2.1 X.2.2.2.1 X.2.2.2.2.1 X.2.2.2.2.2.1 X.2.2.2.2.2.2.1 X.2.2.2.2.2.2.2.1 X.2.2.2.2.2.2.2.2.1 X.2.2.2.2.2.2.2.2.2 H locs kc ks mc ms (F0 X.2.2.2.2.2.1 pc ls st0) st (IQ D q (va_A (wsO (pn [q]) [c0]) H.size) cf a) (va_A (wsO (pn [q]) [c0]) H.size))
    (kk : ∀ N : List Nat, N.length + 1 = (cf (pn (q :: N))).length → G D X A (kc + mc) (ks + ms) Q (pn (L ++ q :: N)) (pc + 3) lv st (cs ++ cf (pn (q :: N)))) :
    W X.1 X.2.1 X.2.2.1 X.2.2.2.1 X.2.2.2.2.1 X.2.2.2.2.2.1 X.2.2.2.2.2.2.1 X.2.2.2.2.2.2.2.1 X.2.2.2.2.2.2.2.2.1 X.2.2.2.2.2.2.2.2.2 H locs kc ks Q (F0 X.2.2.2.2.2.1 pc ls st0) := by
  intro T hT XX
  obtain ⟨v, st₀, t, T', Lc, h0, X', hL', e1, e2, ⟨⟨N, hv, hlen, hP1, hD1⟩, hz, hk⟩, stp⟩ := hr T hT XX
  cases hv
  rw [h0] at hz hk
  rw [wsO_1 hl] at hP hD
  have hlen2 : (wsO (pn L) cs).length = cs.length := by simp [wsO]
  have hq : (wsO (pn L) cs ++ [(q, c0)])[cs.length]? = some (q, c0) := by rw [List.getElem?_append_right (by omega), hlen2]; simp
  have hold : ∀ (k : Nat) (x : Nat × va_E), (wsO (pn L) cs)[k]? = some x → k < cs.length ∧ (wsO (pn L) cs ++ [(q, c0)])[k]? = some x := fun k x hx => by
    have := (List.getElem?_eq_some_iff.mp hx).1
    exact ⟨by omega, by rw [List.getElem?_append_left this]; exact hx⟩
  have hF : ∀ z, va_A (wsO (pn [q]) [c0]) H.size z → A z := by
    rintro z (⟨k, e, h⟩ | h)
    · cases k with
      | zero =>
        have : z = q := by have h2 : some (q, c0) = some (z, e) := h; exact (congrArg Prod.fst (Option.some.inj h2)).symm
        rw [this]
        exact hD.2 cs.length (q, c0) hq
      | succ k => exact absurd h (by simp [wsO])
    · exact hA z (Nat.le_trans hS.1 h)
  have hnot : ∀ (k : Nat) (x : Nat × va_E), (wsO (pn L) cs)[k]? = some x → ¬ va_A (wsO (pn [q]) [c0]) H.size x.1 := by
    intro k x hx
    obtain ⟨g1, g2⟩ := hold k x hx
    rintro (⟨j, e, h⟩ | h)
    · cases j with
      | zero =>
        have : q = x.1 := by have h2 : some (q, c0) = some (x.1, e) := h; exact congrArg Prod.fst (Option.some.inj h2)
        have := hD.1 cs.length k (q, c0) x hq g2 this
        omega
      | succ j => exact absurd h (by simp [wsO])
    · exact absurd (hP k x g2).lt (by simpa using h)
  have hP2 : va_P D.1 vcl (wsO (pn (L ++ q :: N)) (cs ++ cf (pn (q :: N)))) t.heap := by
    rw [wsO_app hl]
    intro k x hx
    by_cases hkl : k < cs.length
    · rw [List.getElem?_append_left (by omega)] at hx
      exact (hP k x (hold k x hx).2).kept (hk _ (hP k x (hold k x hx).2).lt (hnot k x hx))
    · rw [List.getElem?_append_right (by omega)] at hx
      exact hP1 _ x hx
  have hD2 : va_D A (wsO (pn (L ++ q :: N)) (cs ++ cf (pn (q :: N)))) := by
    rw [wsO_app hl]
    refine ⟨fun i j x y hx hy hxy => ?_, fun k x hx => ?_⟩
    · by_cases hi : i < cs.length
      · rw [List.getElem?_append_left (by omega)] at hx
        by_cases hj : j < cs.length
        · rw [List.getElem?_append_left (by omega)] at hy
          exact hD.1 i j x y (hold i x hx).2 (hold j y hy).2 hxy
        · rw [List.getElem?_append_right (by omega)] at hy
          exact absurd (by rw [hxy]; exact hD1.2 _ y hy) (hnot i x hx)
      · rw [List.getElem?_append_right (by omega)] at hx
        by_cases hj : j < cs.length
        · rw [List.getElem?_append_left (by omega)] at hy
          exact absurd (by rw [← hxy]; exact hD1.2 _ x hx) (hnot j y hy)
        · rw [List.getElem?_append_right (by omega)] at hy
          have := hD1.1 _ _ x y hx hy hxy
          omega
    · by_cases hi : k < cs.length
      · rw [List.getElem?_append_left (by omega)] at hx
        exact hD.2 k x (hold k x hx).2
      · rw [List.getElem?_append_right (by omega)] at hx
        exact hF _ (hD1.2 _ x hx)
  obtain ⟨t2, a1, b1⟩ := kk N hlen ls t.heap (locs ++ Lc) hL hP2 hD2
    ⟨Nat.le_trans hS.1 hz, fun z h1 h2 => by rw [hk z (Nat.lt_of_lt_of_le h1 hS.1) (fun w => h2 (hF z w))]; exact hS.2.1 z h1 h2, fun z hq => by
      rcases List.mem_append.mp hq with h | h
      · exact hS.2.2 z h
      · exact hF _ (hL' z h)⟩ T' e1 X'
  exact ⟨t2, stp t2 a1, b1⟩
/-- what the tables say of a constructor: by a link, by a link in the nest -/
def KP (own : String) (i : Nat) (mi : MI) : Prop := MC mi 0 ∧ Cond.methodLink own i mi.1 ∈ TB ∧ mi.1.name = "<init>" ∧ Cond.instanceMethod mi.1 ∈ TB ∧ mi.2.2.2.1 = none
def KN (own : String) (i : Nat) (mi : MI) : Prop := MC mi 0 ∧ (∃ host, (own, i, mi.1, host) ∈ nst) ∧ mi.1.name = "<init>" ∧ Cond.instanceMethod mi.1 ∈ TB ∧ mi.2.2.2.1 = none
theorem init_P {q : Nat} {c0 : va_E} {H : Heap} (hl : L.length = cs.length) (hP : va_P D.1 vcl (wsO (pn (L ++ [q])) (cs ++ [c0])) H) : va_P D.1 vcl (wsO (pn [q]) [c0]) H := by
  rw [wsO_1 hl] at hP
  have hlen2 : (wsO (pn L) cs).length = cs.length := by simp [wsO]
  intro k x hx
  cases k with
  | zero =>
    have : (q, c0) = x := Option.some.inj hx
    subst this
    exact hP cs.length (q, c0) (by rw [List.getElem?_append_right (by omega), hlen2]; simp)
  | succ k => exact absurd hx (by simp [wsO])
theorem init_D {q : Nat} {c0 : va_E} : va_D (fun _ => True) (wsO (pn [q]) [c0]) := by
  refine ⟨fun i j x y hx hy _ => ?_, fun _ _ _ => trivial⟩
  have h1 : i < 1 := (List.getElem?_eq_some_iff.mp hx).1
  have h2 : j < 1 := (List.getElem?_eq_some_iff.mp hy).1
  omega
theorem G_initP (M : CX D X A own cc nL R) {i q mc ms : Nat} {mi : MI} {E : State → Prop} {c0 : va_E} {cf : (Nat → Nat) → List va_E} (d : decode cc pc = .ok (.invokespecial i, 3)) (V : KP own i mi) (C : CI D X.2.1 mi mc ms E c0 cf) (hEb : ∀ U V : State, U.vm.Alike V.vm → E U → E V) (hE : E X.2.2.2.2.1) (hl : L.length = cs.length) (hlv : lv.length = nL) (hw : (st.map fun v => v.category).sum ≤ 8) (hf : mi.2.2.2.2.1 + 1 ≤ R.frames) (hlo : 8 + (mi.2.2.1 + 11) + mi.2.2.2.2.2 ≤ R.locals) (hc : kc + mc ≤ R.cells) (hs : ks + ms ≤ R.slots)
    (kk : ∀ N : List Nat, N.length + 1 = (cf (pn (q :: N))).length → G D X A (kc + mc) (ks + ms) Q (pn (L ++ q :: N)) (pc + 3) lv st (cs ++ cf (pn (q :: N)))) : G D X A kc ks Q (pn (L ++ [q])) pc lv (.ref q :: st) (cs ++ [c0]) := fun ls H locs hL hP hD hS => by
  obtain ⟨hx, hb, hml, hown, hts, hK, hN, hA, hR⟩ := M
  obtain ⟨V0, V1, V2, V3, V4⟩ := V
  obtain ⟨y, bs, nl, rt, fr, lc⟩ := mi
  replace V4 : rt = none := V4
  subst V4
  refine G_cback hl hL hP hD hS hA (va_runI (As := []) (b := q) (rest := st) (rm := miN (y, bs, nl, none, fr, lc) mc ms) (ws := Cond.code y bs nl none :: TB) (n := 0) ⟨hx, hb, hml, hown, hts⟩ (C q H.size) ⟨⟨rfl, rfl, by rw [hR]; exact hf, by rw [hR]; exact hlo, TB_pay hts V0.1, List.mem_cons_self, hts _ V0.1, hts _ V0.2.1, V0.2.2.1, V0.len, hts _ V1⟩, V2, hts _ V3⟩
    ⟨CI.blind hEb, fun U hU hW => ⟨rfl, by rw [hU], by rw [hU]; exact init_P hl hP, init_D, va_K.moved hW.alike hK, hN.warm hW, hEb _ U hW.alike hE⟩⟩ rfl rfl (hL.1.trans hlv) rfl (lv_room hw) d (by rw [hR]; exact ⟨hc, hs⟩)) kk
theorem G_initN (M : CX D X A own cc nL R) {i q mc ms : Nat} {mi : MI} {E : State → Prop} {c0 : va_E} {cf : (Nat → Nat) → List va_E} (d : decode cc pc = .ok (.invokespecial i, 3)) (V : KN own i mi) (C : CI D X.2.1 mi mc ms E c0 cf) (hEb : ∀ U V : State, U.vm.Alike V.vm → E U → E V) (hE : E X.2.2.2.2.1) (hl : L.length = cs.length) (hlv : lv.length = nL) (hw : (st.map fun v => v.category).sum ≤ 8) (hf : mi.2.2.2.2.1 + 1 ≤ R.frames) (hlo : 8 + (mi.2.2.1 + 11) + mi.2.2.2.2.2 ≤ R.locals) (hc : kc + mc ≤ R.cells) (hs : ks + ms ≤ R.slots)
    (kk : ∀ N : List Nat, N.length + 1 = (cf (pn (q :: N))).length → G D X A (kc + mc) (ks + ms) Q (pn (L ++ q :: N)) (pc + 3) lv st (cs ++ cf (pn (q :: N)))) : G D X A kc ks Q (pn (L ++ [q])) pc lv (.ref q :: st) (cs ++ [c0]) := fun ls H locs hL hP hD hS => by
  obtain ⟨hx, hb, hml, hown, hts, hK, hN, hA, hR⟩ := M
  obtain ⟨V0, ⟨host, V1⟩, V2, V3, V4⟩ := V
  obtain ⟨y, bs, nl, rt, fr, lc⟩ := mi
  replace V4 : rt = none := V4
  subst V4
  refine G_cback hl hL hP hD hS hA (va_runIN (As := []) (b := q) (rest := st) (rm := miN (y, bs, nl, none, fr, lc) mc ms) (ws := Cond.code y bs nl none :: TB) (n := 0) (host := host) (index := i) ⟨hx, hb, hml, hown, hts⟩ (C q H.size) ⟨⟨⟨rfl, rfl, by rw [hR]; exact hf, by rw [hR]; exact hlo, TB_pay hts V0.1, List.mem_cons_self⟩, hts _ V0.1, hts _ V0.2.1, V0.2.2.1, V0.len, va_Nw.use rfl (hN _ V1)⟩, V2, hts _ V3⟩
    ⟨CI.blind hEb, fun U hU hW => ⟨rfl, by rw [hU], by rw [hU]; exact init_P hl hP, init_D, va_K.moved hW.alike hK, hN.warm hW, hEb _ U hW.alike hE⟩⟩ rfl rfl (hL.1.trans hlv) rfl (lv_room hw) d (by rw [hR]; exact ⟨hc, hs⟩)) kk
theorem G_newq (M : CX D X A own cc nL R) {i n : Nat} {x : Int32} (d : decode cc pc = .ok (.anewarray i, 3)) (hw : Cond.classLink own i "StreamCounts$Stream" ∈ TB) (hE : va_AO "StreamCounts$Stream" X.2.2.2.2.1) (hx : x = nI n) (hn : n < 100000) (hl : L.length = cs.length) (hc : kc + 1 ≤ R.cells) (hs : ks + n ≤ R.slots) (k : ∀ q, G D X A (kc + 1) (ks + n) Q (pn (L ++ [q])) (pc + 3) lv (.ref q :: st) (cs ++ [qa D n (fun _ => none)])) : G D X A kc ks Q (pn L) pc lv (.int x :: st) cs := fun ls H locs hL hP hD hS => by
  obtain ⟨hx1, hb, hml, hown, hts, hK, hN, hA, hR⟩ := M
  refine va_newq hx1 hb hown (hts _ hw) hE hK hP hD hS hA (N' := n) (by rw [hx]; exact nI_pos (by omega)) (by rw [hx]; exact nI_clamp (by omega)) (by omega) (by rw [hR]; exact hc) (by rw [hR]; exact hs) d (fun q cA H1 hK1 hP1 hD1 hS1 => ?_)
  have e := arr_id (k := 3) hK rfl hK1 (fun c h => ra_obj c h)
  subst e
  refine k q ls H1 locs hL ?_ ?_ hS1
  · rw [wsO_1 hl]; exact hP1
  · rw [wsO_1 hl]; exact hD1
theorem G_aast (M : CX D X A own cc nL R) {ad : Nat → Nat} (a b : Nat) {n : Nat} {f : Nat → Option Nat} {fs : List Value} {j : Int32} {o q : Nat} (d : decode cc pc = .ok (.aastore, 1)) (hc : gt cs a = some (qa D n f)) (hv : gt cs b = some (ob 4 fs)) (ho : o = ad a) (hq : q = ad b) (hin : vp_in j n) (k : G D X A kc ks Q ad (pc + 1) lv st (cs.set a (qa D n (va_up f j.toNatClampNeg (some q))))) : G D X A kc ks Q ad pc lv (.ref q :: .int j :: .ref o :: st) cs := fun ls H locs hL hP hD hS => by
  subst ho
  subst hq
  refine va_astq M.1 M.2.1 M.2.2.2.2.2.1 hP hD hS a 3 b 4 (r := (RX4, TX4, 10)) (wsO_at hc) rfl (wsO_at hv) rfl hin d (fun H1 locs1 hP1 hD1 hS1 => ?_)
  have e := wsO_set ad cs a (qa D n (va_up f j.toNatClampNeg (some (ad b))))
  have hP2 : va_P D.1 vcl (wsO ad (cs.set a (qa D n (va_up f j.toNatClampNeg (some (ad b)))))) H1 := by rw [← e]; exact hP1
  have hD2 : va_D A (wsO ad (cs.set a (qa D n (va_up f j.toNatClampNeg (some (ad b)))))) := by rw [← e]; exact hD1
  exact k ls H1 locs1 hL hP2 hD2 hS1
end
theorem len_s {N : List Nat} {n : Nat} (h : N.length = n + 1) : ∃ a M, N = a :: M ∧ M.length = n := by
  cases N with
  | nil => simp at h
  | cons a M => exact ⟨a, M, rfl, by simpa using h⟩
