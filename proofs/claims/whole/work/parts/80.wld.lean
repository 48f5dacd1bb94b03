/-! the world of the law: the system, three streams, the reference -/
def world (D : DD) (ad : Nat → Nat) (lev : Int32) (Ps : Nat → SP) (R : RS) (rl : Int32) (le jo wy : Nat → Int32) : List va_E := [ob 6 [.ref (ad 1), .int lev], qa D 3 (sf ad), ob 4 [.ref (ad 3), .ref (ad 6), .ref (ad 10), .ref (ad 14), .ref (ad 16), .int (nI (sNn (Ps 0))), .int (nI (sKk (Ps 0))), .int (nI (sSt (Ps 0))), .long (sSd (Ps 0)), .int (sAg (Ps 0))], ob 0 [.ref (ad 4), .ref (ad 5), .int (nI (sNn (Ps 0))), .int (nI (sKk (Ps 0))), .int (sTk (Ps 0)), .int (sLo (Ps 0))], ia D 64 (sC (Ps 0)), ia D 64 (sTg (Ps 0)), ob 1 [.ref (ad 7), .ref (ad 8), .ref (ad 9), .int (nI (sFn (Ps 0)))], ia D 64 (sFt (Ps 0)), ia D 64 (sFk (Ps 0)), ia D 64 (sLd (Ps 0)), ob 5 [.ref (ad 11), .ref (ad 12), .ref (ad 13), .int (nI (sNn (Ps 0))), .int (nI (sSt (Ps 0))), .int (nI (sZ (Ps 0)))], ia D 512 (sTt (Ps 0)), ia D 512 (sTq (Ps 0)), la D 64 (sNb (Ps 0)), ob 2 [.ref (ad 15), .int (sPr (Ps 0))], ia D 64 (sMt (Ps 0)), ob 3 [.ref (ad 17), .int (nI (sNn (Ps 0))), .long (sSd (Ps 0))], la D 1920 (sS (Ps 0)), ob 4 [.ref (ad 19), .ref (ad 22), .ref (ad 26), .ref (ad 30), .ref (ad 32), .int (nI (sNn (Ps 1))), .int (nI (sKk (Ps 1))), .int (nI (sSt (Ps 1))), .long (sSd (Ps 1)), .int (sAg (Ps 1))], ob 0 [.ref (ad 20), .ref (ad 21), .int (nI (sNn (Ps 1))), .int (nI (sKk (Ps 1))), .int (sTk (Ps 1)), .int (sLo (Ps 1))], ia D 64 (sC (Ps 1)), ia D 64 (sTg (Ps 1)), ob 1 [.ref (ad 23), .ref (ad 24), .ref (ad 25), .int (nI (sFn (Ps 1)))], ia D 64 (sFt (Ps 1)), ia D 64 (sFk (Ps 1)), ia D 64 (sLd (Ps 1)), ob 5 [.ref (ad 27), .ref (ad 28), .ref (ad 29), .int (nI (sNn (Ps 1))), .int (nI (sSt (Ps 1))), .int (nI (sZ (Ps 1)))], ia D 512 (sTt (Ps 1)), ia D 512 (sTq (Ps 1)), la D 64 (sNb (Ps 1)), ob 2 [.ref (ad 31), .int (sPr (Ps 1))], ia D 64 (sMt (Ps 1)), ob 3 [.ref (ad 33), .int (nI (sNn (Ps 1))), .long (sSd (Ps 1))], la D 1920 (sS (Ps 1)), ob 4 [.ref (ad 35), .ref (ad 38), .ref (ad 42), .ref (ad 46), .ref (ad 48), .int (nI (sNn (Ps 2))), .int (nI (sKk (Ps 2))), .int (nI (sSt (Ps 2))), .long (sSd (Ps 2)), .int (sAg (Ps 2))], ob 0 [.ref (ad 36), .ref (ad 37), .int (nI (sNn (Ps 2))), .int (nI (sKk (Ps 2))), .int (sTk (Ps 2)), .int (sLo (Ps 2))], ia D 64 (sC (Ps 2)), ia D 64 (sTg (Ps 2)), ob 1 [.ref (ad 39), .ref (ad 40), .ref (ad 41), .int (nI (sFn (Ps 2)))], ia D 64 (sFt (Ps 2)), ia D 64 (sFk (Ps 2)), ia D 64 (sLd (Ps 2)), ob 5 [.ref (ad 43), .ref (ad 44), .ref (ad 45), .int (nI (sNn (Ps 2))), .int (nI (sSt (Ps 2))), .int (nI (sZ (Ps 2)))], ia D 512 (sTt (Ps 2)), ia D 512 (sTq (Ps 2)), la D 64 (sNb (Ps 2)), ob 2 [.ref (ad 47), .int (sPr (Ps 2))], ia D 64 (sMt (Ps 2)), ob 3 [.ref (ad 49), .int (nI (sNn (Ps 2))), .long (sSd (Ps 2))], la D 1920 (sS (Ps 2)), ob 7 [.ref (ad 51), .ref (ad 52), .ref (ad 53), .ref (ad 54), .ref (ad 55), .ref (ad 56), .ref (ad 57), .ref (ad 58), .ref (ad 59), .ref (ad 60), .ref (ad 61), .ref (ad 62), .ref (ad 63), .int rl, .ref (ad 64), .ref (ad 65), .ref (ad 66)], ia D 3 R.nd, ia D 3 R.sl, ia D 3 R.sr, la D 3 R.sd, ia D 3 R.ag, ia D 3 R.lo, ia D 12600 R.lw, ia D 12600 R.hg, ia D 192 R.ct, ia D 192 R.mt, la D 5760 R.sm, ia D 12600 R.th, ia D 3 R.tn, ia D 64 le, za D 4200 jo, ia D 64 wy]
abbrev updS (Ps : Nat → SP) (i : Nat) (P : SP) : Nat → SP := fun j => if j = i then P else Ps j
def isC : Nat → List Nat
  | 0 => [0, 1, 2, 3, 4, 5, 6, 7, 8, 9, 10, 11, 12, 13, 14, 15, 16, 17]
  | 1 => [0, 1, 18, 19, 20, 21, 22, 23, 24, 25, 26, 27, 28, 29, 30, 31, 32, 33]
  | _ => [0, 1, 34, 35, 36, 37, 38, 39, 40, 41, 42, 43, 44, 45, 46, 47, 48, 49]
def isR : List Nat := [50, 51, 52, 53, 54, 55, 56, 57, 58, 59, 60, 61, 62, 63, 64, 65, 66]
theorem sf_at (ad : Nat → Nat) : ∀ i, i < 3 → sf ad i = some (ad (pn (isC i) 2)) := by
  intro i hi
  rcases (show i = 0 ∨ i = 1 ∨ i = 2 by omega) with rfl | rfl | rfl <;> rfl
abbrev rW (D : DD) (ad : Nat → Nat) (R : RS) (rl : Int32) (le jo wy : Nat → Int32) : List va_E := rfW D ad R.nd R.sl R.sr R.sd R.ag R.lo R.lw R.hg R.ct R.mt R.sm R.th R.tn rl le jo wy
section
variable {D : DD} {l : Launch} {mi : MI} {As : List Value} {ad : Nat → Nat} {lev : Int32} {Ps : Nat → SP} {R : RS} {rl : Int32} {le jo wy : Nat → Int32}
theorem lift_c {i : Nat} (hi : i < 3) {Qm : Option Value → Int32 → SP → Prop} (h : Ct D l mi (.ref (ad (pn (isC i) 0)) :: As) (fun j => ad (pn (isC i) j)) (scW D (fun j => ad (pn (isC i) j)) lev (sf ad) (Ps i)) (fun v c => ∃ lev2 P2, Qm v lev2 P2 ∧ c = scW D (fun j => ad (pn (isC i) j)) lev2 (sf ad) P2)) : Ct D l mi (.ref (ad 0) :: As) ad (world D ad lev Ps R rl le jo wy) (fun v c => ∃ lev2 P2, Qm v lev2 P2 ∧ c = world D ad lev2 (updS Ps i P2) R rl le jo wy) := by
  rcases (show i = 0 ∨ i = 1 ∨ i = 2 by omega) with rfl | rfl | rfl
  · refine Ct.weak ?_ (Ct.frame (isC 0) (cs := world D ad lev Ps R rl le jo wy) (wc := scW D (fun j => ad (pn (isC 0) j)) lev (sf ad) (Ps 0)) ⟨rfl, rfl, rfl, rfl, rfl, rfl, rfl, rfl, rfl, rfl, rfl, rfl, rfl, rfl, rfl, rfl, rfl, rfl, trivial⟩ rfl h)
    intro v c hv
    obtain ⟨c1, hv1, h2, h3⟩ := hv
    obtain ⟨lev2, P2, hq, h1⟩ := hv1
    clear h2
    subst h3
    subst h1
    refine ⟨lev2, P2, hq, ?_⟩
    simp only [world, isC, sall, List.set]
    rfl
  · refine Ct.weak ?_ (Ct.frame (isC 1) (cs := world D ad lev Ps R rl le jo wy) (wc := scW D (fun j => ad (pn (isC 1) j)) lev (sf ad) (Ps 1)) ⟨rfl, rfl, rfl, rfl, rfl, rfl, rfl, rfl, rfl, rfl, rfl, rfl, rfl, rfl, rfl, rfl, rfl, rfl, trivial⟩ rfl h)
    intro v c hv
    obtain ⟨c1, hv1, h2, h3⟩ := hv
    obtain ⟨lev2, P2, hq, h1⟩ := hv1
    clear h2
    subst h3
    subst h1
    refine ⟨lev2, P2, hq, ?_⟩
    simp only [world, isC, sall, List.set]
    rfl
  · refine Ct.weak ?_ (Ct.frame (isC 2) (cs := world D ad lev Ps R rl le jo wy) (wc := scW D (fun j => ad (pn (isC 2) j)) lev (sf ad) (Ps 2)) ⟨rfl, rfl, rfl, rfl, rfl, rfl, rfl, rfl, rfl, rfl, rfl, rfl, rfl, rfl, rfl, rfl, rfl, rfl, trivial⟩ rfl h)
    intro v c hv
    obtain ⟨c1, hv1, h2, h3⟩ := hv
    obtain ⟨lev2, P2, hq, h1⟩ := hv1
    clear h2
    subst h3
    subst h1
    refine ⟨lev2, P2, hq, ?_⟩
    simp only [world, isC, sall, List.set]
    rfl
theorem lift_r {Qm : Option Value → RS → Int32 → Prop} (h : Ct D l mi (.ref (ad (pn isR 0)) :: As) (fun j => ad (pn isR j)) (rW D (fun j => ad (pn isR j)) R rl le jo wy) (fun v c => ∃ R2 rl2 le2 jo2 wy2, Qm v R2 rl2 ∧ c = rW D (fun j => ad (pn isR j)) R2 rl2 le2 jo2 wy2)) : Ct D l mi (.ref (ad 50) :: As) ad (world D ad lev Ps R rl le jo wy) (fun v c => ∃ R2 rl2 le2 jo2 wy2, Qm v R2 rl2 ∧ c = world D ad lev Ps R2 rl2 le2 jo2 wy2) := by
  refine Ct.weak ?_ (Ct.frame isR (cs := world D ad lev Ps R rl le jo wy) (wc := rW D (fun j => ad (pn isR j)) R rl le jo wy) ⟨rfl, rfl, rfl, rfl, rfl, rfl, rfl, rfl, rfl, rfl, rfl, rfl, rfl, rfl, rfl, rfl, rfl, trivial⟩ rfl h)
  intro v c hv
  obtain ⟨c1, hv1, h2, h3⟩ := hv
  obtain ⟨R2, rl2, le2, jo2, wy2, hq, h1⟩ := hv1
  clear h2
  subst h3
  subst h1
  refine ⟨R2, rl2, le2, jo2, wy2, hq, ?_⟩
  simp only [world, isR, sall, List.set]
  rfl
end
/-- what the loop of the law keeps -/
def INV (D : DD) (ad : Nat → Nat) (N : Nat) (cs : List va_E) : Prop := ∃ lev Ps R le jo wy, cs = world D ad lev Ps R lev le jo wy ∧ ∀ i, i < 3 → ∃ g u v p, RX N i (Ps i) g u v p R
/-- one call of the class and of the reference -/
abbrev isI (v : Option Value) : Prop := ∃ r : Int32, v = some (.int r)
abbrev isJ (v : Option Value) : Prop := ∃ r : Int64, v = some (.long r)
def Pair (D : DD) (l : Launch) (m1 m2 : MI) (As : List Value) (ad : Nat → Nat) (N : Nat) (cs : List va_E) (T : Option Value → Prop) : Prop := ∃ Q1, Ct D l m1 (.ref (ad 0) :: As) ad cs Q1 ∧ ∀ v c1, Q1 v c1 → T v ∧ (∃ fs, gt c1 50 = some (ob 7 fs)) ∧ Ct D l m2 (.ref (ad 50) :: As) ad c1 (fun v2 c2 => v2 = v ∧ INV D ad (N + 1) c2)
section
variable {D : DD} {X : MX} {A : Nat → Prop} {own : String} {cc : ByteArray} {nL kc ks : Nat} {R : Room} {Q : State → Prop} {ad : Nat → Nat} {pc n : Nat} {lv : List (Option Value)} {st st0 : List Value} {cs : List va_E} {Qm : Option Value → List va_E → Prop} {mi : MI} {As : List Value}
theorem wsO_same {c1 : List va_E} (h : c1.length = cs.length) {B : Nat → Prop} (hD : va_D B (wsO ad cs)) : va_D B (wsO ad c1) := by
  have key : ∀ (k : Nat) (x : Nat × va_E), (wsO ad c1)[k]? = some x → ∃ y, (wsO ad cs)[k]? = some y ∧ y.1 = x.1 := fun k x hx => by
    rw [wsO_get] at hx
    obtain ⟨c, hc, rfl⟩ := Option.map_eq_some_iff.mp hx
    have hk : k < cs.length := by have := (List.getElem?_eq_some_iff.mp hc).1; omega
    exact ⟨(ad k, cs[k]), by rw [wsO_get, List.getElem?_eq_getElem hk]; rfl, rfl⟩
  refine ⟨fun i j x y hx hy hxy => ?_, fun k x hx => ?_⟩
  · obtain ⟨x2, g1, g2⟩ := key i x hx
    obtain ⟨y2, g3, g4⟩ := key j y hy
    exact hD.1 i j x2 y2 g1 g3 (by rw [g2, g4]; exact hxy)
  · obtain ⟨x2, g1, g2⟩ := key k x hx
    rw [← g2]
    exact hD.2 k x2 g1
/-- a call whose footprint is all cells -/
theorem G_callw (M : CX D X A own cc nL R) {i ci np a : Nat} {fs : List Value} (d : decode cc pc = .ok (.invokevirtual i, 3)) (V : MV own i mi ci np) (C : Ct D X.2.1 mi (.ref (ad a) :: As) ad cs Qm) (hc : gt cs a = some (ob ci fs)) (hst : st0 = pushArgs (.ref (ad a) :: As) st) (hlv : lv.length = nL) (hnp : As.length = np) (hw : (st.map fun v => v.category).sum ≤ 8) (hf : mi.2.2.2.2.1 + 1 ≤ R.frames) (hlo : 8 + (mi.2.2.1 + 11) + mi.2.2.2.2.2 ≤ R.locals) (hcs : kc ≤ R.cells ∧ ks ≤ R.slots)
    (kk : ∀ (v : Option Value) (c1 : List va_E), Qm v c1 → G D X A kc ks Q ad (pc + 3) lv (v.toList ++ st) c1) : G D X A kc ks Q ad pc lv st0 cs := fun ls H locs hL hP hD hS => by
  obtain ⟨hx, hb, hml, hown, hts, hK, hN, hA, hR⟩ := M
  obtain ⟨V0, V1, V2, V3, T, N, V4⟩ := V
  subst hst
  rw [pushArgs_eq, List.reverse_cons, List.append_assoc]
  have hr := va_runV (p := X.1) (l := X.2.1) (e := X.2.2.1) (R := X.2.2.2.1) (s := X.2.2.2.2.1) (m := X.2.2.2.2.2.1) (args := X.2.2.2.2.2.2.1) (below := X.2.2.2.2.2.2.2.1) (meth := X.2.2.2.2.2.2.2.2.1) (c := X.2.2.2.2.2.2.2.2.2) (H := H) (locs := locs) (cells := kc) (slots := ks) (g := F0 X.2.2.2.2.2.1 pc ls (As.reverse ++ ([.ref (ad a)] ++ st))) (rest := st) (b := ad a) (As := As) (ws := Cond.code mi.1 mi.2.1 mi.2.2.1 mi.2.2.2.1 :: TB) (rm := miR mi) (C := mi.1.cls) (n := np) ⟨hx, hb, hml, hown, hts⟩ (C H.size) ⟨⟨rfl, rfl, by rw [hR]; exact hf, by rw [hR]; exact hlo, TB_pay hts V0.1, List.mem_cons_self, hts _ V0.1, hts _ V0.2.1, V0.2.2.1, V0.len, hts _ V1⟩, hts _ V2, hts _ V3⟩
    ⟨Ct.blind, va_recv hK hP V4 (wsO_at hc), fun U hU hW => ⟨rfl, by rw [hU], by rw [hU]; exact hP, hD.weaken (fun _ _ _ _ => trivial), va_K.moved hW.alike hK, hN.warm hW⟩⟩ rfl hnp (hL.1.trans hlv) rfl (lv_room hw) d (by rw [hR]; exact hcs)
  intro T hT XX
  obtain ⟨v, st₀, t, T', L, h0, X', hL', e1, e2, ⟨⟨v2, c1, hv, hq, hlen, hP1⟩, hz, hk⟩, stp⟩ := hr T hT XX
  cases hv
  rw [h0] at hz hk
  have hF : ∀ q, va_A (wsO ad cs) H.size q → A q := by
    rintro q (⟨k, e, h⟩ | h)
    · exact hD.2 k (q, e) h
    · exact hA q (Nat.le_trans hS.1 h)
  obtain ⟨t2, a1, b1⟩ := kk v c1 hq ls t.heap (locs ++ L) hL hP1 (wsO_same hlen hD)
    ⟨Nat.le_trans hS.1 hz, fun q h1 h2 => by rw [hk q (Nat.lt_of_lt_of_le h1 hS.1) (fun z => h2 (hF q z))]; exact hS.2.1 q h1 h2, fun q hq => by
      rcases List.mem_append.mp hq with h | h
      · exact hS.2.2 q h
      · exact hF _ (hL' q h)⟩ T' e1 X'
  exact ⟨t2, stp t2 a1, b1⟩
end
