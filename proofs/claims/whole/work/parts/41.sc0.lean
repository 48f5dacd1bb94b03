--NORM
/-! frames of contracts; StreamCounts: checks -/
theorem Ct.frame {D : DD} {l : Launch} {mi : MI} {As : List Value} {ad : Nat → Nat} {cs wc : List va_E} {Qm : Option Value → List va_E → Prop} (is : List Nat) (hpk : Pk cs is wc) (hnd : va_nd is = true) (h : Ct D l mi As (fun j => ad (pn is j)) wc Qm) : Ct D l mi As ad cs (fun v c => ∃ c1, Qm v c1 ∧ c1.length = wc.length ∧ c = sall cs is c1) := by
  intro sz p e ha hf hc s m args below hfr hap hPc _
  obtain ⟨rfl, hsz, hP, hD, hK, hN⟩ := hPc
  have sub : ∀ q, va_A (wsO (fun j => ad (pn is j)) wc) sz q → va_A (wsO ad cs) sz q := by
    rintro q (⟨k, e, h⟩ | h)
    · rw [wsO_get] at h
      obtain ⟨c, hc, he⟩ := Option.map_eq_some_iff.mp h
      obtain ⟨i, h1, h2, h3⟩ := Pk_get hpk k c hc
      have hq : ad i = q := by rw [← h3]; exact congrArg Prod.fst he
      exact Or.inl ⟨i, c, by rw [wsO_get, h2, ← hq]; rfl⟩
    · exact Or.inr h
  obtain ⟨n, o, h1, h2, h3, ⟨⟨v, c1, e1, e2, e3, e4⟩, hz, hk⟩, L, hFE, hL⟩ := h sz p e ha hf hc s m _ below hfr hap ⟨rfl, hsz, call_P hpk hP, call_D hpk hnd hD (fun _ _ => trivial), hK, hN⟩ trivial
  have hb := call_back (A := fun _ => True) (H1 := (stepsAlone p.tables e n s).heap) hpk hnd hP hD e3 (fun q hq hna => hk q hq (by rw [← hsz]; exact hna)) e4
  exact ⟨n, o, h1, h2, h3, ⟨⟨v, sall cs is c1, e1, ⟨c1, e2, e3, rfl⟩, sall_len cs is c1, hb.1⟩, hz, fun q hq hna => hk q hq (fun z => hna (sub q z))⟩, L, hFE, fun q hq => sub _ (hL q hq)⟩
theorem Ct.weak {D : DD} {l : Launch} {mi : MI} {As : List Value} {ad : Nat → Nat} {cs : List va_E} {Q1 Q2 : Option Value → List va_E → Prop} (hq : ∀ v c, Q1 v c → Q2 v c) (h : Ct D l mi As ad cs Q1) : Ct D l mi As ad cs Q2 := by
  intro sz p e ha hf hc s m args below hfr hap hPc _
  obtain ⟨n, o, h1, h2, h3, ⟨⟨v, c1, e1, e2, e3⟩, hz⟩, r⟩ := h sz p e ha hf hc s m args below hfr hap hPc trivial
  exact ⟨n, o, h1, h2, h3, ⟨⟨v, c1, e1, hq v c1 e2, e3⟩, hz⟩, r⟩
theorem c_noNode (D : DD) (l : Launch) (ad : Nat → Nat) (gs fs : List Value) (f : Nat → Option Nat) (nd : Nat → Int32) (s a : Int32) (hg0 : gt gs 0 = some (.ref (ad 1))) (hf : okS s = true → f s.toNatClampNeg = some (ad 2)) (hf5 : gt fs 5 = some (.int (nd s.toNatClampNeg))) : Ct D l mi_X6_noNode [.ref (ad 0), .int s, .int a] ad [ob 6 gs, qa D 3 f, ob 4 fs] (fun v c => v = some (.int (bz (!okN nd s a))) ∧ c = [ob 6 gs, qa D 3 f, ob 4 fs]) := by
  refine Ct.of (by decide +kernel) (Nat.le_of_ble_eq_true rfl) (fun X A hX M hr => ?_)
  subst hX
  refine G_iload_n (pc := 0) M dX6_noNode_0 rfl ?_
  refine G_calls (pc := 1) M [] dX6_noNode_1 ms_X6_20 (c_noStream D _ (fun j => ad (pn [] j)) s) trivial rfl rfl rfl rfl (Nat.le_of_ble_eq_true rfl) (Nat.le_of_ble_eq_true rfl) (Nat.le_of_ble_eq_true rfl) ⟨Nat.zero_le _, Nat.zero_le _⟩ (fun v c1 hq hlen => ?_)
  obtain ⟨rfl, rfl⟩ := hq
  try dsimp only [sall, List.set, Option.toList, List.cons_append, List.nil_append]
  refine G_if_ne (pc := 4) M 24 dX6_noNode_4 (by decide) (fun h4 => ?_) (fun h4 => ?_)
  · have h4b : okS s = false := by simpa using bz1 h4
    refine G_iconst (pc := 24) (v := 1) M dX6_noNode_24 (by decide +kernel) ?_
    refine G_goto (pc := 25) M 29 dX6_noNode_25 (by decide) ?_
    exact G_zret M hr dX6_noNode_29 rfl rfl ⟨by simp [okN, bz, *], rfl⟩
  · have h4b : okS s = true := by simpa using bz0 (b := !okS s) (by simpa using h4)
    refine G_iload_n (pc := 7) M dX6_noNode_7 rfl ?_
    refine G_if_lt (pc := 8) M 24 dX6_noNode_8 (by decide) (fun h8 => ?_) (fun h8 => ?_)
    · refine G_iconst (pc := 24) (v := 1) M dX6_noNode_24 (by decide +kernel) ?_
      refine G_goto (pc := 25) M 29 dX6_noNode_25 (by decide) ?_
      exact G_zret M hr dX6_noNode_29 rfl rfl ⟨by simp [okN, bz, *], rfl⟩
    · refine G_iload_n (pc := 11) M dX6_noNode_11 rfl ?_
      refine G_aload_n (pc := 12) M dX6_noNode_12 rfl ?_
      refine G_getf (pc := 13) M dX6_noNode_13 fl_X6_11 rfl (by first | rfl | assumption) ?_
      refine G_iload_n (pc := 16) M dX6_noNode_16 rfl ?_
      refine G_aaload (pc := 17) M dX6_noNode_17 rfl (vp3 h4b) (hf h4b) ?_
      refine G_getf (pc := 18) M dX6_noNode_18 fl_X6_108 rfl (by first | rfl | assumption) ?_
      refine G_icmp_lt (pc := 21) M 28 dX6_noNode_21 (by decide) (fun h21 => ?_) (fun h21 => ?_)
      · have h21b := Int32.not_le.mpr h21
        refine G_iconst (pc := 28) (v := 0) M dX6_noNode_28 (by decide +kernel) ?_
        exact G_zret M hr dX6_noNode_29 rfl rfl ⟨by simp [okN, bz, *], rfl⟩
      · have h21b := Int32.not_lt.mp h21
        refine G_iconst (pc := 24) (v := 1) M dX6_noNode_24 (by decide +kernel) ?_
        refine G_goto (pc := 25) M 29 dX6_noNode_25 (by decide) ?_
        exact G_zret M hr dX6_noNode_29 rfl rfl ⟨by simp [okN, bz, *], rfl⟩
theorem c_noArc (D : DD) (l : Launch) (ad : Nat → Nat) (gs fs : List Value) (f : Nat → Option Nat) (nd : Nat → Int32) (s a b : Int32) (hg0 : gt gs 0 = some (.ref (ad 1))) (hf : okS s = true → f s.toNatClampNeg = some (ad 2)) (hf5 : gt fs 5 = some (.int (nd s.toNatClampNeg))) : Ct D l mi_X6_noArc [.ref (ad 0), .int s, .int a, .int b] ad [ob 6 gs, qa D 3 f, ob 4 fs] (fun v c => v = some (.int (bz (!(okN nd s a && okN nd s b && !decide (a = b))))) ∧ c = [ob 6 gs, qa D 3 f, ob 4 fs]) := by
  refine Ct.of (by decide +kernel) (Nat.le_of_ble_eq_true rfl) (fun X A hX M hr => ?_)
  subst hX
  refine G_aload_n (pc := 0) M dX6_noArc_0 rfl ?_
  refine G_iload_n (pc := 1) M dX6_noArc_1 rfl ?_
  refine G_iload_n (pc := 2) M dX6_noArc_2 rfl ?_
  refine G_callv (pc := 3) M [0, 1, 2] dX6_noArc_3 mv_X6_117 (c_noNode D _ (fun j => ad (pn [0, 1, 2] j)) gs fs f nd s a hg0 hf hf5) rfl ⟨rfl, rfl, rfl, trivial⟩ rfl rfl rfl rfl (Nat.le_of_ble_eq_true rfl) (Nat.le_of_ble_eq_true rfl) (Nat.le_of_ble_eq_true rfl) ⟨Nat.zero_le _, Nat.zero_le _⟩ (fun v c1 hq hlen => ?_)
  obtain ⟨rfl, rfl⟩ := hq
  try dsimp only [sall, List.set, Option.toList, List.cons_append, List.nil_append]
  refine G_if_ne (pc := 6) M 23 dX6_noArc_6 (by decide) (fun h6 => ?_) (fun h6 => ?_)
  · have h6b : okN nd s a = false := by simpa using bz1 h6
    refine G_iconst (pc := 23) (v := 1) M dX6_noArc_23 (by decide +kernel) ?_
    refine G_goto (pc := 24) M 28 dX6_noArc_24 (by decide) ?_
    exact G_zret M hr dX6_noArc_28 rfl rfl ⟨by simp_all [bz], rfl⟩
  · have h6b : okN nd s a = true := by simpa using bz0 (b := !okN nd s a) (by simpa using h6)
    refine G_aload_n (pc := 9) M dX6_noArc_9 rfl ?_
    refine G_iload_n (pc := 10) M dX6_noArc_10 rfl ?_
    refine G_iload_n (pc := 11) M dX6_noArc_11 rfl ?_
    refine G_callv (pc := 12) M [0, 1, 2] dX6_noArc_12 mv_X6_117 (c_noNode D _ (fun j => ad (pn [0, 1, 2] j)) gs fs f nd s b hg0 hf hf5) rfl ⟨rfl, rfl, rfl, trivial⟩ rfl rfl rfl rfl (Nat.le_of_ble_eq_true rfl) (Nat.le_of_ble_eq_true rfl) (Nat.le_of_ble_eq_true rfl) ⟨Nat.zero_le _, Nat.zero_le _⟩ (fun v c1 hq hlen => ?_)
    obtain ⟨rfl, rfl⟩ := hq
    try dsimp only [sall, List.set, Option.toList, List.cons_append, List.nil_append]
    refine G_if_ne (pc := 15) M 23 dX6_noArc_15 (by decide) (fun h15 => ?_) (fun h15 => ?_)
    · have h15b : okN nd s b = false := by simpa using bz1 h15
      refine G_iconst (pc := 23) (v := 1) M dX6_noArc_23 (by decide +kernel) ?_
      refine G_goto (pc := 24) M 28 dX6_noArc_24 (by decide) ?_
      exact G_zret M hr dX6_noArc_28 rfl rfl ⟨by simp_all [bz], rfl⟩
    · have h15b : okN nd s b = true := by simpa using bz0 (b := !okN nd s b) (by simpa using h15)
      refine G_iload_n (pc := 18) M dX6_noArc_18 rfl ?_
      refine G_iload_n (pc := 19) M dX6_noArc_19 rfl ?_
      refine G_icmp_ne (pc := 20) M 27 dX6_noArc_20 (by decide) (fun h20 => ?_) (fun h20 => ?_)
      · refine G_iconst (pc := 27) (v := 0) M dX6_noArc_27 (by decide +kernel) ?_
        exact G_zret M hr dX6_noArc_28 rfl rfl ⟨by simp_all [bz], rfl⟩
      · refine G_iconst (pc := 23) (v := 1) M dX6_noArc_23 (by decide +kernel) ?_
        refine G_goto (pc := 24) M 28 dX6_noArc_24 (by decide) ?_
        exact G_zret M hr dX6_noArc_28 rfl rfl ⟨by simp_all [bz], rfl⟩
def okT (t : Int32) : Bool := decide (t = 1) || decide (t = 3) || decide (t = 5) || decide (t = 7)
theorem okT_nI : ∀ k, k < 8 → (decide ((nI k &&& 1) = 1) = okT (nI k)) := by decide +kernel
theorem c_isStretch (D : DD) (l : Launch) (ad : Nat → Nat) (t : Int32) : Ct D l mi_X6_isStretch [.int t] ad [] (fun v c => v = some (.int (bz (okT t))) ∧ c = []) := by
  refine Ct.of (by decide +kernel) (Nat.le_of_ble_eq_true rfl) (fun X A hX M hr => ?_)
  subst hX
  refine G_iload_n (pc := 0) M dX6_isStretch_0 rfl ?_
  refine G_iconst (pc := 1) (v := 1) M dX6_isStretch_1 (by decide +kernel) ?_
  refine G_icmp_lt (pc := 2) M 22 dX6_isStretch_2 (by decide) (fun h2 => ?_) (fun h2 => ?_)
  · have e : okT t = false := by
      have := Int32.lt_iff_toInt_lt.mp h2
      have e1 : (1 : Int32).toInt = 1 := rfl
      simp only [okT, Bool.or_eq_false_iff, decide_eq_false_iff_not]
      refine ⟨⟨⟨?_, ?_⟩, ?_⟩, ?_⟩ <;> (intro q; subst q; revert this; decide)
    refine G_iconst (pc := 22) (v := 0) M dX6_isStretch_22 (by decide +kernel) ?_
    exact G_zret M hr dX6_isStretch_23 rfl rfl ⟨by rw [e]; rfl, rfl⟩
  · refine G_iload_n (pc := 5) M dX6_isStretch_5 rfl ?_
    refine G_bipush (pc := 6) (v := 7) M dX6_isStretch_6 (by decide +kernel) ?_
    refine G_icmp_gt (pc := 8) M 22 dX6_isStretch_8 (by decide) (fun h8 => ?_) (fun h8 => ?_)
    · have e : okT t = false := by
        have := Int32.lt_iff_toInt_lt.mp h8
        simp only [okT, Bool.or_eq_false_iff, decide_eq_false_iff_not]
        refine ⟨⟨⟨?_, ?_⟩, ?_⟩, ?_⟩ <;> (intro q; subst q; revert this; decide)
      refine G_iconst (pc := 22) (v := 0) M dX6_isStretch_22 (by decide +kernel) ?_
      exact G_zret M hr dX6_isStretch_23 rfl rfl ⟨by rw [e]; rfl, rfl⟩
    · have hb : ∃ k, k < 8 ∧ t = nI k := by
        have e1 : (1 : Int32).toInt = 1 := rfl
        obtain ⟨j, hj, e⟩ := nI_of2 (x := t) (M := 7) (n := 7) rfl (fun q => h2 (by
          have := Int32.lt_iff_toInt_lt.mp q
          rw [Int32.lt_iff_toInt_lt]
          have e0 : (0 : Int32).toInt = 0 := rfl
          omega)) (Int32.not_lt.mp h8)
        exact ⟨j, by omega, e⟩
      obtain ⟨k, hk, rfl⟩ := hb
      have ek := okT_nI k hk
      refine G_iload_n (pc := 11) M dX6_isStretch_11 rfl ?_
      refine G_iconst (pc := 12) (v := 1) M dX6_isStretch_12 (by decide +kernel) ?_
      refine G_iand (pc := 13) M dX6_isStretch_13 ?_
      refine G_iconst (pc := 14) (v := 1) M dX6_isStretch_14 (by decide +kernel) ?_
      refine G_icmp_ne (pc := 15) M 22 dX6_isStretch_15 (by decide) (fun h15 => ?_) (fun h15 => ?_)
      · have e : okT (nI k) = false := by rw [← ek]; simpa using h15
        refine G_iconst (pc := 22) (v := 0) M dX6_isStretch_22 (by decide +kernel) ?_
        exact G_zret M hr dX6_isStretch_23 rfl rfl ⟨by rw [e]; rfl, rfl⟩
      · have e : okT (nI k) = true := by rw [← ek]; simpa using h15
        refine G_iconst (pc := 18) (v := 1) M dX6_isStretch_18 (by decide +kernel) ?_
        refine G_goto (pc := 19) M 23 dX6_isStretch_19 (by decide) ?_
        exact G_zret M hr dX6_isStretch_23 rfl rfl ⟨by rw [e]; rfl, rfl⟩
