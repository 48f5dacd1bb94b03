/-! the reference: streams, nodes, counters -/
theorem n64 : (64 : Int32) = nI 64 := rfl
theorem ixA (s a : Nat) : (64 : Int32) * nI s + nI a = nI (64 * s + a) := by rw [n64, pk_mul, nI_add]
theorem cl_nI {n : Nat} (h : n < 2 ^ 31) : (nI n).toNatClampNeg = n := nI_clamp h
def okS (s : Int32) : Bool := !decide (s < 0) && !decide (3 ≤ s)
theorem okS_nI {s : Nat} (h : s < 3) : okS (nI s) = true := by
  have h1 := nI_pos (n := s) (by omega)
  have h2 : ¬ (3 : Int32) ≤ nI s := nI_ge (b := 3) h (by omega)
  simp [okS, h1, h2]
theorem okS_of {s : Int32} (h : okS s = true) : ∃ k : Nat, k < 3 ∧ s = nI k := by
  simp [okS] at h
  obtain ⟨j, hj, e⟩ := nI_of2 (M := 2) (n := 2) rfl (Int32.not_lt.mpr h.1) (by
    have := Int32.lt_iff_toInt_lt.mp h.2
    rw [Int32.le_iff_toInt_le]
    have e3 : (3 : Int32).toInt = 3 := rfl
    have e2 : (2 : Int32).toInt = 2 := rfl
    omega)
  exact ⟨j, by omega, e⟩
theorem c_isStream (D : DD) (l : Launch) (ad : Nat → Nat) (s : Int32) : Ct D l mi_X7_isStream [.int s] ad [] (fun v c => v = some (.int (bz (okS s))) ∧ c = []) := by
  refine Ct.of (by decide +kernel) (Nat.le_of_ble_eq_true rfl) (fun X A hX M hr => ?_)
  subst hX
  refine G_iload_n (pc := 0) M dX7_isStream_0 rfl ?_
  refine G_if_lt (pc := 1) M 13 dX7_isStream_1 (by decide) (fun h1 => ?_) (fun h1 => ?_)
  · refine G_iconst (pc := 13) (v := 0) M dX7_isStream_13 (by decide +kernel) ?_
    exact G_zret M hr dX7_isStream_14 rfl rfl ⟨by simp [okS, bz, *], rfl⟩
  · refine G_iload_n (pc := 4) M dX7_isStream_4 rfl ?_
    refine G_iconst (pc := 5) (v := 3) M dX7_isStream_5 (by decide +kernel) ?_
    refine G_icmp_ge (pc := 6) M 13 dX7_isStream_6 (by decide) (fun h6 => ?_) (fun h6 => ?_)
    · refine G_iconst (pc := 13) (v := 0) M dX7_isStream_13 (by decide +kernel) ?_
      exact G_zret M hr dX7_isStream_14 rfl rfl ⟨by simp [okS, bz, *], rfl⟩
    · refine G_iconst (pc := 9) (v := 1) M dX7_isStream_9 (by decide +kernel) ?_
      refine G_goto (pc := 10) M 14 dX7_isStream_10 (by decide) ?_
      exact G_zret M hr dX7_isStream_14 rfl rfl ⟨by simp [okS, bz, *], rfl⟩
theorem c_noStream (D : DD) (l : Launch) (ad : Nat → Nat) (s : Int32) : Ct D l mi_X6_noStream [.int s] ad [] (fun v c => v = some (.int (bz (!okS s))) ∧ c = []) := by
  refine Ct.of (by decide +kernel) (Nat.le_of_ble_eq_true rfl) (fun X A hX M hr => ?_)
  subst hX
  refine G_iload_n (pc := 0) M dX6_noStream_0 rfl ?_
  refine G_if_lt (pc := 1) M 9 dX6_noStream_1 (by decide) (fun h1 => ?_) (fun h1 => ?_)
  · refine G_iconst (pc := 9) (v := 1) M dX6_noStream_9 (by decide +kernel) ?_
    refine G_goto (pc := 10) M 14 dX6_noStream_10 (by decide) ?_
    exact G_zret M hr dX6_noStream_14 rfl rfl ⟨by simp [okS, bz, *], rfl⟩
  · refine G_iload_n (pc := 4) M dX6_noStream_4 rfl ?_
    refine G_iconst (pc := 5) (v := 3) M dX6_noStream_5 (by decide +kernel) ?_
    refine G_icmp_lt (pc := 6) M 13 dX6_noStream_6 (by decide) (fun h6 => ?_) (fun h6 => ?_)
    · have h6b := Int32.not_le.mpr h6
      refine G_iconst (pc := 13) (v := 0) M dX6_noStream_13 (by decide +kernel) ?_
      exact G_zret M hr dX6_noStream_14 rfl rfl ⟨by simp [okS, bz, *], rfl⟩
    · have h6b := Int32.not_lt.mp h6
      refine G_iconst (pc := 9) (v := 1) M dX6_noStream_9 (by decide +kernel) ?_
      refine G_goto (pc := 10) M 14 dX6_noStream_10 (by decide) ?_
      exact G_zret M hr dX6_noStream_14 rfl rfl ⟨by simp [okS, bz, *], rfl⟩
def okN (nd : Nat → Int32) (s a : Int32) : Bool := okS s && !decide (a < 0) && !decide (nd s.toNatClampNeg ≤ a)
theorem vp3 {s : Int32} (h : okS s = true) : vp_in s 3 := by
  obtain ⟨k, h1, rfl⟩ := okS_of h
  exact vp_in_nI h1 (by omega)
theorem bz0 {b : Bool} (h : bz b = 0) : b = false := by cases b <;> first | rfl | exact absurd h (by decide)
theorem bz1 {b : Bool} (h : ¬ bz b = 0) : b = true := by cases b <;> first | rfl | exact absurd rfl h
theorem c_isNode (D : DD) (l : Launch) (ad : Nat → Nat) (fs : List Value) (nd : Nat → Int32) (s a : Int32) (hf0 : gt fs 0 = some (.ref (ad 1))) : Ct D l mi_X7_isNode [.ref (ad 0), .int s, .int a] ad [ob 7 fs, ia D 3 nd] (fun v c => v = some (.int (bz (okN nd s a))) ∧ c = [ob 7 fs, ia D 3 nd]) := by
  refine Ct.of (by decide +kernel) (Nat.le_of_ble_eq_true rfl) (fun X A hX M hr => ?_)
  subst hX
  refine G_iload_n (pc := 0) M dX7_isNode_0 rfl ?_
  refine G_calls (pc := 1) M [] dX7_isNode_1 ms_X7_64 (c_isStream D _ (fun j => ad (pn [] j)) s) trivial rfl rfl rfl rfl (Nat.le_of_ble_eq_true rfl) (Nat.le_of_ble_eq_true rfl) (Nat.le_of_ble_eq_true rfl) ⟨Nat.zero_le _, Nat.zero_le _⟩ (fun v c1 hq hlen => ?_)
  obtain ⟨rfl, rfl⟩ := hq
  refine G_if_eq (pc := 4) M 25 dX7_isNode_4 (by decide) (fun h4 => ?_) (fun h4 => ?_)
  · have h4b := bz0 h4
    refine G_iconst (pc := 25) (v := 0) M dX7_isNode_25 (by decide +kernel) ?_
    exact G_zret M hr dX7_isNode_26 rfl rfl ⟨by simp [okN, bz, *], rfl⟩
  · have h4b := bz1 h4
    refine G_iload_n (pc := 7) M dX7_isNode_7 rfl ?_
    refine G_if_lt (pc := 8) M 25 dX7_isNode_8 (by decide) (fun h8 => ?_) (fun h8 => ?_)
    · refine G_iconst (pc := 25) (v := 0) M dX7_isNode_25 (by decide +kernel) ?_
      exact G_zret M hr dX7_isNode_26 rfl rfl ⟨by simp [okN, bz, *], rfl⟩
    · refine G_iload_n (pc := 11) M dX7_isNode_11 rfl ?_
      refine G_aload_n (pc := 12) M dX7_isNode_12 rfl ?_
      refine G_getf (pc := 13) M dX7_isNode_13 fl_X7_7 rfl (by first | rfl | assumption) ?_
      refine G_iload_n (pc := 16) M dX7_isNode_16 rfl ?_
      refine G_iaload (pc := 17) M dX7_isNode_17 rfl (vp3 (bz1 h4)) ?_
      refine G_icmp_ge (pc := 18) M 25 dX7_isNode_18 (by decide) (fun h18 => ?_) (fun h18 => ?_)
      · refine G_iconst (pc := 25) (v := 0) M dX7_isNode_25 (by decide +kernel) ?_
        exact G_zret M hr dX7_isNode_26 rfl rfl ⟨by simp [okN, bz, *], rfl⟩
      · refine G_iconst (pc := 21) (v := 1) M dX7_isNode_21 (by decide +kernel) ?_
        refine G_goto (pc := 22) M 26 dX7_isNode_22 (by decide) ?_
        exact G_zret M hr dX7_isNode_26 rfl rfl ⟨by simp [okN, bz, *], rfl⟩
/-- how many of the first k are above 0 -/
def cntP (f : Nat → Int32) : Nat → Nat
  | 0 => 0
  | k + 1 => cntP f k + (if 0 < f k then 1 else 0)
theorem cntP_le (f : Nat → Int32) : ∀ k, cntP f k ≤ k
  | 0 => Nat.le_refl 0
  | k + 1 => by
    have := cntP_le f k
    simp only [cntP]
    split <;> omega
theorem taken_loop {D : DD} {X : MX} {A : Nat → Prop} (M : CX D X A mi_X7_taken.1.cls mi_X7_taken.2.1 mi_X7_taken.2.2.1 (miR mi_X7_taken)) (hr : RT X mi_X7_taken.2.2.2.1) {ad : Nat → Nat} {fs : List Value} {ct : Nat → Int32} {s : Nat} (hs : s < 3) (hf8 : gt fs 8 = some (.ref (ad 1))) : ∀ m k : Nat, k ≤ 64 → 64 - k < m →
    G D X A 0 0 (GQ D X A ad 2 (fun v c => v = some (.int (nI (cntP (fun a => ct (64 * s + a)) 64))) ∧ c = [ob 7 fs, ia D 192 ct])) ad 4 [some (.ref (ad 0)), some (.int (nI s)), some (.int (nI (cntP (fun a => ct (64 * s + a)) k))), some (.int (nI k))] [] [ob 7 fs, ia D 192 ct] := by
  intro m
  induction m with
  | zero => intro k _ h; omega
  | succ m ih =>
    intro k hk hm
    refine G_iload_n (pc := 4) M dX7_taken_4 rfl ?_
    refine G_bipush (pc := 5) (v := 64) M dX7_taken_5 (by decide +kernel) ?_
    refine G_icmp_ge (pc := 7) M 38 dX7_taken_7 (by decide) (fun h7 => ?_) (fun h7 => ?_)
    · have hk64 : k = 64 := by
        have := (nI_leI (a := 64) (b := k) (by omega) (by omega)).mp h7
        omega
      subst hk64
      refine G_iload_n (pc := 38) M dX7_taken_38 rfl ?_
      exact G_iret M hr dX7_taken_39 rfl ⟨rfl, rfl⟩
    · have hk64 : k < 64 := Nat.lt_of_not_le (fun q => h7 (nI_le q (by omega)))
      refine G_iload_n (pc := 10) M dX7_taken_10 rfl ?_
      refine G_aload_n (pc := 11) M dX7_taken_11 rfl ?_
      refine G_getf (pc := 12) M dX7_taken_12 fl_X7_35 rfl (by first | rfl | assumption) ?_
      refine G_bipush (pc := 15) (v := 64) M dX7_taken_15 (by decide +kernel) ?_
      refine G_iload_n (pc := 17) M dX7_taken_17 rfl ?_
      refine G_imul (pc := 18) M dX7_taken_18 ?_
      refine G_iload_n (pc := 19) M dX7_taken_19 rfl ?_
      refine G_iadd (pc := 20) M dX7_taken_20 ?_
      rw [ixA]
      refine G_iaload (pc := 21) M dX7_taken_21 rfl (by first | assumption | exact vp_in_nI (by omega) (by omega)) ?_
      rw [cl_nI (by omega)]
      refine G_if_le (pc := 22) M 29 dX7_taken_22 (by decide) (fun h22 => ?_) (fun h22 => ?_)
      · have e : cntP (fun a => ct (64 * s + a)) (k + 1) = cntP (fun a => ct (64 * s + a)) k + 0 := by simp [cntP]; simpa using h22
        refine G_iconst (pc := 29) (v := 0) M dX7_taken_29 (by decide +kernel) ?_
        refine G_iadd (pc := 30) M dX7_taken_30 ?_
        refine G_istore_n (pc := 31) M dX7_taken_31 (Nat.le_of_ble_eq_true rfl) ?_
        refine G_iinc (pc := 32) (v := 1) M dX7_taken_32 rfl (by decide +kernel) (Nat.le_of_ble_eq_true rfl) ?_
        refine G_goto (pc := 35) M 4 dX7_taken_35 (by decide) ?_
        have := ih (k + 1) (by omega) (by omega)
        rw [e, ← nI_add, ← nI_add k 1] at this
        exact this
      · have e : cntP (fun a => ct (64 * s + a)) (k + 1) = cntP (fun a => ct (64 * s + a)) k + 1 := by simp [cntP]; simpa using h22
        refine G_iconst (pc := 25) (v := 1) M dX7_taken_25 (by decide +kernel) ?_
        refine G_goto (pc := 26) M 30 dX7_taken_26 (by decide) ?_
        refine G_iadd (pc := 30) M dX7_taken_30 ?_
        refine G_istore_n (pc := 31) M dX7_taken_31 (Nat.le_of_ble_eq_true rfl) ?_
        refine G_iinc (pc := 32) (v := 1) M dX7_taken_32 rfl (by decide +kernel) (Nat.le_of_ble_eq_true rfl) ?_
        refine G_goto (pc := 35) M 4 dX7_taken_35 (by decide) ?_
        have := ih (k + 1) (by omega) (by omega)
        rw [e, ← nI_add, ← nI_add k 1] at this
        exact this
theorem c_taken (D : DD) (l : Launch) (ad : Nat → Nat) (fs : List Value) (ct : Nat → Int32) (s : Nat) (hs : s < 3) (hf8 : gt fs 8 = some (.ref (ad 1))) : Ct D l mi_X7_taken [.ref (ad 0), .int (nI s)] ad [ob 7 fs, ia D 192 ct] (fun v c => v = some (.int (nI (cntP (fun a => ct (64 * s + a)) 64))) ∧ c = [ob 7 fs, ia D 192 ct]) := by
  refine Ct.of (by decide +kernel) (Nat.le_of_ble_eq_true rfl) (fun X A hX M hr => ?_)
  subst hX
  refine G_iconst (pc := 0) (v := 0) M dX7_taken_0 (by decide +kernel) ?_
  refine G_istore_n (pc := 1) M dX7_taken_1 (Nat.le_of_ble_eq_true rfl) ?_
  refine G_iconst (pc := 2) (v := 0) M dX7_taken_2 (by decide +kernel) ?_
  refine G_istore_n (pc := 3) M dX7_taken_3 (Nat.le_of_ble_eq_true rfl) ?_
  exact taken_loop M hr hs hf8 65 0 (by omega) (by omega)
