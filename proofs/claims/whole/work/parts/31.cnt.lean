/-! Counters -/
abbrev ctO (ad : Nat → Nat) (nn kk : Nat) (tk lo : Int32) : va_E := ob 0 [.ref (ad 1), .ref (ad 2), .int (nI nn), .int (nI kk), .int tk, .int lo]
theorem c_cRestart (D : DD) (l : Launch) (ad : Nat → Nat) (n0 k0 nn kk : Nat) (tk lo : Int32) (C tg : Nat → Int32) : Ct D l mi_X0_restart [.ref (ad 0), .int (nI nn), .int (nI kk)] ad [ctO ad n0 k0 tk lo, ia D 64 C, ia D 64 tg] (fun v c => v = none ∧ c = [ctO ad nn kk 0 0, ia D 64 (fun _ => 0), ia D 64 tg]) := by
  refine Ct.of (by decide +kernel) (Nat.le_of_ble_eq_true rfl) (fun X A hX M hr => ?_)
  subst hX
  refine G_aload_n (pc := 0) M dX0_restart_0 rfl ?_
  refine G_iload_n (pc := 1) M dX0_restart_1 rfl ?_
  refine G_putfi (pc := 2) M dX0_restart_2 fl_X0_18 rfl (Nat.le_of_ble_eq_true rfl) ?_
  refine G_aload_n (pc := 5) M dX0_restart_5 rfl ?_
  refine G_iload_n (pc := 6) M dX0_restart_6 rfl ?_
  refine G_putfi (pc := 7) M dX0_restart_7 fl_X0_22 rfl (Nat.le_of_ble_eq_true rfl) ?_
  refine G_aload_n (pc := 10) M dX0_restart_10 rfl ?_
  refine G_iconst (pc := 11) (v := 0) M dX0_restart_11 (by decide +kernel) ?_
  refine G_putfi (pc := 12) M dX0_restart_12 fl_X0_25 rfl (Nat.le_of_ble_eq_true rfl) ?_
  refine G_aload_n (pc := 15) M dX0_restart_15 rfl ?_
  refine G_iconst (pc := 16) (v := 0) M dX0_restart_16 (by decide +kernel) ?_
  refine G_putfi (pc := 17) M dX0_restart_17 fl_X0_28 rfl (Nat.le_of_ble_eq_true rfl) ?_
  refine G_aload_n (pc := 20) M dX0_restart_20 rfl ?_
  refine G_getf (pc := 21) M dX0_restart_21 fl_X0_9 rfl (by first | rfl | assumption) ?_
  refine G_iconst (pc := 24) (v := 0) M dX0_restart_24 (by decide +kernel) ?_
  refine G_calls (pc := 25) M [1] dX0_restart_25 ms_X0_31 (c_filli D _ (fun j => ad (pn [1] j)) 64 C 0 (by omega)) ⟨rfl, trivial⟩ rfl rfl rfl rfl (Nat.le_of_ble_eq_true rfl) (Nat.le_of_ble_eq_true rfl) (Nat.le_of_ble_eq_true rfl) ⟨Nat.zero_le _, Nat.zero_le _⟩ (fun v c1 hq hlen => ?_)
  obtain ⟨rfl, rfl⟩ := hq
  exact G_vret M hr dX0_restart_28 rfl ⟨rfl, rfl⟩
def mx0 (v : Int32) : Int32 := if 0 < v then v else 0
def lsD (C : Nat → Int32) (c : Int32) : Nat → Int32 := fun j => mx0 (C j - c)
def lsK (C : Nat → Int32) (c : Int32) (k : Nat) : Nat → Int32 := fun j => if j < k then lsD C c j else C j
theorem lsK_0 (C : Nat → Int32) (c : Int32) : lsK C c 0 = C := by funext j; simp [lsK]
theorem lsK_at (C : Nat → Int32) (c : Int32) (k : Nat) : lsK C c k k = C k := by simp [lsK]
theorem lsK_step (C : Nat → Int32) (c : Int32) (k : Nat) : upd (lsK C c k) k (lsD C c k) = lsK C c (k + 1) := by
  funext j
  simp only [upd, lsK]
  by_cases h : j = k
  · subst h; simp
  · rw [if_neg h]
    by_cases h2 : j < k
    · rw [if_pos h2, if_pos (show j < k + 1 by omega)]
    · rw [if_neg h2, if_neg (show ¬ j < k + 1 by omega)]
theorem upd_at (f : Nat → Int32) (k : Nat) (x : Int32) : upd f k x k = x := by simp [upd]
theorem lsn_loop {D : DD} {X : MX} {A : Nat → Prop} (M : CX D X A mi_X0_lessen.1.cls mi_X0_lessen.2.1 mi_X0_lessen.2.2.1 (miR mi_X0_lessen)) (hr : RT X mi_X0_lessen.2.2.2.1) {ad : Nat → Nat} {nn kk : Nat} {lo c : Int32} {C tg : Nat → Int32} (hnn : nn ≤ 64) : ∀ m k : Nat, k ≤ nn → nn - k < m →
    G D X A 0 0 (GQ D X A ad 3 (fun v cs => v = none ∧ cs = [ctO ad nn kk (nI (cntP (lsD C c) nn)) lo, ia D 64 (lsK C c nn), ia D 64 tg])) ad 7 [some (.ref (ad 0)), some (.int c), some (.int (nI k))] [] [ctO ad nn kk (nI (cntP (lsD C c) k)) lo, ia D 64 (lsK C c k), ia D 64 tg] := by
  intro m
  induction m with
  | zero => intro k _ h; omega
  | succ m ih =>
    intro k hk hm
    refine G_iload_n (pc := 7) M dX0_lessen_7 rfl ?_
    refine G_aload_n (pc := 8) M dX0_lessen_8 rfl ?_
    refine G_getf (pc := 9) M dX0_lessen_9 fl_X0_18 rfl (by first | rfl | assumption) ?_
    refine G_icmp_ge (pc := 12) M 58 dX0_lessen_12 (by decide) (fun h12 => ?_) (fun h12 => ?_)
    · have e : k = nn := by
        have := (nI_leI (a := nn) (b := k) (by omega) (by omega)).mp h12
        omega
      subst e
      exact G_vret M hr dX0_lessen_58 rfl ⟨rfl, rfl⟩
    · have hkn : k < nn := Nat.lt_of_not_le (fun q => h12 (nI_le q (by omega)))
      have em : ∀ v : Int32, (if 0 < v then v else 0) = mx0 v := fun _ => rfl
      refine G_aload_n (pc := 15) M dX0_lessen_15 rfl ?_
      refine G_getf (pc := 16) M dX0_lessen_16 fl_X0_9 rfl (by first | rfl | assumption) ?_
      refine G_iload_n (pc := 19) M dX0_lessen_19 rfl ?_
      refine G_iconst (pc := 20) (v := 0) M dX0_lessen_20 (by decide +kernel) ?_
      refine G_aload_n (pc := 21) M dX0_lessen_21 rfl ?_
      refine G_getf (pc := 22) M dX0_lessen_22 fl_X0_9 rfl (by first | rfl | assumption) ?_
      refine G_iload_n (pc := 25) M dX0_lessen_25 rfl ?_
      refine G_iaload (pc := 26) M dX0_lessen_26 rfl (by first | assumption | exact vp_in_nI (by omega) (by omega)) ?_
      rw [cl_nI (by omega), lsK_at]
      refine G_iload_n (pc := 27) M dX0_lessen_27 rfl ?_
      refine G_isub (pc := 28) M dX0_lessen_28 ?_
      refine G_mmax (pc := 29) M dX0_lessen_29 mm_X0_61 rfl (Nat.le_of_ble_eq_true rfl) (Nat.le_of_ble_eq_true rfl) (Nat.zero_le _) (Nat.zero_le _) ?_
      rw [em]
      refine G_iastore (pc := 32) M dX0_lessen_32 rfl (by first | assumption | exact vp_in_nI (by omega) (by omega)) ?_
      rw [cl_nI (by omega)]
      refine G_aload_n (pc := 33) M dX0_lessen_33 rfl ?_
      refine G_getf (pc := 34) M dX0_lessen_34 fl_X0_9 rfl (by first | rfl | assumption) ?_
      refine G_iload_n (pc := 37) M dX0_lessen_37 rfl ?_
      refine G_iaload (pc := 38) M dX0_lessen_38 rfl (by first | assumption | exact vp_in_nI (by omega) (by omega)) ?_
      rw [cl_nI (by omega), upd_at]
      refine G_if_le (pc := 39) M 52 dX0_lessen_39 (by decide) (fun h39 => ?_) (fun h39 => ?_)
      · have e : cntP (lsD C c) (k + 1) = cntP (lsD C c) k + 0 := by simp [cntP]; simpa [lsD] using h39
        refine G_iinc (pc := 52) (v := 1) M dX0_lessen_52 rfl (by decide +kernel) (Nat.le_of_ble_eq_true rfl) ?_
        refine G_goto (pc := 55) M 7 dX0_lessen_55 (by decide) ?_
        have := ih (k + 1) (by omega) (by omega)
        rw [← lsK_step C c k, e, ← nI_1 k] at this
        first | (rw [Nat.add_zero] at this; exact this) | (rw [← nI_1 (cntP (lsD C c) k)] at this; exact this)
      · have e : cntP (lsD C c) (k + 1) = cntP (lsD C c) k + 1 := by simp [cntP]; simpa [lsD] using h39
        refine G_aload_n (pc := 42) M dX0_lessen_42 rfl ?_
        refine G_dup (pc := 43) M dX0_lessen_43 rfl ?_
        refine G_getf (pc := 44) M dX0_lessen_44 fl_X0_25 rfl (by first | rfl | assumption) ?_
        refine G_iconst (pc := 47) (v := 1) M dX0_lessen_47 (by decide +kernel) ?_
        refine G_iadd (pc := 48) M dX0_lessen_48 ?_
        refine G_putfi (pc := 49) M dX0_lessen_49 fl_X0_25 rfl (Nat.le_of_ble_eq_true rfl) ?_
        refine G_iinc (pc := 52) (v := 1) M dX0_lessen_52 rfl (by decide +kernel) (Nat.le_of_ble_eq_true rfl) ?_
        refine G_goto (pc := 55) M 7 dX0_lessen_55 (by decide) ?_
        have := ih (k + 1) (by omega) (by omega)
        rw [← lsK_step C c k, e, ← nI_1 k] at this
        first | (rw [Nat.add_zero] at this; exact this) | (rw [← nI_1 (cntP (lsD C c) k)] at this; exact this)
theorem c_lessen (D : DD) (l : Launch) (ad : Nat → Nat) (nn kk : Nat) (tk lo c : Int32) (C tg : Nat → Int32) (hnn : nn ≤ 64) : Ct D l mi_X0_lessen [.ref (ad 0), .int c] ad [ctO ad nn kk tk lo, ia D 64 C, ia D 64 tg] (fun v cs => v = none ∧ cs = [ctO ad nn kk (nI (cntP (lsD C c) nn)) lo, ia D 64 (lsK C c nn), ia D 64 tg]) := by
  refine Ct.of (by decide +kernel) (Nat.le_of_ble_eq_true rfl) (fun X A hX M hr => ?_)
  subst hX
  refine G_aload_n (pc := 0) M dX0_lessen_0 rfl ?_
  refine G_iconst (pc := 1) (v := 0) M dX0_lessen_1 (by decide +kernel) ?_
  refine G_putfi (pc := 2) M dX0_lessen_2 fl_X0_25 rfl (Nat.le_of_ble_eq_true rfl) ?_
  refine G_iconst (pc := 5) (v := 0) M dX0_lessen_5 (by decide +kernel) ?_
  refine G_istore_n (pc := 6) M dX0_lessen_6 (Nat.le_of_ble_eq_true rfl) ?_
  have := lsn_loop M hr (ad := ad) (kk := kk) (lo := lo) (c := c) (C := C) (tg := tg) hnn 65 0 (by omega) (by omega)
  rw [lsK_0] at this
  exact this
/-- count(node): counts, how many are taken, what is lost -/
def kC (C : Nat → Int32) (nn kk : Nat) (tk : Int32) (a : Nat) : Nat → Int32 := if C a ≤ 0 then (if nI kk ≤ tk then lsK C 1 nn else upd C a 1) else upd C a (C a + 1)
def kT (C : Nat → Int32) (nn kk : Nat) (tk : Int32) (a : Nat) : Int32 := if C a ≤ 0 then (if nI kk ≤ tk then nI (cntP (lsD C 1) nn) else tk + 1) else tk
def kL (C : Nat → Int32) (kk : Nat) (tk lo : Int32) (a : Nat) : Int32 := if C a ≤ 0 then (if nI kk ≤ tk then lo + 1 else lo) else lo
theorem c_cCount (D : DD) (l : Launch) (ad : Nat → Nat) (nn kk a : Nat) (tk lo : Int32) (C tg : Nat → Int32) (hnn : nn ≤ 64) (ha : a < 64) : Ct D l mi_X0_count [.ref (ad 0), .int (nI a)] ad [ctO ad nn kk tk lo, ia D 64 C, ia D 64 tg] (fun v cs => v = none ∧ cs = [ctO ad nn kk (kT C nn kk tk a) (kL C kk tk lo a), ia D 64 (kC C nn kk tk a), ia D 64 tg]) := by
  refine Ct.of (by decide +kernel) (Nat.le_of_ble_eq_true rfl) (fun X A hX M hr => ?_)
  subst hX
  refine G_aload_n (pc := 0) M dX0_count_0 rfl ?_
  refine G_getf (pc := 1) M dX0_count_1 fl_X0_9 rfl (by first | rfl | assumption) ?_
  refine G_iload_n (pc := 4) M dX0_count_4 rfl ?_
  refine G_iaload (pc := 5) M dX0_count_5 rfl (by first | assumption | exact vp_in_nI (by omega) (by omega)) ?_
  rw [cl_nI (by omega)]
  refine G_if_le (pc := 6) M 22 dX0_count_6 (by decide) (fun h6 => ?_) (fun h6 => ?_)
  · refine G_aload_n (pc := 22) M dX0_count_22 rfl ?_
    refine G_getf (pc := 23) M dX0_count_23 fl_X0_25 rfl (by first | rfl | assumption) ?_
    refine G_aload_n (pc := 26) M dX0_count_26 rfl ?_
    refine G_getf (pc := 27) M dX0_count_27 fl_X0_22 rfl (by first | rfl | assumption) ?_
    refine G_icmp_ge (pc := 30) M 53 dX0_count_30 (by decide) (fun h30 => ?_) (fun h30 => ?_)
    · refine G_aload_n (pc := 53) M dX0_count_53 rfl ?_
      refine G_iconst (pc := 54) (v := 1) M dX0_count_54 (by decide +kernel) ?_
      refine G_callv (pc := 55) M [0, 1, 2] dX0_count_55 mv_X0_37 (c_lessen D _ (fun j => ad (pn [0, 1, 2] j)) nn kk tk lo 1 C tg hnn) rfl ⟨rfl, rfl, rfl, trivial⟩ rfl rfl rfl rfl (Nat.le_of_ble_eq_true rfl) (Nat.le_of_ble_eq_true rfl) (Nat.le_of_ble_eq_true rfl) ⟨Nat.zero_le _, Nat.zero_le _⟩ (fun v c1 hq hlen => ?_)
      obtain ⟨rfl, rfl⟩ := hq
      refine G_aload_n (pc := 58) M dX0_count_58 rfl ?_
      refine G_dup (pc := 59) M dX0_count_59 rfl ?_
      refine G_getf (pc := 60) M dX0_count_60 fl_X0_28 rfl (by first | rfl | assumption) ?_
      refine G_iconst (pc := 63) (v := 1) M dX0_count_63 (by decide +kernel) ?_
      refine G_iadd (pc := 64) M dX0_count_64 ?_
      refine G_putfi (pc := 65) M dX0_count_65 fl_X0_28 rfl (Nat.le_of_ble_eq_true rfl) ?_
      exact G_vret M hr dX0_count_68 rfl ⟨rfl, by simp only [kC, kT, kL]; first | (rw [if_pos h6, if_pos h30, if_pos h6, if_pos h30, if_pos h6, if_pos h30]; rfl) | (rw [if_pos h6, if_neg h30, if_pos h6, if_neg h30, if_pos h6, if_neg h30]; rfl) | (rw [if_neg h6, if_neg h6, if_neg h6]; rfl)⟩
    · refine G_aload_n (pc := 33) M dX0_count_33 rfl ?_
      refine G_getf (pc := 34) M dX0_count_34 fl_X0_9 rfl (by first | rfl | assumption) ?_
      refine G_iload_n (pc := 37) M dX0_count_37 rfl ?_
      refine G_iconst (pc := 38) (v := 1) M dX0_count_38 (by decide +kernel) ?_
      refine G_iastore (pc := 39) M dX0_count_39 rfl (by first | assumption | exact vp_in_nI (by omega) (by omega)) ?_
      rw [cl_nI (by omega)]
      refine G_aload_n (pc := 40) M dX0_count_40 rfl ?_
      refine G_dup (pc := 41) M dX0_count_41 rfl ?_
      refine G_getf (pc := 42) M dX0_count_42 fl_X0_25 rfl (by first | rfl | assumption) ?_
      refine G_iconst (pc := 45) (v := 1) M dX0_count_45 (by decide +kernel) ?_
      refine G_iadd (pc := 46) M dX0_count_46 ?_
      refine G_putfi (pc := 47) M dX0_count_47 fl_X0_25 rfl (Nat.le_of_ble_eq_true rfl) ?_
      refine G_goto (pc := 50) M 68 dX0_count_50 (by decide) ?_
      exact G_vret M hr dX0_count_68 rfl ⟨rfl, by simp only [kC, kT, kL]; first | (rw [if_pos h6, if_pos h30, if_pos h6, if_pos h30, if_pos h6, if_pos h30]; rfl) | (rw [if_pos h6, if_neg h30, if_pos h6, if_neg h30, if_pos h6, if_neg h30]; rfl) | (rw [if_neg h6, if_neg h6, if_neg h6]; rfl)⟩
  · refine G_aload_n (pc := 9) M dX0_count_9 rfl ?_
    refine G_getf (pc := 10) M dX0_count_10 fl_X0_9 rfl (by first | rfl | assumption) ?_
    refine G_iload_n (pc := 13) M dX0_count_13 rfl ?_
    first | refine G_dup2 (pc := 14) M dX0_count_14 rfl rfl ?_ | refine G_dup2L (pc := 14) M dX0_count_14 rfl ?_
    refine G_iaload (pc := 15) M dX0_count_15 rfl (by first | assumption | exact vp_in_nI (by omega) (by omega)) ?_
    rw [cl_nI (by omega)]
    refine G_iconst (pc := 16) (v := 1) M dX0_count_16 (by decide +kernel) ?_
    refine G_iadd (pc := 17) M dX0_count_17 ?_
    refine G_iastore (pc := 18) M dX0_count_18 rfl (by first | assumption | exact vp_in_nI (by omega) (by omega)) ?_
    rw [cl_nI (by omega)]
    refine G_goto (pc := 19) M 68 dX0_count_19 (by decide) ?_
    exact G_vret M hr dX0_count_68 rfl ⟨rfl, by simp only [kC, kT, kL]; first | (rw [if_pos h6, if_pos h30, if_pos h6, if_pos h30, if_pos h6, if_pos h30]; rfl) | (rw [if_pos h6, if_neg h30, if_pos h6, if_neg h30, if_pos h6, if_neg h30]; rfl) | (rw [if_neg h6, if_neg h6, if_neg h6]; rfl)⟩
/-- the greatest count of the first k nodes that are not in ps -/
def gB (f : Nat → Int32) (ps : Int64) : Nat → Int32 × Int32
  | 0 => (-2, 0)
  | k + 1 => if f k ≤ (gB f ps k).2 ∨ bt ps k = true then gB f ps k else (nI k, f k)
theorem grt_loop {D : DD} {X : MX} {A : Nat → Prop} (M : CX D X A mi_X0_greatest.1.cls mi_X0_greatest.2.1 mi_X0_greatest.2.2.1 (miR mi_X0_greatest)) (hr : RT X mi_X0_greatest.2.2.2.1) {ad : Nat → Nat} {fs : List Value} {nn : Nat} {f : Nat → Int32} {ps : Int64} (hnn : nn ≤ 64) (hf2 : gt fs 2 = some (.int (nI nn))) : ∀ m k : Nat, k ≤ nn → nn - k < m →
    G D X A 0 0 (GQ D X A ad 2 (fun v cs => v = some (.int (gB f ps nn).1) ∧ cs = [ob 0 fs, ia D 64 f])) ad 10 [some (.ref (ad 0)), some (.ref (ad 1)), some (.long ps), none, some (.int (gB f ps k).1), some (.int (gB f ps k).2), some (.int (nI k))] [] [ob 0 fs, ia D 64 f] := by
  intro m
  induction m with
  | zero => intro k _ h; omega
  | succ m ih =>
    intro k hk hm
    refine G_iload (pc := 10) M dX0_greatest_10 rfl ?_
    refine G_aload_n (pc := 12) M dX0_greatest_12 rfl ?_
    refine G_getf (pc := 13) M dX0_greatest_13 fl_X0_18 rfl (by first | rfl | assumption) ?_
    refine G_icmp_ge (pc := 16) M 53 dX0_greatest_16 (by decide) (fun h16 => ?_) (fun h16 => ?_)
    · have e : k = nn := by
        have := (nI_leI (a := nn) (b := k) (by omega) (by omega)).mp h16
        omega
      subst e
      refine G_iload (pc := 53) M dX0_greatest_53 rfl ?_
      exact G_iret M hr dX0_greatest_55 rfl ⟨rfl, rfl⟩
    · have hkn : k < nn := Nat.lt_of_not_le (fun q => h16 (nI_le q (by omega)))
      refine G_aload_n (pc := 19) M dX0_greatest_19 rfl ?_
      refine G_iload (pc := 20) M dX0_greatest_20 rfl ?_
      refine G_iaload (pc := 22) M dX0_greatest_22 rfl (by first | assumption | exact vp_in_nI (by omega) (by omega)) ?_
      rw [cl_nI (by omega)]
      refine G_iload (pc := 23) M dX0_greatest_23 rfl ?_
      refine G_icmp_le (pc := 25) M 47 dX0_greatest_25 (by decide) (fun h25 => ?_) (fun h25 => ?_)
      · have e : gB f ps (k + 1) = gB f ps k := by rw [gB, if_pos (Or.inl h25)]
        refine G_iinc (pc := 47) (v := 1) M dX0_greatest_47 rfl (by decide +kernel) (Nat.le_of_ble_eq_true rfl) ?_
        refine G_goto (pc := 50) M 10 dX0_greatest_50 (by decide) ?_
        have := ih (k + 1) (by omega) (by omega)
        rw [e, ← nI_1 k] at this
        exact this
      · refine G_lload_n (pc := 28) M dX0_greatest_28 rfl ?_
        refine G_iload (pc := 29) M dX0_greatest_29 rfl ?_
        refine G_calln (pc := 31) M [] dX0_greatest_31 mn_X0_57 (c_holds D _ (fun j => ad (pn [] j)) ps (nI k)) trivial rfl rfl rfl rfl (Nat.le_of_ble_eq_true rfl) (Nat.le_of_ble_eq_true rfl) (Nat.le_of_ble_eq_true rfl) ⟨Nat.zero_le _, Nat.zero_le _⟩ (fun v c1 hq hlen => ?_)
        obtain ⟨rfl, rfl⟩ := hq
        refine G_if_ne (pc := 34) M 47 dX0_greatest_34 (by decide) (fun h34 => ?_) (fun h34 => ?_)
        · have e : gB f ps (k + 1) = gB f ps k := by
            rw [hb_bt ps (by omega)] at h34
            rw [gB, if_pos (Or.inr (bz1 h34))]
          refine G_iinc (pc := 47) (v := 1) M dX0_greatest_47 rfl (by decide +kernel) (Nat.le_of_ble_eq_true rfl) ?_
          refine G_goto (pc := 50) M 10 dX0_greatest_50 (by decide) ?_
          have := ih (k + 1) (by omega) (by omega)
          rw [e, ← nI_1 k] at this
          exact this
        · have e : gB f ps (k + 1) = (nI k, f k) := by
            rw [hb_bt ps (by omega)] at h34
            have := bz0 h34
            rw [gB, if_neg (fun q => q.elim h25 (fun z => by rw [this] at z; cases z))]
          refine G_iload (pc := 37) M dX0_greatest_37 rfl ?_
          refine G_istore (pc := 39) M dX0_greatest_39 (Nat.le_of_ble_eq_true rfl) ?_
          refine G_aload_n (pc := 41) M dX0_greatest_41 rfl ?_
          refine G_iload (pc := 42) M dX0_greatest_42 rfl ?_
          refine G_iaload (pc := 44) M dX0_greatest_44 rfl (by first | assumption | exact vp_in_nI (by omega) (by omega)) ?_
          rw [cl_nI (by omega)]
          refine G_istore (pc := 45) M dX0_greatest_45 (Nat.le_of_ble_eq_true rfl) ?_
          refine G_iinc (pc := 47) (v := 1) M dX0_greatest_47 rfl (by decide +kernel) (Nat.le_of_ble_eq_true rfl) ?_
          refine G_goto (pc := 50) M 10 dX0_greatest_50 (by decide) ?_
          have := ih (k + 1) (by omega) (by omega)
          rw [e, ← nI_1 k] at this
          exact this
theorem c_greatest (D : DD) (l : Launch) (ad : Nat → Nat) (fs : List Value) (nn : Nat) (f : Nat → Int32) (ps : Int64) (hnn : nn ≤ 64) (hf2 : gt fs 2 = some (.int (nI nn))) : Ct D l mi_X0_greatest [.ref (ad 0), .ref (ad 1), .long ps] ad [ob 0 fs, ia D 64 f] (fun v cs => v = some (.int (gB f ps nn).1) ∧ cs = [ob 0 fs, ia D 64 f]) := by
  refine Ct.of (by decide +kernel) (Nat.le_of_ble_eq_true rfl) (fun X A hX M hr => ?_)
  subst hX
  refine G_bipush (pc := 0) (v := -2) M dX0_greatest_0 (by decide +kernel) ?_
  refine G_istore (pc := 2) M dX0_greatest_2 (Nat.le_of_ble_eq_true rfl) ?_
  refine G_iconst (pc := 4) (v := 0) M dX0_greatest_4 (by decide +kernel) ?_
  refine G_istore (pc := 5) M dX0_greatest_5 (Nat.le_of_ble_eq_true rfl) ?_
  refine G_iconst (pc := 7) (v := 0) M dX0_greatest_7 (by decide +kernel) ?_
  refine G_istore (pc := 8) M dX0_greatest_8 (Nat.le_of_ble_eq_true rfl) ?_
  exact grt_loop M hr hnn hf2 65 0 (by omega) (by omega)
/-- the node at place j behind those of ps -/
def nap (f : Nat → Int32) (nn : Nat) : Nat → Int64 → Int32
  | 0, ps => (gB f ps nn).1
  | j + 1, ps => if (gB f ps nn).1 = -2 then -2 else nap f nn j (ps ||| (1 <<< ((gB f ps nn).1.toInt64 &&& 63)))
theorem nap_loop {D : DD} {X : MX} {A : Nat → Prop} (M : CX D X A mi_X0_nodeAtPlace.1.cls mi_X0_nodeAtPlace.2.1 mi_X0_nodeAtPlace.2.2.1 (miR mi_X0_nodeAtPlace)) (hr : RT X mi_X0_nodeAtPlace.2.2.2.1) {ad : Nat → Nat} {fs : List Value} {nn p : Nat} {f : Nat → Int32} (hnn : nn ≤ 64) (hp : p < 2 ^ 30) (hf2 : gt fs 2 = some (.int (nI nn))) : ∀ j : Nat, j ≤ p → ∀ (ps : Int64) (z : Int32),
    G D X A 0 0 (GQ D X A ad 2 (fun v cs => v = some (.int (nap f nn j ps)) ∧ cs = [ob 0 fs, ia D 64 f])) ad 9 [some (.ref (ad 0)), some (.ref (ad 1)), some (.int (nI p)), some (.long ps), none, some (.int z), some (.int (nI (p - j)))] [] [ob 0 fs, ia D 64 f] := by
  intro j
  induction j with
  | zero =>
    intro _ ps z
    have fin : ∀ z : Int32, ¬ z = -2 → z = (gB f ps nn).1 → ∀ q : Int64, G D X A 0 0 (GQ D X A ad 2 (fun v cs => v = some (.int (nap f nn 0 ps)) ∧ cs = [ob 0 fs, ia D 64 f])) ad 9 [some (.ref (ad 0)), some (.ref (ad 1)), some (.int (nI p)), some (.long q), none, some (.int z), some (.int (nI (p + 1)))] [] [ob 0 fs, ia D 64 f] := by
      intro z hz e q
      refine G_iload (pc := 9) M dX0_nodeAtPlace_9 rfl ?_
      refine G_iload_n (pc := 11) M dX0_nodeAtPlace_11 rfl ?_
      refine G_icmp_gt (pc := 12) M 46 dX0_nodeAtPlace_12 (by decide) (fun h12 => ?_) (fun h12 => ?_)
      · refine G_iload (pc := 46) M dX0_nodeAtPlace_46 rfl ?_
        exact G_iret M hr dX0_nodeAtPlace_48 rfl ⟨by rw [nap, e], rfl⟩
      · exact absurd (nI_lt (a := p) (b := p + 1) (by omega) (by omega)) h12
    refine G_iload (pc := 9) M dX0_nodeAtPlace_9 rfl ?_
    refine G_iload_n (pc := 11) M dX0_nodeAtPlace_11 rfl ?_
    refine G_icmp_gt (pc := 12) M 46 dX0_nodeAtPlace_12 (by decide) (fun h12 => ?_) (fun h12 => ?_)
    · exact absurd ((nI_ltI (a := p) (b := p - 0) (by omega) (by omega)).mp h12) (by omega)
    · refine G_aload_n (pc := 15) M dX0_nodeAtPlace_15 rfl ?_
      refine G_aload_n (pc := 16) M dX0_nodeAtPlace_16 rfl ?_
      refine G_lload_n (pc := 17) M dX0_nodeAtPlace_17 rfl ?_
      refine G_callv (pc := 18) M [0, 1] dX0_nodeAtPlace_18 mv_X0_53 (c_greatest D _ (fun j => ad (pn [0, 1] j)) fs nn f ps hnn hf2) rfl ⟨rfl, rfl, trivial⟩ rfl rfl rfl rfl (Nat.le_of_ble_eq_true rfl) (Nat.le_of_ble_eq_true rfl) (Nat.le_of_ble_eq_true rfl) ⟨Nat.zero_le _, Nat.zero_le _⟩ (fun v c1 hq hlen => ?_)
      obtain ⟨rfl, rfl⟩ := hq
      refine G_istore (pc := 21) M dX0_nodeAtPlace_21 (Nat.le_of_ble_eq_true rfl) ?_
      refine G_iload (pc := 23) M dX0_nodeAtPlace_23 rfl ?_
      refine G_bipush (pc := 25) (v := -2) M dX0_nodeAtPlace_25 (by decide +kernel) ?_
      refine G_icmp_ne (pc := 27) M 33 dX0_nodeAtPlace_27 (by decide) (fun h27 => ?_) (fun h27 => ?_)
      · refine G_lload_n (pc := 33) M dX0_nodeAtPlace_33 rfl ?_
        refine G_lconst (pc := 34) (v := 1) M dX0_nodeAtPlace_34 (by decide +kernel) ?_
        refine G_iload (pc := 35) M dX0_nodeAtPlace_35 rfl ?_
        refine G_lshl (pc := 37) M dX0_nodeAtPlace_37 ?_
        refine G_lor (pc := 38) M dX0_nodeAtPlace_38 ?_
        refine G_lstore_n (pc := 39) M dX0_nodeAtPlace_39 (Nat.le_of_ble_eq_true rfl) ?_
        refine G_iinc (pc := 40) (v := 1) M dX0_nodeAtPlace_40 rfl (by decide +kernel) (Nat.le_of_ble_eq_true rfl) ?_
        refine G_goto (pc := 43) M 9 dX0_nodeAtPlace_43 (by decide) ?_
        have := fin _ h27 rfl (ps ||| (1 <<< ((gB f ps nn).1.toInt64 &&& 63)))
        rw [← nI_1 p] at this
        exact this
      · refine G_bipush (pc := 30) (v := -2) M dX0_nodeAtPlace_30 (by decide +kernel) ?_
        exact G_iret M hr dX0_nodeAtPlace_32 rfl ⟨by rw [nap]; simpa using h27.symm, rfl⟩
  | succ j ih =>
    intro hj ps z
    refine G_iload (pc := 9) M dX0_nodeAtPlace_9 rfl ?_
    refine G_iload_n (pc := 11) M dX0_nodeAtPlace_11 rfl ?_
    refine G_icmp_gt (pc := 12) M 46 dX0_nodeAtPlace_12 (by decide) (fun h12 => ?_) (fun h12 => ?_)
    · exact absurd ((nI_ltI (a := p) (b := p - (j + 1)) (by omega) (by omega)).mp h12) (by omega)
    · refine G_aload_n (pc := 15) M dX0_nodeAtPlace_15 rfl ?_
      refine G_aload_n (pc := 16) M dX0_nodeAtPlace_16 rfl ?_
      refine G_lload_n (pc := 17) M dX0_nodeAtPlace_17 rfl ?_
      refine G_callv (pc := 18) M [0, 1] dX0_nodeAtPlace_18 mv_X0_53 (c_greatest D _ (fun j => ad (pn [0, 1] j)) fs nn f ps hnn hf2) rfl ⟨rfl, rfl, trivial⟩ rfl rfl rfl rfl (Nat.le_of_ble_eq_true rfl) (Nat.le_of_ble_eq_true rfl) (Nat.le_of_ble_eq_true rfl) ⟨Nat.zero_le _, Nat.zero_le _⟩ (fun v c1 hq hlen => ?_)
      obtain ⟨rfl, rfl⟩ := hq
      refine G_istore (pc := 21) M dX0_nodeAtPlace_21 (Nat.le_of_ble_eq_true rfl) ?_
      refine G_iload (pc := 23) M dX0_nodeAtPlace_23 rfl ?_
      refine G_bipush (pc := 25) (v := -2) M dX0_nodeAtPlace_25 (by decide +kernel) ?_
      refine G_icmp_ne (pc := 27) M 33 dX0_nodeAtPlace_27 (by decide) (fun h27 => ?_) (fun h27 => ?_)
      · refine G_lload_n (pc := 33) M dX0_nodeAtPlace_33 rfl ?_
        refine G_lconst (pc := 34) (v := 1) M dX0_nodeAtPlace_34 (by decide +kernel) ?_
        refine G_iload (pc := 35) M dX0_nodeAtPlace_35 rfl ?_
        refine G_lshl (pc := 37) M dX0_nodeAtPlace_37 ?_
        refine G_lor (pc := 38) M dX0_nodeAtPlace_38 ?_
        refine G_lstore_n (pc := 39) M dX0_nodeAtPlace_39 (Nat.le_of_ble_eq_true rfl) ?_
        refine G_iinc (pc := 40) (v := 1) M dX0_nodeAtPlace_40 rfl (by decide +kernel) (Nat.le_of_ble_eq_true rfl) ?_
        refine G_goto (pc := 43) M 9 dX0_nodeAtPlace_43 (by decide) ?_
        have := ih (by omega) (ps ||| (1 <<< ((gB f ps nn).1.toInt64 &&& 63))) (gB f ps nn).1
        rw [show p - j = p - (j + 1) + 1 by omega, ← nI_1 (p - (j + 1))] at this
        rw [nap, if_neg h27]
        exact this
      · refine G_bipush (pc := 30) (v := -2) M dX0_nodeAtPlace_30 (by decide +kernel) ?_
        exact G_iret M hr dX0_nodeAtPlace_32 rfl ⟨by rw [nap, if_pos (by simpa using h27)], rfl⟩
theorem c_nodeAtPlace (D : DD) (l : Launch) (ad : Nat → Nat) (fs : List Value) (nn p : Nat) (f : Nat → Int32) (hnn : nn ≤ 64) (hp : p < 2 ^ 30) (hf2 : gt fs 2 = some (.int (nI nn))) : Ct D l mi_X0_nodeAtPlace [.ref (ad 0), .ref (ad 1), .int (nI p)] ad [ob 0 fs, ia D 64 f] (fun v cs => v = some (.int (nap f nn p 0)) ∧ cs = [ob 0 fs, ia D 64 f]) := by
  refine Ct.of (by decide +kernel) (Nat.le_of_ble_eq_true rfl) (fun X A hX M hr => ?_)
  subst hX
  refine G_lconst (pc := 0) (v := 0) M dX0_nodeAtPlace_0 (by decide +kernel) ?_
  refine G_lstore_n (pc := 1) M dX0_nodeAtPlace_1 (Nat.le_of_ble_eq_true rfl) ?_
  refine G_bipush (pc := 2) (v := -2) M dX0_nodeAtPlace_2 (by decide +kernel) ?_
  refine G_istore (pc := 4) M dX0_nodeAtPlace_4 (Nat.le_of_ble_eq_true rfl) ?_
  refine G_iconst (pc := 6) (v := 0) M dX0_nodeAtPlace_6 (by decide +kernel) ?_
  refine G_istore (pc := 7) M dX0_nodeAtPlace_7 (Nat.le_of_ble_eq_true rfl) ?_
  have := nap_loop M hr (ad := ad) (f := f) hnn hp hf2 p (Nat.le_refl p) 0 (-2)
  rw [Nat.sub_self] at this
  exact this
