/-! the reference: less, count, pairs, isApart -/
def m0 (v : Int32) : Int32 := if v ≤ 0 then 0 else v
def lessF (ct : Nat → Int32) (s : Nat) (c : Int32) (k : Nat) : Nat → Int32 := fun j => if 64 * s ≤ j ∧ j < 64 * s + k then m0 (ct j - c) else ct j
theorem lessF_at (ct : Nat → Int32) (s : Nat) (c : Int32) (k : Nat) : lessF ct s c k (64 * s + k) = ct (64 * s + k) := by simp [lessF]
theorem lessF_0 (ct : Nat → Int32) (s : Nat) (c : Int32) : lessF ct s c 0 = ct := by
  funext j
  simp only [lessF]
  rw [if_neg (by omega)]
theorem lessF_step (ct : Nat → Int32) (s : Nat) (c : Int32) (k : Nat) : upd (lessF ct s c k) (64 * s + k) (m0 (ct (64 * s + k) - c)) = lessF ct s c (k + 1) := by
  funext j
  simp only [upd, lessF]
  by_cases h : j = 64 * s + k
  · subst h
    rw [if_pos rfl, if_pos (by omega)]
  · rw [if_neg h]
    by_cases h2 : 64 * s ≤ j ∧ j < 64 * s + k
    · rw [if_pos h2, if_pos (by omega)]
    · rw [if_neg h2, if_neg (by omega)]
theorem less_loop {D : DD} {X : MX} {A : Nat → Prop} (M : CX D X A mi_X7_less.1.cls mi_X7_less.2.1 mi_X7_less.2.2.1 (miR mi_X7_less)) (hr : RT X mi_X7_less.2.2.2.1) {ad : Nat → Nat} {fs : List Value} {lo ct : Nat → Int32} {s : Nat} {c : Int32} (hs : s < 3) (hf5 : gt fs 5 = some (.ref (ad 1))) (hf8 : gt fs 8 = some (.ref (ad 2))) : ∀ m k : Nat, k ≤ 64 → 64 - k < m → ∀ z : Option Value,
    G D X A 0 0 (GQ D X A ad 3 (fun v cs => v = none ∧ cs = [ob 7 fs, ia D 3 (upd lo s (lo s + c)), ia D 192 (lessF ct s c 64)])) ad 2 [some (.ref (ad 0)), some (.int (nI s)), some (.int c), some (.int (nI k)), z] [] [ob 7 fs, ia D 3 lo, ia D 192 (lessF ct s c k)] := by
  intro m
  induction m with
  | zero => intro k _ h; omega
  | succ m ih =>
    intro k hk hm z
    refine G_iload_n (pc := 2) M dX7_less_2 rfl ?_
    refine G_bipush (pc := 3) (v := 64) M dX7_less_3 (by decide +kernel) ?_
    refine G_icmp_ge (pc := 5) M 51 dX7_less_5 (by decide) (fun h5 => ?_) (fun h5 => ?_)
    · have hk64 : k = 64 := by
        have := (nI_leI (a := 64) (b := k) (by omega) (by omega)).mp h5
        omega
      subst hk64
      refine G_aload_n (pc := 51) M dX7_less_51 rfl ?_
      refine G_getf (pc := 52) M dX7_less_52 fl_X7_26 rfl (by first | rfl | assumption) ?_
      refine G_iload_n (pc := 55) M dX7_less_55 rfl ?_
      first | refine G_dup2 (pc := 56) M dX7_less_56 rfl rfl ?_ | refine G_dup2L (pc := 56) M dX7_less_56 rfl ?_
      refine G_iaload (pc := 57) M dX7_less_57 rfl (by first | assumption | exact vp_in_nI (by omega) (by omega)) ?_
      rw [cl_nI (by omega)]
      refine G_iload_n (pc := 58) M dX7_less_58 rfl ?_
      refine G_iadd (pc := 59) M dX7_less_59 ?_
      refine G_iastore (pc := 60) M dX7_less_60 rfl (by first | assumption | exact vp_in_nI (by omega) (by omega)) ?_
      rw [cl_nI (by omega)]
      exact G_vret M hr dX7_less_61 rfl ⟨rfl, rfl⟩
    · have hk64 : k < 64 := Nat.lt_of_not_le (fun q => h5 (nI_le q (by omega)))
      refine G_aload_n (pc := 8) M dX7_less_8 rfl ?_
      refine G_getf (pc := 9) M dX7_less_9 fl_X7_35 rfl (by first | rfl | assumption) ?_
      refine G_bipush (pc := 12) (v := 64) M dX7_less_12 (by decide +kernel) ?_
      refine G_iload_n (pc := 14) M dX7_less_14 rfl ?_
      refine G_imul (pc := 15) M dX7_less_15 ?_
      refine G_iload_n (pc := 16) M dX7_less_16 rfl ?_
      refine G_iadd (pc := 17) M dX7_less_17 ?_
      rw [ixA]
      refine G_iaload (pc := 18) M dX7_less_18 rfl (by first | assumption | exact vp_in_nI (by omega) (by omega)) ?_
      rw [cl_nI (by omega), lessF_at]
      refine G_iload_n (pc := 19) M dX7_less_19 rfl ?_
      refine G_isub (pc := 20) M dX7_less_20 ?_
      refine G_istore (pc := 21) M dX7_less_21 (Nat.le_of_ble_eq_true rfl) ?_
      refine G_aload_n (pc := 23) M dX7_less_23 rfl ?_
      refine G_getf (pc := 24) M dX7_less_24 fl_X7_35 rfl (by first | rfl | assumption) ?_
      refine G_bipush (pc := 27) (v := 64) M dX7_less_27 (by decide +kernel) ?_
      refine G_iload_n (pc := 29) M dX7_less_29 rfl ?_
      refine G_imul (pc := 30) M dX7_less_30 ?_
      refine G_iload_n (pc := 31) M dX7_less_31 rfl ?_
      refine G_iadd (pc := 32) M dX7_less_32 ?_
      refine G_iload (pc := 33) M dX7_less_33 rfl ?_
      refine G_if_le (pc := 35) M 43 dX7_less_35 (by decide) (fun h35 => ?_) (fun h35 => ?_)
      · have e : m0 (ct (64 * s + k) - c) = 0 := if_pos h35
        refine G_iconst (pc := 43) (v := 0) M dX7_less_43 (by decide +kernel) ?_
        rw [ixA]
        refine G_iastore (pc := 44) M dX7_less_44 rfl (by first | assumption | exact vp_in_nI (by omega) (by omega)) ?_
        rw [cl_nI (by omega), ← e]
        refine G_iinc (pc := 45) (v := 1) M dX7_less_45 rfl (by decide +kernel) (Nat.le_of_ble_eq_true rfl) ?_
        refine G_goto (pc := 48) M 2 dX7_less_48 (by decide) ?_
        have := ih (k + 1) (by omega) (by omega)
        rw [← lessF_step ct s c k, ← nI_1 k] at this
        exact this _
      · have e : m0 (ct (64 * s + k) - c) = ct (64 * s + k) - c := if_neg h35
        refine G_iload (pc := 38) M dX7_less_38 rfl ?_
        refine G_goto (pc := 40) M 44 dX7_less_40 (by decide) ?_
        rw [ixA]
        refine G_iastore (pc := 44) M dX7_less_44 rfl (by first | assumption | exact vp_in_nI (by omega) (by omega)) ?_
        rw [cl_nI (by omega), ← e]
        refine G_iinc (pc := 45) (v := 1) M dX7_less_45 rfl (by decide +kernel) (Nat.le_of_ble_eq_true rfl) ?_
        refine G_goto (pc := 48) M 2 dX7_less_48 (by decide) ?_
        have := ih (k + 1) (by omega) (by omega)
        rw [← lessF_step ct s c k, ← nI_1 k] at this
        exact this _
theorem c_less (D : DD) (l : Launch) (ad : Nat → Nat) (fs : List Value) (lo ct : Nat → Int32) (s : Nat) (c : Int32) (hs : s < 3) (hf5 : gt fs 5 = some (.ref (ad 1))) (hf8 : gt fs 8 = some (.ref (ad 2))) : Ct D l mi_X7_less [.ref (ad 0), .int (nI s), .int c] ad [ob 7 fs, ia D 3 lo, ia D 192 ct] (fun v cs => v = none ∧ cs = [ob 7 fs, ia D 3 (upd lo s (lo s + c)), ia D 192 (lessF ct s c 64)]) := by
  refine Ct.of (by decide +kernel) (Nat.le_of_ble_eq_true rfl) (fun X A hX M hr => ?_)
  subst hX
  refine G_iconst (pc := 0) (v := 0) M dX7_less_0 (by decide +kernel) ?_
  refine G_istore_n (pc := 1) M dX7_less_1 (Nat.le_of_ble_eq_true rfl) ?_
  have := less_loop M hr (c := c) (lo := lo) (ct := ct) hs hf5 hf8 65 0 (by omega) (by omega) none
  rw [lessF_0] at this
  exact this
/-- whether a node is counted by one more (else all are less) -/
def cntT (ct : Nat → Int32) (sl : Int32) (s a : Nat) : Bool := decide (0 < ct (64 * s + a)) || !decide (sl ≤ nI (cntP (fun a => ct (64 * s + a)) 64))
def cntC (ct : Nat → Int32) (sl : Int32) (s a : Nat) : Nat → Int32 := bif cntT ct sl s a then upd ct (64 * s + a) (ct (64 * s + a) + 1) else lessF ct s 1 64
def cntL (lo ct : Nat → Int32) (sl : Int32) (s a : Nat) : Nat → Int32 := bif cntT ct sl s a then lo else upd lo s (lo s + 1)
theorem c_count (D : DD) (l : Launch) (ad : Nat → Nat) (fs : List Value) (sl lo ct : Nat → Int32) (s a : Nat) (hs : s < 3) (ha : a < 64) (hf1 : gt fs 1 = some (.ref (ad 1))) (hf5 : gt fs 5 = some (.ref (ad 2))) (hf8 : gt fs 8 = some (.ref (ad 3))) : Ct D l mi_X7_count [.ref (ad 0), .int (nI s), .int (nI a)] ad [ob 7 fs, ia D 3 sl, ia D 3 lo, ia D 192 ct] (fun v cs => v = none ∧ cs = [ob 7 fs, ia D 3 sl, ia D 3 (cntL lo ct (sl s) s a), ia D 192 (cntC ct (sl s) s a)]) := by
  refine Ct.of (by decide +kernel) (Nat.le_of_ble_eq_true rfl) (fun X A hX M hr => ?_)
  subst hX
  refine G_aload_n (pc := 0) M dX7_count_0 rfl ?_
  refine G_getf (pc := 1) M dX7_count_1 fl_X7_35 rfl (by first | rfl | assumption) ?_
  refine G_bipush (pc := 4) (v := 64) M dX7_count_4 (by decide +kernel) ?_
  refine G_iload_n (pc := 6) M dX7_count_6 rfl ?_
  refine G_imul (pc := 7) M dX7_count_7 ?_
  refine G_iload_n (pc := 8) M dX7_count_8 rfl ?_
  refine G_iadd (pc := 9) M dX7_count_9 ?_
  rw [ixA]
  refine G_iaload (pc := 10) M dX7_count_10 rfl (by first | assumption | exact vp_in_nI (by omega) (by omega)) ?_
  rw [cl_nI (by omega)]
  refine G_if_gt (pc := 11) M 28 dX7_count_11 (by decide) (fun h11 => ?_) (fun h11 => ?_)
  · refine G_aload_n (pc := 28) M dX7_count_28 rfl ?_
    refine G_getf (pc := 29) M dX7_count_29 fl_X7_35 rfl (by first | rfl | assumption) ?_
    refine G_bipush (pc := 32) (v := 64) M dX7_count_32 (by decide +kernel) ?_
    refine G_iload_n (pc := 34) M dX7_count_34 rfl ?_
    refine G_imul (pc := 35) M dX7_count_35 ?_
    refine G_iload_n (pc := 36) M dX7_count_36 rfl ?_
    refine G_iadd (pc := 37) M dX7_count_37 ?_
    first | refine G_dup2 (pc := 38) M dX7_count_38 rfl rfl ?_ | refine G_dup2L (pc := 38) M dX7_count_38 rfl ?_
    rw [ixA]
    refine G_iaload (pc := 39) M dX7_count_39 rfl (by first | assumption | exact vp_in_nI (by omega) (by omega)) ?_
    rw [cl_nI (by omega)]
    refine G_iconst (pc := 40) (v := 1) M dX7_count_40 (by decide +kernel) ?_
    refine G_iadd (pc := 41) M dX7_count_41 ?_
    refine G_iastore (pc := 42) M dX7_count_42 rfl (by first | assumption | exact vp_in_nI (by omega) (by omega)) ?_
    rw [cl_nI (by omega)]
    refine G_goto (pc := 43) M 52 dX7_count_43 (by decide) ?_
    exact G_vret M hr dX7_count_52 rfl ⟨rfl, by simp [cntL, cntC, cntT, sall, *]⟩
  · refine G_aload_n (pc := 14) M dX7_count_14 rfl ?_
    refine G_iload_n (pc := 15) M dX7_count_15 rfl ?_
    refine G_callv (pc := 16) M [0, 3] dX7_count_16 mv_X7_68 (c_taken D _ (fun j => ad (pn [0, 3] j)) fs ct s hs hf8) rfl ⟨rfl, rfl, trivial⟩ rfl rfl rfl rfl (Nat.le_of_ble_eq_true rfl) (Nat.le_of_ble_eq_true rfl) (Nat.le_of_ble_eq_true rfl) ⟨Nat.zero_le _, Nat.zero_le _⟩ (fun v c1 hq hlen => ?_)
    obtain ⟨rfl, rfl⟩ := hq
    refine G_aload_n (pc := 19) M dX7_count_19 rfl ?_
    refine G_getf (pc := 20) M dX7_count_20 fl_X7_13 rfl (by first | rfl | assumption) ?_
    refine G_iload_n (pc := 23) M dX7_count_23 rfl ?_
    refine G_iaload (pc := 24) M dX7_count_24 rfl (by first | assumption | exact vp_in_nI (by omega) (by omega)) ?_
    rw [cl_nI (by omega)]
    refine G_icmp_ge (pc := 25) M 46 dX7_count_25 (by decide) (fun h25 => ?_) (fun h25 => ?_)
    · refine G_aload_n (pc := 46) M dX7_count_46 rfl ?_
      refine G_iload_n (pc := 47) M dX7_count_47 rfl ?_
      refine G_iconst (pc := 48) (v := 1) M dX7_count_48 (by decide +kernel) ?_
      refine G_callv (pc := 49) M [0, 2, 3] dX7_count_49 mv_X7_72 (c_less D _ (fun j => ad (pn [0, 2, 3] j)) fs lo ct s 1 hs hf5 hf8) rfl ⟨rfl, rfl, rfl, trivial⟩ rfl rfl rfl rfl (Nat.le_of_ble_eq_true rfl) (Nat.le_of_ble_eq_true rfl) (Nat.le_of_ble_eq_true rfl) ⟨Nat.zero_le _, Nat.zero_le _⟩ (fun v c1 hq hlen => ?_)
      obtain ⟨rfl, rfl⟩ := hq
      exact G_vret M hr dX7_count_52 rfl ⟨rfl, by simp [cntL, cntC, cntT, sall, *]⟩
    · refine G_aload_n (pc := 28) M dX7_count_28 rfl ?_
      refine G_getf (pc := 29) M dX7_count_29 fl_X7_35 rfl (by first | rfl | assumption) ?_
      refine G_bipush (pc := 32) (v := 64) M dX7_count_32 (by decide +kernel) ?_
      refine G_iload_n (pc := 34) M dX7_count_34 rfl ?_
      refine G_imul (pc := 35) M dX7_count_35 ?_
      refine G_iload_n (pc := 36) M dX7_count_36 rfl ?_
      refine G_iadd (pc := 37) M dX7_count_37 ?_
      first | refine G_dup2 (pc := 38) M dX7_count_38 rfl rfl ?_ | refine G_dup2L (pc := 38) M dX7_count_38 rfl ?_
      rw [ixA]
      refine G_iaload (pc := 39) M dX7_count_39 rfl (by first | assumption | exact vp_in_nI (by omega) (by omega)) ?_
      rw [cl_nI (by omega)]
      refine G_iconst (pc := 40) (v := 1) M dX7_count_40 (by decide +kernel) ?_
      refine G_iadd (pc := 41) M dX7_count_41 ?_
      refine G_iastore (pc := 42) M dX7_count_42 rfl (by first | assumption | exact vp_in_nI (by omega) (by omega)) ?_
      rw [cl_nI (by omega)]
      refine G_goto (pc := 43) M 52 dX7_count_43 (by decide) ?_
      exact G_vret M hr dX7_count_52 rfl ⟨rfl, by simp [cntL, cntC, cntT, sall, *]⟩
theorem pairs_loop {D : DD} {X : MX} {A : Nat → Prop} (M : CX D X A mi_X7_pairs.1.cls mi_X7_pairs.2.1 mi_X7_pairs.2.2.1 (miR mi_X7_pairs)) (hr : RT X mi_X7_pairs.2.2.2.1) {ad : Nat → Nat} {fs : List Value} {mt : Nat → Int32} {s : Nat} (hs : s < 3) (hf9 : gt fs 9 = some (.ref (ad 1))) : ∀ m k : Nat, k ≤ 64 → 64 - k < m →
    G D X A 0 0 (GQ D X A ad 2 (fun v c => v = some (.int (nI (cntP (fun a => mt (64 * s + a)) 64 / 2))) ∧ c = [ob 7 fs, ia D 192 mt])) ad 4 [some (.ref (ad 0)), some (.int (nI s)), some (.int (nI (cntP (fun a => mt (64 * s + a)) k))), some (.int (nI k))] [] [ob 7 fs, ia D 192 mt] := by
  intro m
  induction m with
  | zero => intro k _ h; omega
  | succ m ih =>
    intro k hk hm
    refine G_iload_n (pc := 4) M dX7_pairs_4 rfl ?_
    refine G_bipush (pc := 5) (v := 64) M dX7_pairs_5 (by decide +kernel) ?_
    refine G_icmp_ge (pc := 7) M 38 dX7_pairs_7 (by decide) (fun h7 => ?_) (fun h7 => ?_)
    · have hk64 : k = 64 := by
        have := (nI_leI (a := 64) (b := k) (by omega) (by omega)).mp h7
        omega
      subst hk64
      refine G_iload_n (pc := 38) M dX7_pairs_38 rfl ?_
      refine G_iconst (pc := 39) (v := 2) M dX7_pairs_39 (by decide +kernel) ?_
      refine G_idiv (pc := 40) M dX7_pairs_40 (by decide +kernel) ?_
      rw [show (2 : Int32) = nI 2 from rfl, pk_div (by have := cntP_le (fun a => mt (64 * s + a)) 64; omega) (by omega) (by omega)]
      exact G_iret M hr dX7_pairs_41 rfl ⟨rfl, rfl⟩
    · have hk64 : k < 64 := Nat.lt_of_not_le (fun q => h7 (nI_le q (by omega)))
      refine G_iload_n (pc := 10) M dX7_pairs_10 rfl ?_
      refine G_aload_n (pc := 11) M dX7_pairs_11 rfl ?_
      refine G_getf (pc := 12) M dX7_pairs_12 fl_X7_38 rfl (by first | rfl | assumption) ?_
      refine G_bipush (pc := 15) (v := 64) M dX7_pairs_15 (by decide +kernel) ?_
      refine G_iload_n (pc := 17) M dX7_pairs_17 rfl ?_
      refine G_imul (pc := 18) M dX7_pairs_18 ?_
      refine G_iload_n (pc := 19) M dX7_pairs_19 rfl ?_
      refine G_iadd (pc := 20) M dX7_pairs_20 ?_
      rw [ixA]
      refine G_iaload (pc := 21) M dX7_pairs_21 rfl (by first | assumption | exact vp_in_nI (by omega) (by omega)) ?_
      rw [cl_nI (by omega)]
      refine G_if_le (pc := 22) M 29 dX7_pairs_22 (by decide) (fun h22 => ?_) (fun h22 => ?_)
      · have e : cntP (fun a => mt (64 * s + a)) (k + 1) = cntP (fun a => mt (64 * s + a)) k + 0 := by simp [cntP]; simpa using h22
        refine G_iconst (pc := 29) (v := 0) M dX7_pairs_29 (by decide +kernel) ?_
        refine G_iadd (pc := 30) M dX7_pairs_30 ?_
        refine G_istore_n (pc := 31) M dX7_pairs_31 (Nat.le_of_ble_eq_true rfl) ?_
        refine G_iinc (pc := 32) (v := 1) M dX7_pairs_32 rfl (by decide +kernel) (Nat.le_of_ble_eq_true rfl) ?_
        refine G_goto (pc := 35) M 4 dX7_pairs_35 (by decide) ?_
        have := ih (k + 1) (by omega) (by omega)
        rw [e, ← nI_add, ← nI_add k 1] at this
        exact this
      · have e : cntP (fun a => mt (64 * s + a)) (k + 1) = cntP (fun a => mt (64 * s + a)) k + 1 := by simp [cntP]; simpa using h22
        refine G_iconst (pc := 25) (v := 1) M dX7_pairs_25 (by decide +kernel) ?_
        refine G_goto (pc := 26) M 30 dX7_pairs_26 (by decide) ?_
        refine G_iadd (pc := 30) M dX7_pairs_30 ?_
        refine G_istore_n (pc := 31) M dX7_pairs_31 (Nat.le_of_ble_eq_true rfl) ?_
        refine G_iinc (pc := 32) (v := 1) M dX7_pairs_32 rfl (by decide +kernel) (Nat.le_of_ble_eq_true rfl) ?_
        refine G_goto (pc := 35) M 4 dX7_pairs_35 (by decide) ?_
        have := ih (k + 1) (by omega) (by omega)
        rw [e, ← nI_add, ← nI_add k 1] at this
        exact this
theorem c_pairs (D : DD) (l : Launch) (ad : Nat → Nat) (fs : List Value) (mt : Nat → Int32) (s : Nat) (hs : s < 3) (hf9 : gt fs 9 = some (.ref (ad 1))) : Ct D l mi_X7_pairs [.ref (ad 0), .int (nI s)] ad [ob 7 fs, ia D 192 mt] (fun v c => v = some (.int (nI (cntP (fun a => mt (64 * s + a)) 64 / 2))) ∧ c = [ob 7 fs, ia D 192 mt]) := by
  refine Ct.of (by decide +kernel) (Nat.le_of_ble_eq_true rfl) (fun X A hX M hr => ?_)
  subst hX
  refine G_iconst (pc := 0) (v := 0) M dX7_pairs_0 (by decide +kernel) ?_
  refine G_istore_n (pc := 1) M dX7_pairs_1 (Nat.le_of_ble_eq_true rfl) ?_
  refine G_iconst (pc := 2) (v := 0) M dX7_pairs_2 (by decide +kernel) ?_
  refine G_istore_n (pc := 3) M dX7_pairs_3 (Nat.le_of_ble_eq_true rfl) ?_
  exact pairs_loop M hr hs hf9 65 0 (by omega) (by omega)
def apB (nd sl sr : Nat → Int32) (sd : Nat → Int64) (s o : Nat) : Bool := !decide (nd s = nd o) || !decide (sl s = sl o) || !decide (sr s = sr o) || !decide (sd s = sd o)
theorem c_isApart (D : DD) (l : Launch) (ad : Nat → Nat) (fs : List Value) (nd sl sr : Nat → Int32) (sd : Nat → Int64) (s o : Nat) (hs : s < 3) (ho : o < 3) (hf0 : gt fs 0 = some (.ref (ad 1))) (hf1 : gt fs 1 = some (.ref (ad 2))) (hf2 : gt fs 2 = some (.ref (ad 3))) (hf3 : gt fs 3 = some (.ref (ad 4))) : Ct D l mi_X7_isApart [.ref (ad 0), .int (nI s), .int (nI o)] ad [ob 7 fs, ia D 3 nd, ia D 3 sl, ia D 3 sr, la D 3 sd] (fun v c => v = some (.int (bz (apB nd sl sr sd s o))) ∧ c = [ob 7 fs, ia D 3 nd, ia D 3 sl, ia D 3 sr, la D 3 sd]) := by
  refine Ct.of (by decide +kernel) (Nat.le_of_ble_eq_true rfl) (fun X A hX M hr => ?_)
  subst hX
  refine G_aload_n (pc := 0) M dX7_isApart_0 rfl ?_
  refine G_getf (pc := 1) M dX7_isApart_1 fl_X7_7 rfl (by first | rfl | assumption) ?_
  refine G_iload_n (pc := 4) M dX7_isApart_4 rfl ?_
  refine G_iaload (pc := 5) M dX7_isApart_5 rfl (by first | assumption | exact vp_in_nI (by omega) (by omega)) ?_
  rw [cl_nI (by omega)]
  refine G_aload_n (pc := 6) M dX7_isApart_6 rfl ?_
  refine G_getf (pc := 7) M dX7_isApart_7 fl_X7_7 rfl (by first | rfl | assumption) ?_
  refine G_iload_n (pc := 10) M dX7_isApart_10 rfl ?_
  refine G_iaload (pc := 11) M dX7_isApart_11 rfl (by first | assumption | exact vp_in_nI (by omega) (by omega)) ?_
  rw [cl_nI (by omega)]
  refine G_icmp_ne (pc := 12) M 61 dX7_isApart_12 (by decide) (fun h12 => ?_) (fun h12 => ?_)
  · refine G_iconst (pc := 61) (v := 1) M dX7_isApart_61 (by decide +kernel) ?_
    refine G_goto (pc := 62) M 66 dX7_isApart_62 (by decide) ?_
    exact G_zret M hr dX7_isApart_66 rfl rfl ⟨by simp_all [apB, bz], rfl⟩
  · refine G_aload_n (pc := 15) M dX7_isApart_15 rfl ?_
    refine G_getf (pc := 16) M dX7_isApart_16 fl_X7_13 rfl (by first | rfl | assumption) ?_
    refine G_iload_n (pc := 19) M dX7_isApart_19 rfl ?_
    refine G_iaload (pc := 20) M dX7_isApart_20 rfl (by first | assumption | exact vp_in_nI (by omega) (by omega)) ?_
    rw [cl_nI (by omega)]
    refine G_aload_n (pc := 21) M dX7_isApart_21 rfl ?_
    refine G_getf (pc := 22) M dX7_isApart_22 fl_X7_13 rfl (by first | rfl | assumption) ?_
    refine G_iload_n (pc := 25) M dX7_isApart_25 rfl ?_
    refine G_iaload (pc := 26) M dX7_isApart_26 rfl (by first | assumption | exact vp_in_nI (by omega) (by omega)) ?_
    rw [cl_nI (by omega)]
    refine G_icmp_ne (pc := 27) M 61 dX7_isApart_27 (by decide) (fun h27 => ?_) (fun h27 => ?_)
    · refine G_iconst (pc := 61) (v := 1) M dX7_isApart_61 (by decide +kernel) ?_
      refine G_goto (pc := 62) M 66 dX7_isApart_62 (by decide) ?_
      exact G_zret M hr dX7_isApart_66 rfl rfl ⟨by simp_all [apB, bz], rfl⟩
    · refine G_aload_n (pc := 30) M dX7_isApart_30 rfl ?_
      refine G_getf (pc := 31) M dX7_isApart_31 fl_X7_16 rfl (by first | rfl | assumption) ?_
      refine G_iload_n (pc := 34) M dX7_isApart_34 rfl ?_
      refine G_iaload (pc := 35) M dX7_isApart_35 rfl (by first | assumption | exact vp_in_nI (by omega) (by omega)) ?_
      rw [cl_nI (by omega)]
      refine G_aload_n (pc := 36) M dX7_isApart_36 rfl ?_
      refine G_getf (pc := 37) M dX7_isApart_37 fl_X7_16 rfl (by first | rfl | assumption) ?_
      refine G_iload_n (pc := 40) M dX7_isApart_40 rfl ?_
      refine G_iaload (pc := 41) M dX7_isApart_41 rfl (by first | assumption | exact vp_in_nI (by omega) (by omega)) ?_
      rw [cl_nI (by omega)]
      refine G_icmp_ne (pc := 42) M 61 dX7_isApart_42 (by decide) (fun h42 => ?_) (fun h42 => ?_)
      · refine G_iconst (pc := 61) (v := 1) M dX7_isApart_61 (by decide +kernel) ?_
        refine G_goto (pc := 62) M 66 dX7_isApart_62 (by decide) ?_
        exact G_zret M hr dX7_isApart_66 rfl rfl ⟨by simp_all [apB, bz], rfl⟩
      · refine G_aload_n (pc := 45) M dX7_isApart_45 rfl ?_
        refine G_getf (pc := 46) M dX7_isApart_46 fl_X7_19 rfl (by first | rfl | assumption) ?_
        refine G_iload_n (pc := 49) M dX7_isApart_49 rfl ?_
        refine G_laload (pc := 50) M dX7_isApart_50 rfl (by first | assumption | exact vp_in_nI (by omega) (by omega)) ?_
        rw [cl_nI (by omega)]
        refine G_aload_n (pc := 51) M dX7_isApart_51 rfl ?_
        refine G_getf (pc := 52) M dX7_isApart_52 fl_X7_19 rfl (by first | rfl | assumption) ?_
        refine G_iload_n (pc := 55) M dX7_isApart_55 rfl ?_
        refine G_laload (pc := 56) M dX7_isApart_56 rfl (by first | assumption | exact vp_in_nI (by omega) (by omega)) ?_
        rw [cl_nI (by omega)]
        refine G_lcmp (pc := 57) M dX7_isApart_57 ?_
        refine G_if_eq (pc := 58) M 65 dX7_isApart_58 (by decide) (fun h58 => ?_) (fun h58 => ?_)
        · rw [lg_cmp_eq] at h58
          refine G_iconst (pc := 65) (v := 0) M dX7_isApart_65 (by decide +kernel) ?_
          exact G_zret M hr dX7_isApart_66 rfl rfl ⟨by simp_all [apB, bz], rfl⟩
        · rw [lg_cmp_eq] at h58
          refine G_iconst (pc := 61) (v := 1) M dX7_isApart_61 (by decide +kernel) ?_
          refine G_goto (pc := 62) M 66 dX7_isApart_62 (by decide) ?_
          exact G_zret M hr dX7_isApart_66 rfl rfl ⟨by simp_all [apB, bz], rfl⟩
