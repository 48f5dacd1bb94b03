/-! Rows -/
abbrev rwO (ad : Nat → Nat) (nn : Nat) (sd : Int64) : va_E := ob 3 [.ref (ad 1), .int (nI nn), .long sd]
abbrev rwW (D : DD) (ad : Nat → Nat) (nn : Nat) (sd : Int64) (S : Nat → Int64) : List va_E := [rwO ad nn sd, la D 1920 S]
theorem c_rRestart (D : DD) (l : Launch) (ad : Nat → Nat) (n0 nn : Nat) (s0 sd : Int64) (S : Nat → Int64) : Ct D l mi_X3_restart [.ref (ad 0), .int (nI nn), .long sd] ad (rwW D ad n0 s0 S) (fun v c => v = none ∧ c = rwW D ad nn sd (fun _ => 0)) := by
  refine Ct.of (by decide +kernel) (Nat.le_of_ble_eq_true rfl) (fun X A hX M hr => ?_)
  subst hX
  refine G_aload_n (pc := 0) M dX3_restart_0 rfl ?_
  refine G_iload_n (pc := 1) M dX3_restart_1 rfl ?_
  refine G_putfi (pc := 2) M dX3_restart_2 fl_X3_15 rfl (Nat.le_of_ble_eq_true rfl) ?_
  refine G_aload_n (pc := 5) M dX3_restart_5 rfl ?_
  refine G_lload_n (pc := 6) M dX3_restart_6 rfl ?_
  refine G_putfl (pc := 7) M dX3_restart_7 fl_X3_19 rfl (Nat.le_of_ble_eq_true rfl) ?_
  refine G_aload_n (pc := 10) M dX3_restart_10 rfl ?_
  refine G_getf (pc := 11) M dX3_restart_11 fl_X3_9 rfl (by first | rfl | assumption) ?_
  refine G_lconst (pc := 14) (v := 0) M dX3_restart_14 (by decide +kernel) ?_
  refine G_calls (pc := 15) M [1] dX3_restart_15 ms_X3_23 (c_filll D _ (fun j => ad (pn [1] j)) 1920 S 0 (by omega)) ⟨rfl, trivial⟩ rfl rfl rfl rfl (Nat.le_of_ble_eq_true rfl) (Nat.le_of_ble_eq_true rfl) (Nat.le_of_ble_eq_true rfl) ⟨Nat.zero_le _, Nat.zero_le _⟩ (fun v c1 hq hlen => ?_)
  obtain ⟨rfl, rfl⟩ := hq
  exact G_vret M hr dX3_restart_18 rfl ⟨rfl, rfl⟩
theorem lvC_loop {D : DD} {X : MX} {A : Nat → Prop} (M : CX D X A mi_X3_levelOf.1.cls mi_X3_levelOf.2.1 mi_X3_levelOf.2.2.1 (miR mi_X3_levelOf)) (hr : RT X mi_X3_levelOf.2.2.2.1) {ad : Nat → Nat} {cs : List va_E} {n : Nat} (hn : cs.length = n) {z : Int64} {a b c : Option Value} : ∀ m : Nat, m ≤ 9 →
    G D X A 0 0 (GQ D X A ad n (fun v c => v = some (.int (nI (lvF z m))) ∧ c = cs)) ad 45 [a, b, c, some (.long z), none, some (.int (nI (9 - m)))] [] cs := by
  intro m
  induction m with
  | zero =>
    intro _
    refine G_iload (pc := 45) M dX3_levelOf_45 rfl ?_
    refine G_bipush (pc := 47) (v := 9) M dX3_levelOf_47 (by decide +kernel) ?_
    refine G_icmp_ge (pc := 49) M 67 dX3_levelOf_49 (by decide) (fun h49 => ?_) (fun h49 => ?_)
    · refine G_iload (pc := 67) M dX3_levelOf_67 rfl ?_
      exact G_iret M hr dX3_levelOf_69 hn ⟨rfl, rfl⟩
    · exact absurd (nI_le (a := 9) (b := 9 - 0) (by omega) (by omega)) h49
  | succ m ih =>
    intro hm
    refine G_iload (pc := 45) M dX3_levelOf_45 rfl ?_
    refine G_bipush (pc := 47) (v := 9) M dX3_levelOf_47 (by decide +kernel) ?_
    refine G_icmp_ge (pc := 49) M 67 dX3_levelOf_49 (by decide) (fun h49 => ?_) (fun h49 => ?_)
    · exact absurd ((nI_leI (a := 9) (b := 9 - (m + 1)) (by omega) (by omega)).mp h49) (by omega)
    · refine G_lload_n (pc := 52) M dX3_levelOf_52 rfl ?_
      refine G_iload (pc := 53) M dX3_levelOf_53 rfl ?_
      refine G_calln (pc := 55) M [] dX3_levelOf_55 mn_X3_57 (c_holds D _ (fun j => ad (pn [] j)) z (nI (9 - (m + 1)))) trivial rfl rfl rfl rfl (Nat.le_of_ble_eq_true rfl) (Nat.le_of_ble_eq_true rfl) (Nat.le_of_ble_eq_true rfl) ⟨Nat.zero_le _, Nat.zero_le _⟩ (fun v c1 hq hlen => ?_)
      obtain ⟨rfl, rfl⟩ := hq
      rw [hb_bt z (by omega)]
      refine G_if_ne (pc := 58) M 67 dX3_levelOf_58 (by decide) (fun h58 => ?_) (fun h58 => ?_)
      · have el : lvF z (m + 1) = 9 - (m + 1) := by rw [lvF, bz1 h58]; rfl
        refine G_iload (pc := 67) M dX3_levelOf_67 rfl ?_
        exact G_iret M hr dX3_levelOf_69 hn ⟨by rw [el], rfl⟩
      · have el : lvF z (m + 1) = lvF z m := by rw [lvF, bz0 (b := bt z (9 - (m + 1))) (by simpa using h58)]; rfl
        refine G_iinc (pc := 61) (v := 1) M dX3_levelOf_61 rfl (by decide +kernel) (Nat.le_of_ble_eq_true rfl) ?_
        refine G_goto (pc := 64) M 45 dX3_levelOf_64 (by decide) ?_
        have := ih (by omega)
        rw [show 9 - m = 9 - (m + 1) + 1 by omega, ← nI_1] at this
        rw [el]
        exact this
theorem c_levelOfC (D : DD) (l : Launch) (ad : Nat → Nat) (fs : List Value) (sd key : Int64) (hf2 : gt fs 2 = some (.long sd)) : Ct D l mi_X3_levelOf [.ref (ad 0), .long key] ad [ob 3 fs] (fun v c => v = some (.int (nI (lvK sd key))) ∧ c = [ob 3 fs]) := by
  refine Ct.of (by decide +kernel) (Nat.le_of_ble_eq_true rfl) (fun X A hX M hr => ?_)
  subst hX
  refine G_aload_n (pc := 0) M dX3_levelOf_0 rfl ?_
  refine G_getf (pc := 1) M dX3_levelOf_1 fl_X3_19 rfl (by first | rfl | assumption) ?_
  refine G_lload_n (pc := 4) M dX3_levelOf_4 rfl ?_
  refine G_lconst (pc := 5) (v := 1) M dX3_levelOf_5 (by decide +kernel) ?_
  refine G_ladd (pc := 6) M dX3_levelOf_6 ?_
  refine G_ldc2 (pc := 7) M dX3_levelOf_7 cn_X3_61 ?_
  refine G_lmul (pc := 10) M dX3_levelOf_10 ?_
  refine G_ladd (pc := 11) M dX3_levelOf_11 ?_
  refine G_lstore_n (pc := 12) M dX3_levelOf_12 (Nat.le_of_ble_eq_true rfl) ?_
  refine G_lload_n (pc := 13) M dX3_levelOf_13 rfl ?_
  refine G_lload_n (pc := 14) M dX3_levelOf_14 rfl ?_
  refine G_bipush (pc := 15) (v := 30) M dX3_levelOf_15 (by decide +kernel) ?_
  refine G_lushr (pc := 17) M dX3_levelOf_17 ?_
  refine G_lxor (pc := 18) M dX3_levelOf_18 ?_
  refine G_ldc2 (pc := 19) M dX3_levelOf_19 cn_X3_63 ?_
  refine G_lmul (pc := 22) M dX3_levelOf_22 ?_
  refine G_lstore_n (pc := 23) M dX3_levelOf_23 (Nat.le_of_ble_eq_true rfl) ?_
  refine G_lload_n (pc := 24) M dX3_levelOf_24 rfl ?_
  refine G_lload_n (pc := 25) M dX3_levelOf_25 rfl ?_
  refine G_bipush (pc := 26) (v := 27) M dX3_levelOf_26 (by decide +kernel) ?_
  refine G_lushr (pc := 28) M dX3_levelOf_28 ?_
  refine G_lxor (pc := 29) M dX3_levelOf_29 ?_
  refine G_ldc2 (pc := 30) M dX3_levelOf_30 cn_X3_65 ?_
  refine G_lmul (pc := 33) M dX3_levelOf_33 ?_
  refine G_lstore_n (pc := 34) M dX3_levelOf_34 (Nat.le_of_ble_eq_true rfl) ?_
  refine G_lload_n (pc := 35) M dX3_levelOf_35 rfl ?_
  refine G_lload_n (pc := 36) M dX3_levelOf_36 rfl ?_
  refine G_bipush (pc := 37) (v := 31) M dX3_levelOf_37 (by decide +kernel) ?_
  refine G_lushr (pc := 39) M dX3_levelOf_39 ?_
  refine G_lxor (pc := 40) M dX3_levelOf_40 ?_
  refine G_lstore_n (pc := 41) M dX3_levelOf_41 (Nat.le_of_ble_eq_true rfl) ?_
  refine G_iconst (pc := 42) (v := 0) M dX3_levelOf_42 (by decide +kernel) ?_
  refine G_istore (pc := 43) M dX3_levelOf_43 (Nat.le_of_ble_eq_true rfl) ?_
  exact lvC_loop M hr (z := mixZ sd key) rfl 9 (by omega)
theorem c_addTo (D : DD) (l : Launch) (ad : Nat → Nat) (fs : List Value) (S : Nat → Int64) (p : Nat) (key : Int64) (t : Int32) (hp : p + 2 < 1920) (hf0 : gt fs 0 = some (.ref (ad 1))) : Ct D l mi_X3_addTo [.ref (ad 0), .int (nI p), .long key, .int t] ad [ob 3 fs, la D 1920 S] (fun v c => v = none ∧ c = [ob 3 fs, la D 1920 (rowAdd S p key t.toInt64)]) := by
  refine Ct.of (by decide +kernel) (Nat.le_of_ble_eq_true rfl) (fun X A hX M hr => ?_)
  subst hX
  refine G_aload_n (pc := 0) M dX3_addTo_0 rfl ?_
  refine G_getf (pc := 1) M dX3_addTo_1 fl_X3_9 rfl (by first | rfl | assumption) ?_
  refine G_iload_n (pc := 4) M dX3_addTo_4 rfl ?_
  first | refine G_dup2 (pc := 5) M dX3_addTo_5 rfl rfl ?_ | refine G_dup2L (pc := 5) M dX3_addTo_5 rfl ?_
  refine G_laload (pc := 6) M dX3_addTo_6 rfl (by first | assumption | exact vp_in_nI (by omega) (by omega)) ?_
  rw [cl_nI (by omega)]
  refine G_iload (pc := 7) M dX3_addTo_7 rfl ?_
  refine G_i2l (pc := 9) M dX3_addTo_9 ?_
  refine G_ladd (pc := 10) M dX3_addTo_10 ?_
  refine G_lastore (pc := 11) M dX3_addTo_11 rfl (by first | assumption | exact vp_in_nI (by omega) (by omega)) ?_
  rw [cl_nI (by omega)]
  refine G_aload_n (pc := 12) M dX3_addTo_12 rfl ?_
  refine G_getf (pc := 13) M dX3_addTo_13 fl_X3_9 rfl (by first | rfl | assumption) ?_
  refine G_iload_n (pc := 16) M dX3_addTo_16 rfl ?_
  refine G_iconst (pc := 17) (v := 1) M dX3_addTo_17 (by decide +kernel) ?_
  refine G_iadd (pc := 18) M dX3_addTo_18 ?_
  rw [nI_1]
  first | refine G_dup2 (pc := 19) M dX3_addTo_19 rfl rfl ?_ | refine G_dup2L (pc := 19) M dX3_addTo_19 rfl ?_
  refine G_laload (pc := 20) M dX3_addTo_20 rfl (by first | assumption | exact vp_in_nI (by omega) (by omega)) ?_
  rw [cl_nI (by omega)]
  refine G_iload (pc := 21) M dX3_addTo_21 rfl ?_
  refine G_i2l (pc := 23) M dX3_addTo_23 ?_
  refine G_lload_n (pc := 24) M dX3_addTo_24 rfl ?_
  refine G_lmul (pc := 25) M dX3_addTo_25 ?_
  refine G_ladd (pc := 26) M dX3_addTo_26 ?_
  refine G_lastore (pc := 27) M dX3_addTo_27 rfl (by first | assumption | exact vp_in_nI (by omega) (by omega)) ?_
  rw [cl_nI (by omega)]
  refine G_aload_n (pc := 28) M dX3_addTo_28 rfl ?_
  refine G_getf (pc := 29) M dX3_addTo_29 fl_X3_9 rfl (by first | rfl | assumption) ?_
  refine G_iload_n (pc := 32) M dX3_addTo_32 rfl ?_
  refine G_iconst (pc := 33) (v := 2) M dX3_addTo_33 (by decide +kernel) ?_
  refine G_iadd (pc := 34) M dX3_addTo_34 ?_
  rw [nI_2]
  first | refine G_dup2 (pc := 35) M dX3_addTo_35 rfl rfl ?_ | refine G_dup2L (pc := 35) M dX3_addTo_35 rfl ?_
  refine G_laload (pc := 36) M dX3_addTo_36 rfl (by first | assumption | exact vp_in_nI (by omega) (by omega)) ?_
  rw [cl_nI (by omega)]
  refine G_iload (pc := 37) M dX3_addTo_37 rfl ?_
  refine G_i2l (pc := 39) M dX3_addTo_39 ?_
  refine G_lload_n (pc := 40) M dX3_addTo_40 rfl ?_
  refine G_lmul (pc := 41) M dX3_addTo_41 ?_
  refine G_lload_n (pc := 42) M dX3_addTo_42 rfl ?_
  refine G_lmul (pc := 43) M dX3_addTo_43 ?_
  refine G_ladd (pc := 44) M dX3_addTo_44 ?_
  refine G_lastore (pc := 45) M dX3_addTo_45 rfl (by first | assumption | exact vp_in_nI (by omega) (by omega)) ?_
  rw [cl_nI (by omega)]
  exact G_vret M hr dX3_addTo_46 rfl ⟨rfl, rfl⟩
theorem arcKey_nI {x y : Nat} (hx : x < 64) (hy : y < 64) : (nI (64 * x + y)).toInt64 = arcKey x y := by
  rw [arcKey, nI_l (by omega), nI_l (by omega), nI_l (by omega), show (64 : Int64) = lN 64 from rfl, lN_mul, lN_add]
theorem plc (x lv : Nat) : (nI x * 10 + nI lv) * 3 = nI (30 * x + 3 * lv) := by
  rw [show (10 : Int32) = nI 10 from rfl, show (3 : Int32) = nI 3 from rfl, pk_mul, nI_add, pk_mul]
  congr 1
  omega
theorem plc0 (x : Nat) : (nI x * 10 + 0) * 3 = nI (30 * x) := by
  have := plc x 0
  rw [nI_0, Nat.mul_zero, Nat.add_zero] at this
  exact this
theorem chC_loop {D : DD} {X : MX} {A : Nat → Prop} (M : CX D X A mi_X3_change.1.cls mi_X3_change.2.1 mi_X3_change.2.2.1 (miR mi_X3_change)) (hr : RT X mi_X3_change.2.2.2.1) {ad : Nat → Nat} {fs : List Value} {S : Nat → Int64} {x y top : Nat} {key : Int64} {t : Int32} (ht : (-t).toInt64 = -t.toInt64) (hx : x < 64) (hy : y < 64) (htop : top ≤ 9) (hf0 : gt fs 0 = some (.ref (ad 1))) : ∀ m n : Nat, n ≤ top + 1 → top + 1 - n < m →
    G D X A 0 0 (GQ D X A ad 2 (fun v c => v = some (.int (nI top)) ∧ c = [ob 3 fs, la D 1920 (chgR S x y key t.toInt64 (top + 1))])) ad 19 [some (.ref (ad 0)), some (.int (nI x)), some (.int (nI y)), some (.int t), some (.long key), none, some (.int (nI top)), some (.int (nI n))] [] [ob 3 fs, la D 1920 (chgR S x y key t.toInt64 n)] := by
  intro m
  induction m with
  | zero => intro n _ h; omega
  | succ m ih =>
    intro n hn hm
    refine G_iload (pc := 19) M dX3_change_19 rfl ?_
    refine G_iload (pc := 21) M dX3_change_21 rfl ?_
    refine G_icmp_gt (pc := 23) M 59 dX3_change_23 (by decide) (fun h23 => ?_) (fun h23 => ?_)
    · have e : n = top + 1 := by
        have := (nI_ltI (a := top) (b := n) (by omega) (by omega)).mp h23
        omega
      subst e
      refine G_iload (pc := 59) M dX3_change_59 rfl ?_
      exact G_iret M hr dX3_change_61 rfl ⟨rfl, rfl⟩
    · have hlt : n ≤ top := Nat.le_of_not_lt (fun q => h23 (nI_lt q (by omega)))
      refine G_aload_n (pc := 26) M dX3_change_26 rfl ?_
      refine G_iload_n (pc := 27) M dX3_change_27 rfl ?_
      refine G_iload (pc := 28) M dX3_change_28 rfl ?_
      refine G_calls (pc := 30) M [] dX3_change_30 ms_X3_37 (c_placeOf D _ (fun j => ad (pn [] j)) (nI x) (nI n)) trivial rfl rfl rfl rfl (Nat.le_of_ble_eq_true rfl) (Nat.le_of_ble_eq_true rfl) (Nat.le_of_ble_eq_true rfl) ⟨Nat.zero_le _, Nat.zero_le _⟩ (fun v c1 hq hlen => ?_)
      obtain ⟨rfl, rfl⟩ := hq
      rw [plc]
      refine G_lload (pc := 33) M dX3_change_33 rfl ?_
      refine G_iload_n (pc := 35) M dX3_change_35 rfl ?_
      refine G_callv (pc := 36) M [0, 1] dX3_change_36 mv_X3_40 (c_addTo D _ (fun j => ad (pn [0, 1] j)) fs (chgR S x y key t.toInt64 n) (30 * x + 3 * n) key t (by omega) hf0) rfl ⟨rfl, rfl, trivial⟩ rfl rfl rfl rfl (Nat.le_of_ble_eq_true rfl) (Nat.le_of_ble_eq_true rfl) (Nat.le_of_ble_eq_true rfl) ⟨Nat.zero_le _, Nat.zero_le _⟩ (fun v c1 hq hlen => ?_)
      obtain ⟨rfl, rfl⟩ := hq
      refine G_aload_n (pc := 39) M dX3_change_39 rfl ?_
      refine G_iload_n (pc := 40) M dX3_change_40 rfl ?_
      refine G_iload (pc := 41) M dX3_change_41 rfl ?_
      refine G_calls (pc := 43) M [] dX3_change_43 ms_X3_37 (c_placeOf D _ (fun j => ad (pn [] j)) (nI y) (nI n)) trivial rfl rfl rfl rfl (Nat.le_of_ble_eq_true rfl) (Nat.le_of_ble_eq_true rfl) (Nat.le_of_ble_eq_true rfl) ⟨Nat.zero_le _, Nat.zero_le _⟩ (fun v c1 hq hlen => ?_)
      obtain ⟨rfl, rfl⟩ := hq
      rw [plc]
      refine G_lload (pc := 46) M dX3_change_46 rfl ?_
      refine G_iload_n (pc := 48) M dX3_change_48 rfl ?_
      refine G_ineg (pc := 49) M dX3_change_49 ?_
      refine G_callv (pc := 50) M [0, 1] dX3_change_50 mv_X3_40 (c_addTo D _ (fun j => ad (pn [0, 1] j)) fs (rowAdd (chgR S x y key t.toInt64 n) (30 * x + 3 * n) key t.toInt64) (30 * y + 3 * n) key (-t) (by omega) hf0) rfl ⟨rfl, rfl, trivial⟩ rfl rfl rfl rfl (Nat.le_of_ble_eq_true rfl) (Nat.le_of_ble_eq_true rfl) (Nat.le_of_ble_eq_true rfl) ⟨Nat.zero_le _, Nat.zero_le _⟩ (fun v c1 hq hlen => ?_)
      obtain ⟨rfl, rfl⟩ := hq
      rw [ht]
      refine G_iinc (pc := 53) (v := 1) M dX3_change_53 rfl (by decide +kernel) (Nat.le_of_ble_eq_true rfl) ?_
      refine G_goto (pc := 56) M 19 dX3_change_56 (by decide) ?_
      have := ih (n + 1) (by omega) (by omega)
      rw [← nI_1 n] at this
      exact this
theorem c_changeC (D : DD) (l : Launch) (ad : Nat → Nat) (nn : Nat) (sd : Int64) (S : Nat → Int64) (x y : Nat) (t : Int32) (ht : (-t).toInt64 = -t.toInt64) (hx : x < 64) (hy : y < 64) : Ct D l mi_X3_change [.ref (ad 0), .int (nI x), .int (nI y), .int t] ad (rwW D ad nn sd S) (fun v c => v = some (.int (nI (lvK sd (arcKey x y)))) ∧ c = rwW D ad nn sd (chgR S x y (arcKey x y) t.toInt64 (lvK sd (arcKey x y) + 1))) := by
  have hlv := lvF_le (mixZ sd (arcKey x y)) 9
  refine Ct.of (by decide +kernel) (Nat.le_of_ble_eq_true rfl) (fun X A hX M hr => ?_)
  subst hX
  refine G_iload_n (pc := 0) M dX3_change_0 rfl ?_
  refine G_iload_n (pc := 1) M dX3_change_1 rfl ?_
  refine G_calln (pc := 2) M [] dX3_change_2 mn_X3_29 (c_keyOf D _ (fun j => ad (pn [] j)) (nI x) (nI y)) trivial rfl rfl rfl rfl (Nat.le_of_ble_eq_true rfl) (Nat.le_of_ble_eq_true rfl) (Nat.le_of_ble_eq_true rfl) ⟨Nat.zero_le _, Nat.zero_le _⟩ (fun v c1 hq hlen => ?_)
  obtain ⟨rfl, rfl⟩ := hq
  rw [ixA]
  refine G_i2l (pc := 5) M dX3_change_5 ?_
  rw [arcKey_nI hx hy]
  refine G_lstore (pc := 6) M dX3_change_6 (Nat.le_of_ble_eq_true rfl) ?_
  refine G_aload_n (pc := 8) M dX3_change_8 rfl ?_
  refine G_lload (pc := 9) M dX3_change_9 rfl ?_
  refine G_callv (pc := 11) M [0] dX3_change_11 mv_X3_33 (c_levelOfC D _ (fun j => ad (pn [0] j)) _ sd (arcKey x y) rfl) rfl ⟨rfl, trivial⟩ rfl rfl rfl rfl (Nat.le_of_ble_eq_true rfl) (Nat.le_of_ble_eq_true rfl) (Nat.le_of_ble_eq_true rfl) ⟨Nat.zero_le _, Nat.zero_le _⟩ (fun v c1 hq hlen => ?_)
  obtain ⟨rfl, rfl⟩ := hq
  refine G_istore (pc := 14) M dX3_change_14 (Nat.le_of_ble_eq_true rfl) ?_
  refine G_iconst (pc := 16) (v := 0) M dX3_change_16 (by decide +kernel) ?_
  refine G_istore (pc := 17) M dX3_change_17 (Nat.le_of_ble_eq_true rfl) ?_
  exact chC_loop M hr (S := S) ht hx hy hlv rfl 11 0 (by omega) (by show lvF _ _ + 1 - 0 < 11; omega)
/-- the first k sums of another stream are added -/
def addK (S T : Nat → Int64) (k : Nat) : Nat → Int64 := fun j => if j < k then S j + T j else S j
theorem rp_loop {D : DD} {X : MX} {A : Nat → Prop} (M : CX D X A mi_X3_putTogether.1.cls mi_X3_putTogether.2.1 mi_X3_putTogether.2.2.1 (miR mi_X3_putTogether)) (hr : RT X mi_X3_putTogether.2.2.2.1) {ad : Nat → Nat} {fs gs : List Value} {S T : Nat → Int64} {e : Nat} (he : e ≤ 1920) (hf0 : gt fs 0 = some (.ref (ad 1))) (hg0 : gt gs 0 = some (.ref (ad 3))) : ∀ m k : Nat, k ≤ e → e - k < m →
    G D X A 0 0 (GQ D X A ad 4 (fun v c => v = none ∧ c = [ob 3 fs, la D 1920 (addK S T e), ob 3 gs, la D 1920 T])) ad 11 [some (.ref (ad 0)), some (.ref (ad 2)), some (.int (nI e)), some (.int (nI k))] [] [ob 3 fs, la D 1920 (addK S T k), ob 3 gs, la D 1920 T] := by
  intro m
  induction m with
  | zero => intro k _ h; omega
  | succ m ih =>
    intro k hk hm
    refine G_iload_n (pc := 11) M dX3_putTogether_11 rfl ?_
    refine G_iload_n (pc := 12) M dX3_putTogether_12 rfl ?_
    refine G_icmp_ge (pc := 13) M 37 dX3_putTogether_13 (by decide) (fun h13 => ?_) (fun h13 => ?_)
    · have e1 : k = e := by
        have := (nI_leI (a := e) (b := k) (by omega) (by omega)).mp h13
        omega
      subst e1
      exact G_vret M hr dX3_putTogether_37 rfl ⟨rfl, rfl⟩
    · have hke : k < e := Nat.lt_of_not_le (fun q => h13 (nI_le q (by omega)))
      refine G_aload_n (pc := 16) M dX3_putTogether_16 rfl ?_
      refine G_getf (pc := 17) M dX3_putTogether_17 fl_X3_9 rfl (by first | rfl | assumption) ?_
      refine G_iload_n (pc := 20) M dX3_putTogether_20 rfl ?_
      first | refine G_dup2 (pc := 21) M dX3_putTogether_21 rfl rfl ?_ | refine G_dup2L (pc := 21) M dX3_putTogether_21 rfl ?_
      refine G_laload (pc := 22) M dX3_putTogether_22 rfl (by first | assumption | exact vp_in_nI (by omega) (by omega)) ?_
      rw [cl_nI (by omega), show addK S T k k = S k by simp [addK]]
      refine G_aload_n (pc := 23) M dX3_putTogether_23 rfl ?_
      refine G_getf (pc := 24) M dX3_putTogether_24 fl_X3_9 rfl (by first | rfl | assumption) ?_
      refine G_iload_n (pc := 27) M dX3_putTogether_27 rfl ?_
      refine G_laload (pc := 28) M dX3_putTogether_28 rfl (by first | assumption | exact vp_in_nI (by omega) (by omega)) ?_
      rw [cl_nI (by omega)]
      refine G_ladd (pc := 29) M dX3_putTogether_29 ?_
      refine G_lastore (pc := 30) M dX3_putTogether_30 rfl (by first | assumption | exact vp_in_nI (by omega) (by omega)) ?_
      rw [cl_nI (by omega)]
      refine G_iinc (pc := 31) (v := 1) M dX3_putTogether_31 rfl (by decide +kernel) (Nat.le_of_ble_eq_true rfl) ?_
      refine G_goto (pc := 34) M 11 dX3_putTogether_34 (by decide) ?_
      have := ih (k + 1) (by omega) (by omega)
      have e1 : vp_updL (addK S T k) k (S k + T k) = addK S T (k + 1) := by
        funext j
        simp only [vp_updL, addK]
        by_cases h : j = k
        · subst h; simp
        · rw [if_neg h]
          by_cases h2 : j < k
          · rw [if_pos h2, if_pos (show j < k + 1 by omega)]
          · rw [if_neg h2, if_neg (show ¬ j < k + 1 by omega)]
      rw [← e1, ← nI_1 k] at this
      exact this
theorem c_rPut (D : DD) (l : Launch) (ad : Nat → Nat) (nn : Nat) (sd : Int64) (S T : Nat → Int64) (gs : List Value) (hnn : nn ≤ 64) (hg0 : gt gs 0 = some (.ref (ad 3))) : Ct D l mi_X3_putTogether [.ref (ad 0), .ref (ad 2)] ad [rwO ad nn sd, la D 1920 S, ob 3 gs, la D 1920 T] (fun v c => v = none ∧ c = [rwO ad nn sd, la D 1920 (addK S T (30 * nn)), ob 3 gs, la D 1920 T]) := by
  refine Ct.of (by decide +kernel) (Nat.le_of_ble_eq_true rfl) (fun X A hX M hr => ?_)
  subst hX
  refine G_aload_n (pc := 0) M dX3_putTogether_0 rfl ?_
  refine G_getf (pc := 1) M dX3_putTogether_1 fl_X3_15 rfl (by first | rfl | assumption) ?_
  refine G_iconst (pc := 4) (v := 0) M dX3_putTogether_4 (by decide +kernel) ?_
  refine G_calls (pc := 5) M [] dX3_putTogether_5 ms_X3_37 (c_placeOf D _ (fun j => ad (pn [] j)) (nI nn) 0) trivial rfl rfl rfl rfl (Nat.le_of_ble_eq_true rfl) (Nat.le_of_ble_eq_true rfl) (Nat.le_of_ble_eq_true rfl) ⟨Nat.zero_le _, Nat.zero_le _⟩ (fun v c1 hq hlen => ?_)
  obtain ⟨rfl, rfl⟩ := hq
  rw [plc0]
  refine G_istore_n (pc := 8) M dX3_putTogether_8 (Nat.le_of_ble_eq_true rfl) ?_
  refine G_iconst (pc := 9) (v := 0) M dX3_putTogether_9 (by decide +kernel) ?_
  refine G_istore_n (pc := 10) M dX3_putTogether_10 (Nat.le_of_ble_eq_true rfl) ?_
  have := rp_loop M hr (ad := ad) (S := S) (T := T) (gs := gs) (fs := [.ref (ad 1), .int (nI nn), .long sd]) (e := 30 * nn) (by omega) rfl hg0 1921 0 (by omega) (by omega)
  rw [show addK S T 0 = S by funext j; simp [addK]] at this
  exact this
def alkB (S T : Nat → Int64) : Nat → Bool
  | 0 => true
  | k + 1 => alkB S T k && decide (S k = T k)
theorem alkB_mono (S T : Nat → Int64) {k : Nat} (h : alkB S T k = false) : ∀ n, k ≤ n → alkB S T n = false := by
  intro n hn
  induction n with
  | zero => rw [show k = 0 by omega] at h; exact h
  | succ n ih =>
    by_cases e : k = n + 1
    · rw [← e]; exact h
    · simp [alkB, ih (by omega)]
theorem al_loop {D : DD} {X : MX} {A : Nat → Prop} (M : CX D X A mi_X3_isAlike.1.cls mi_X3_isAlike.2.1 mi_X3_isAlike.2.2.1 (miR mi_X3_isAlike)) (hr : RT X mi_X3_isAlike.2.2.2.1) {ad : Nat → Nat} {fs gs : List Value} {S T : Nat → Int64} {e : Nat} (he : e ≤ 1920) (hf0 : gt fs 0 = some (.ref (ad 1))) (hg0 : gt gs 0 = some (.ref (ad 3))) : ∀ m k : Nat, k ≤ e → e - k < m → alkB S T k = true →
    G D X A 0 0 (GQ D X A ad 4 (fun v c => v = some (.int (bz (alkB S T e))) ∧ c = [ob 3 fs, la D 1920 S, ob 3 gs, la D 1920 T])) ad 11 [some (.ref (ad 0)), some (.ref (ad 2)), some (.int (nI e)), some (.int (nI k))] [] [ob 3 fs, la D 1920 S, ob 3 gs, la D 1920 T] := by
  intro m
  induction m with
  | zero => intro k _ h; omega
  | succ m ih =>
    intro k hk hm ha
    refine G_iload_n (pc := 11) M dX3_isAlike_11 rfl ?_
    refine G_iload_n (pc := 12) M dX3_isAlike_12 rfl ?_
    refine G_icmp_ge (pc := 13) M 40 dX3_isAlike_13 (by decide) (fun h13 => ?_) (fun h13 => ?_)
    · have e1 : k = e := by
        have := (nI_leI (a := e) (b := k) (by omega) (by omega)).mp h13
        omega
      subst e1
      refine G_iconst (pc := 40) (v := 1) M dX3_isAlike_40 (by decide +kernel) ?_
      exact G_zret M hr dX3_isAlike_41 rfl rfl ⟨by rw [ha]; rfl, rfl⟩
    · have hke : k < e := Nat.lt_of_not_le (fun q => h13 (nI_le q (by omega)))
      refine G_aload_n (pc := 16) M dX3_isAlike_16 rfl ?_
      refine G_getf (pc := 17) M dX3_isAlike_17 fl_X3_9 rfl (by first | rfl | assumption) ?_
      refine G_iload_n (pc := 20) M dX3_isAlike_20 rfl ?_
      refine G_laload (pc := 21) M dX3_isAlike_21 rfl (by first | assumption | exact vp_in_nI (by omega) (by omega)) ?_
      rw [cl_nI (by omega)]
      refine G_aload_n (pc := 22) M dX3_isAlike_22 rfl ?_
      refine G_getf (pc := 23) M dX3_isAlike_23 fl_X3_9 rfl (by first | rfl | assumption) ?_
      refine G_iload_n (pc := 26) M dX3_isAlike_26 rfl ?_
      refine G_laload (pc := 27) M dX3_isAlike_27 rfl (by first | assumption | exact vp_in_nI (by omega) (by omega)) ?_
      rw [cl_nI (by omega)]
      refine G_lcmp (pc := 28) M dX3_isAlike_28 ?_
      refine G_if_eq (pc := 29) M 34 dX3_isAlike_29 (by decide) (fun h29 => ?_) (fun h29 => ?_)
      · rw [lg_cmp_eq] at h29
        have ha1 : alkB S T (k + 1) = true := by simp [alkB, ha, h29]
        refine G_iinc (pc := 34) (v := 1) M dX3_isAlike_34 rfl (by decide +kernel) (Nat.le_of_ble_eq_true rfl) ?_
        refine G_goto (pc := 37) M 11 dX3_isAlike_37 (by decide) ?_
        rw [nI_1]
        exact ih (k + 1) (by omega) (by omega) ha1
      · rw [lg_cmp_eq] at h29
        have ha1 : alkB S T (k + 1) = false := by simp [alkB, h29]
        refine G_iconst (pc := 32) (v := 0) M dX3_isAlike_32 (by decide +kernel) ?_
        exact G_zret M hr dX3_isAlike_33 rfl rfl ⟨by rw [alkB_mono S T ha1 e (by omega)]; rfl, rfl⟩
theorem c_isAlike (D : DD) (l : Launch) (ad : Nat → Nat) (nn : Nat) (sd : Int64) (S T : Nat → Int64) (gs : List Value) (hnn : nn ≤ 64) (hg0 : gt gs 0 = some (.ref (ad 3))) : Ct D l mi_X3_isAlike [.ref (ad 0), .ref (ad 2)] ad [rwO ad nn sd, la D 1920 S, ob 3 gs, la D 1920 T] (fun v c => v = some (.int (bz (alkB S T (30 * nn)))) ∧ c = [rwO ad nn sd, la D 1920 S, ob 3 gs, la D 1920 T]) := by
  refine Ct.of (by decide +kernel) (Nat.le_of_ble_eq_true rfl) (fun X A hX M hr => ?_)
  subst hX
  refine G_aload_n (pc := 0) M dX3_isAlike_0 rfl ?_
  refine G_getf (pc := 1) M dX3_isAlike_1 fl_X3_15 rfl (by first | rfl | assumption) ?_
  refine G_iconst (pc := 4) (v := 0) M dX3_isAlike_4 (by decide +kernel) ?_
  refine G_calls (pc := 5) M [] dX3_isAlike_5 ms_X3_37 (c_placeOf D _ (fun j => ad (pn [] j)) (nI nn) 0) trivial rfl rfl rfl rfl (Nat.le_of_ble_eq_true rfl) (Nat.le_of_ble_eq_true rfl) (Nat.le_of_ble_eq_true rfl) ⟨Nat.zero_le _, Nat.zero_le _⟩ (fun v c1 hq hlen => ?_)
  obtain ⟨rfl, rfl⟩ := hq
  rw [plc0]
  refine G_istore_n (pc := 8) M dX3_isAlike_8 (Nat.le_of_ble_eq_true rfl) ?_
  refine G_iconst (pc := 9) (v := 0) M dX3_isAlike_9 (by decide +kernel) ?_
  refine G_istore_n (pc := 10) M dX3_isAlike_10 (Nat.le_of_ble_eq_true rfl) ?_
  exact al_loop M hr (fs := [.ref (ad 1), .int (nI nn), .long sd]) (e := 30 * nn) (by omega) rfl hg0 1921 0 (by omega) (by omega) rfl
theorem so_loop {D : DD} {X : MX} {A : Nat → Prop} (M : CX D X A mi_X3_sumOf.1.cls mi_X3_sumOf.2.1 mi_X3_sumOf.2.2.1 (miR mi_X3_sumOf)) (hr : RT X mi_X3_sumOf.2.2.2.1) {ad : Nat → Nat} {nn lv w : Nat} {sd set : Int64} {S : Nat → Int64} (hnn : nn ≤ 64) (hlv : lv < 10) (hw : w < 3) : ∀ m k : Nat, k ≤ nn → nn - k < m →
    G D X A 0 0 (GQ D X A ad 2 (fun v c => v = some (.long (osum S set (3 * lv + w) nn)) ∧ c = rwW D ad nn sd S)) ad 6 [some (.ref (ad 0)), some (.long set), none, some (.int (nI lv)), some (.int (nI w)), some (.long (osum S set (3 * lv + w) k)), none, some (.int (nI k))] [] (rwW D ad nn sd S) := by
  intro m
  induction m with
  | zero => intro k _ h; omega
  | succ m ih =>
    intro k hk hm
    refine G_iload (pc := 6) M dX3_sumOf_6 rfl ?_
    refine G_aload_n (pc := 8) M dX3_sumOf_8 rfl ?_
    refine G_getf (pc := 9) M dX3_sumOf_9 fl_X3_15 rfl (by first | rfl | assumption) ?_
    refine G_icmp_ge (pc := 12) M 49 dX3_sumOf_12 (by decide) (fun h12 => ?_) (fun h12 => ?_)
    · have e : k = nn := by
        have := (nI_leI (a := nn) (b := k) (by omega) (by omega)).mp h12
        omega
      subst e
      refine G_lload (pc := 49) M dX3_sumOf_49 rfl ?_
      exact G_lret M hr dX3_sumOf_51 rfl ⟨rfl, rfl⟩
    · have hkn : k < nn := Nat.lt_of_not_le (fun q => h12 (nI_le q (by omega)))
      refine G_lload_n (pc := 15) M dX3_sumOf_15 rfl ?_
      refine G_iload (pc := 16) M dX3_sumOf_16 rfl ?_
      refine G_calln (pc := 18) M [] dX3_sumOf_18 mn_X3_57 (c_holds D _ (fun j => ad (pn [] j)) set (nI k)) trivial rfl rfl rfl rfl (Nat.le_of_ble_eq_true rfl) (Nat.le_of_ble_eq_true rfl) (Nat.le_of_ble_eq_true rfl) ⟨Nat.zero_le _, Nat.zero_le _⟩ (fun v c1 hq hlen => ?_)
      obtain ⟨rfl, rfl⟩ := hq
      rw [hb_bt set (by omega)]
      refine G_if_eq (pc := 21) M 43 dX3_sumOf_21 (by decide) (fun h21 => ?_) (fun h21 => ?_)
      · have e : osum S set (3 * lv + w) (k + 1) = osum S set (3 * lv + w) k := by rw [osum, bz0 h21]; simp
        refine G_iinc (pc := 43) (v := 1) M dX3_sumOf_43 rfl (by decide +kernel) (Nat.le_of_ble_eq_true rfl) ?_
        refine G_goto (pc := 46) M 6 dX3_sumOf_46 (by decide) ?_
        have := ih (k + 1) (by omega) (by omega)
        rw [e, ← nI_1 k] at this
        exact this
      · have e : osum S set (3 * lv + w) (k + 1) = osum S set (3 * lv + w) k + S (30 * k + (3 * lv + w)) := by rw [osum, bz1 h21]; rfl
        refine G_lload (pc := 24) M dX3_sumOf_24 rfl ?_
        refine G_aload_n (pc := 26) M dX3_sumOf_26 rfl ?_
        refine G_getf (pc := 27) M dX3_sumOf_27 fl_X3_9 rfl (by first | rfl | assumption) ?_
        refine G_iload (pc := 30) M dX3_sumOf_30 rfl ?_
        refine G_iload_n (pc := 32) M dX3_sumOf_32 rfl ?_
        refine G_calls (pc := 33) M [] dX3_sumOf_33 ms_X3_37 (c_placeOf D _ (fun j => ad (pn [] j)) (nI k) (nI lv)) trivial rfl rfl rfl rfl (Nat.le_of_ble_eq_true rfl) (Nat.le_of_ble_eq_true rfl) (Nat.le_of_ble_eq_true rfl) ⟨Nat.zero_le _, Nat.zero_le _⟩ (fun v c1 hq hlen => ?_)
        obtain ⟨rfl, rfl⟩ := hq
        rw [plc]
        refine G_iload (pc := 36) M dX3_sumOf_36 rfl ?_
        refine G_iadd (pc := 38) M dX3_sumOf_38 ?_
        rw [nI_add, Nat.add_assoc]
        refine G_laload (pc := 39) M dX3_sumOf_39 rfl (by first | assumption | exact vp_in_nI (by omega) (by omega)) ?_
        rw [cl_nI (by omega)]
        refine G_ladd (pc := 40) M dX3_sumOf_40 ?_
        refine G_lstore (pc := 41) M dX3_sumOf_41 (Nat.le_of_ble_eq_true rfl) ?_
        refine G_iinc (pc := 43) (v := 1) M dX3_sumOf_43 rfl (by decide +kernel) (Nat.le_of_ble_eq_true rfl) ?_
        refine G_goto (pc := 46) M 6 dX3_sumOf_46 (by decide) ?_
        have := ih (k + 1) (by omega) (by omega)
        rw [e, ← nI_1 k] at this
        exact this
theorem c_sumOf (D : DD) (l : Launch) (ad : Nat → Nat) (nn lv w : Nat) (sd set : Int64) (S : Nat → Int64) (hnn : nn ≤ 64) (hlv : lv < 10) (hw : w < 3) : Ct D l mi_X3_sumOf [.ref (ad 0), .long set, .int (nI lv), .int (nI w)] ad (rwW D ad nn sd S) (fun v c => v = some (.long (osum S set (3 * lv + w) nn)) ∧ c = rwW D ad nn sd S) := by
  refine Ct.of (by decide +kernel) (Nat.le_of_ble_eq_true rfl) (fun X A hX M hr => ?_)
  subst hX
  refine G_lconst (pc := 0) (v := 0) M dX3_sumOf_0 (by decide +kernel) ?_
  refine G_lstore (pc := 1) M dX3_sumOf_1 (Nat.le_of_ble_eq_true rfl) ?_
  refine G_iconst (pc := 3) (v := 0) M dX3_sumOf_3 (by decide +kernel) ?_
  refine G_istore (pc := 4) M dX3_sumOf_4 (Nat.le_of_ble_eq_true rfl) ?_
  exact so_loop M hr hnn hlv hw 65 0 (by omega) (by omega)
def notB (S : Nat → Int64) (set : Int64) (nn : Nat) : Bool := decide (osum S set 0 nn = 0) && decide (osum S set 1 nn = 0) && decide (osum S set 2 nn = 0)
theorem c_isNothing (D : DD) (l : Launch) (ad : Nat → Nat) (nn : Nat) (sd set : Int64) (S : Nat → Int64) (hnn : nn ≤ 64) : Ct D l mi_X3_isNothing [.ref (ad 0), .long set] ad (rwW D ad nn sd S) (fun v c => v = some (.int (bz (notB S set nn))) ∧ c = rwW D ad nn sd S) := by
  refine Ct.of (by decide +kernel) (Nat.le_of_ble_eq_true rfl) (fun X A hX M hr => ?_)
  subst hX
  refine G_aload_n (pc := 0) M dX3_isNothing_0 rfl ?_
  refine G_lload_n (pc := 1) M dX3_isNothing_1 rfl ?_
  refine G_iconst (pc := 2) (v := 0) M dX3_isNothing_2 (by decide +kernel) ?_
  refine G_iconst (pc := 3) (v := 0) M dX3_isNothing_3 (by decide +kernel) ?_
  refine G_callv (pc := 4) M [0, 1] dX3_isNothing_4 mv_X3_44 (c_sumOf D _ (fun j => ad (pn [0, 1] j)) nn 0 0 sd set S hnn (by omega) (by omega)) rfl ⟨rfl, rfl, trivial⟩ rfl rfl rfl rfl (Nat.le_of_ble_eq_true rfl) (Nat.le_of_ble_eq_true rfl) (Nat.le_of_ble_eq_true rfl) ⟨Nat.zero_le _, Nat.zero_le _⟩ (fun v c1 hq hlen => ?_)
  obtain ⟨rfl, rfl⟩ := hq
  refine G_lconst (pc := 7) (v := 0) M dX3_isNothing_7 (by decide +kernel) ?_
  refine G_lcmp (pc := 8) M dX3_isNothing_8 ?_
  refine G_if_ne (pc := 9) M 40 dX3_isNothing_9 (by decide) (fun h9 => ?_) (fun h9 => ?_)
  · rw [lg_cmp_eq] at h9
    refine G_iconst (pc := 40) (v := 0) M dX3_isNothing_40 (by decide +kernel) ?_
    exact G_zret M hr dX3_isNothing_41 rfl rfl ⟨by simp_all [notB, bz], rfl⟩
  · rw [lg_cmp_eq] at h9
    refine G_aload_n (pc := 12) M dX3_isNothing_12 rfl ?_
    refine G_lload_n (pc := 13) M dX3_isNothing_13 rfl ?_
    refine G_iconst (pc := 14) (v := 0) M dX3_isNothing_14 (by decide +kernel) ?_
    refine G_iconst (pc := 15) (v := 1) M dX3_isNothing_15 (by decide +kernel) ?_
    refine G_callv (pc := 16) M [0, 1] dX3_isNothing_16 mv_X3_44 (c_sumOf D _ (fun j => ad (pn [0, 1] j)) nn 0 1 sd set S hnn (by omega) (by omega)) rfl ⟨rfl, rfl, trivial⟩ rfl rfl rfl rfl (Nat.le_of_ble_eq_true rfl) (Nat.le_of_ble_eq_true rfl) (Nat.le_of_ble_eq_true rfl) ⟨Nat.zero_le _, Nat.zero_le _⟩ (fun v c1 hq hlen => ?_)
    obtain ⟨rfl, rfl⟩ := hq
    refine G_lconst (pc := 19) (v := 0) M dX3_isNothing_19 (by decide +kernel) ?_
    refine G_lcmp (pc := 20) M dX3_isNothing_20 ?_
    refine G_if_ne (pc := 21) M 40 dX3_isNothing_21 (by decide) (fun h21 => ?_) (fun h21 => ?_)
    · rw [lg_cmp_eq] at h21
      refine G_iconst (pc := 40) (v := 0) M dX3_isNothing_40 (by decide +kernel) ?_
      exact G_zret M hr dX3_isNothing_41 rfl rfl ⟨by simp_all [notB, bz], rfl⟩
    · rw [lg_cmp_eq] at h21
      refine G_aload_n (pc := 24) M dX3_isNothing_24 rfl ?_
      refine G_lload_n (pc := 25) M dX3_isNothing_25 rfl ?_
      refine G_iconst (pc := 26) (v := 0) M dX3_isNothing_26 (by decide +kernel) ?_
      refine G_iconst (pc := 27) (v := 2) M dX3_isNothing_27 (by decide +kernel) ?_
      refine G_callv (pc := 28) M [0, 1] dX3_isNothing_28 mv_X3_44 (c_sumOf D _ (fun j => ad (pn [0, 1] j)) nn 0 2 sd set S hnn (by omega) (by omega)) rfl ⟨rfl, rfl, trivial⟩ rfl rfl rfl rfl (Nat.le_of_ble_eq_true rfl) (Nat.le_of_ble_eq_true rfl) (Nat.le_of_ble_eq_true rfl) ⟨Nat.zero_le _, Nat.zero_le _⟩ (fun v c1 hq hlen => ?_)
      obtain ⟨rfl, rfl⟩ := hq
      refine G_lconst (pc := 31) (v := 0) M dX3_isNothing_31 (by decide +kernel) ?_
      refine G_lcmp (pc := 32) M dX3_isNothing_32 ?_
      refine G_if_ne (pc := 33) M 40 dX3_isNothing_33 (by decide) (fun h33 => ?_) (fun h33 => ?_)
      · rw [lg_cmp_eq] at h33
        refine G_iconst (pc := 40) (v := 0) M dX3_isNothing_40 (by decide +kernel) ?_
        exact G_zret M hr dX3_isNothing_41 rfl rfl ⟨by simp_all [notB, bz], rfl⟩
      · rw [lg_cmp_eq] at h33
        refine G_iconst (pc := 36) (v := 1) M dX3_isNothing_36 (by decide +kernel) ?_
        refine G_goto (pc := 37) M 41 dX3_isNothing_37 (by decide) ?_
        exact G_zret M hr dX3_isNothing_41 rfl rfl ⟨by simp_all [notB, bz], rfl⟩
