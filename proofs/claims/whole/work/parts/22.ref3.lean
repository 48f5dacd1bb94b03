/-! the reference: levelOf -/
theorem levelOf_loop {D : DD} {X : MX} {A : Nat → Prop} (M : CX D X A mi_X7_levelOf.1.cls mi_X7_levelOf.2.1 mi_X7_levelOf.2.2.1 (miR mi_X7_levelOf)) (hr : RT X mi_X7_levelOf.2.2.2.1) {ad : Nat → Nat} {cs : List va_E} {n : Nat} (hn : cs.length = n) {z : Int64} {a b c d : Option Value} : ∀ m : Nat, m ≤ 9 →
    G D X A 0 0 (GQ D X A ad n (fun v c => v = some (.int (nI (lvF z m))) ∧ c = cs)) ad 57 [a, b, c, d, some (.long z), none, some (.int (nI (9 - m)))] [] cs := by
  intro m
  induction m with
  | zero =>
    intro _
    refine G_iload (pc := 57) M dX7_levelOf_57 rfl ?_
    refine G_bipush (pc := 59) (v := 9) M dX7_levelOf_59 (by decide +kernel) ?_
    refine G_icmp_ge (pc := 61) M 82 dX7_levelOf_61 (by decide) (fun h61 => ?_) (fun h61 => ?_)
    · refine G_iload (pc := 82) M dX7_levelOf_82 rfl ?_
      exact G_iret M hr dX7_levelOf_84 hn ⟨rfl, rfl⟩
    · exact absurd (nI_le (a := 9) (b := 9 - 0) (by omega) (by omega)) h61
  | succ m ih =>
    intro hm
    refine G_iload (pc := 57) M dX7_levelOf_57 rfl ?_
    refine G_bipush (pc := 59) (v := 9) M dX7_levelOf_59 (by decide +kernel) ?_
    refine G_icmp_ge (pc := 61) M 82 dX7_levelOf_61 (by decide) (fun h61 => ?_) (fun h61 => ?_)
    · exact absurd ((nI_leI (a := 9) (b := 9 - (m + 1)) (by omega) (by omega)).mp h61) (by omega)
    · refine G_lload (pc := 64) M dX7_levelOf_64 rfl ?_
      refine G_iload (pc := 66) M dX7_levelOf_66 rfl ?_
      refine G_lshr (pc := 68) M dX7_levelOf_68 ?_
      refine G_lconst (pc := 69) (v := 1) M dX7_levelOf_69 (by decide +kernel) ?_
      refine G_land (pc := 70) M dX7_levelOf_70 ?_
      rw [sb_bt z (by omega)]
      refine G_lconst (pc := 71) (v := 0) M dX7_levelOf_71 (by decide +kernel) ?_
      refine G_lcmp (pc := 72) M dX7_levelOf_72 ?_
      refine G_if_ne (pc := 73) M 82 dX7_levelOf_73 (by decide) (fun h73 => ?_) (fun h73 => ?_)
      · rw [lg_cmp_eq, bif0] at h73
        have e : bt z (9 - (m + 1)) = true := by simpa using h73
        have el : lvF z (m + 1) = 9 - (m + 1) := by rw [lvF, e]; rfl
        refine G_iload (pc := 82) M dX7_levelOf_82 rfl ?_
        exact G_iret M hr dX7_levelOf_84 hn ⟨by rw [el], rfl⟩
      · rw [lg_cmp_eq, bif0] at h73
        have el : lvF z (m + 1) = lvF z m := by rw [lvF, h73]; rfl
        refine G_iinc (pc := 76) (v := 1) M dX7_levelOf_76 rfl (by decide +kernel) (Nat.le_of_ble_eq_true rfl) ?_
        refine G_goto (pc := 79) M 57 dX7_levelOf_79 (by decide) ?_
        have := ih (by omega)
        rw [show 9 - m = 9 - (m + 1) + 1 by omega, ← nI_1] at this
        rw [el]
        exact this
theorem c_levelOfR (D : DD) (l : Launch) (ad : Nat → Nat) (fs : List Value) (sd : Nat → Int64) (s : Nat) (key : Int64) (hs : s < 3) (hf3 : gt fs 3 = some (.ref (ad 1))) : Ct D l mi_X7_levelOf [.ref (ad 0), .int (nI s), .long key] ad [ob 7 fs, la D 3 sd] (fun v c => v = some (.int (nI (lvK (sd s) key))) ∧ c = [ob 7 fs, la D 3 sd]) := by
  refine Ct.of (by decide +kernel) (Nat.le_of_ble_eq_true rfl) (fun X A hX M hr => ?_)
  subst hX
  refine G_aload_n (pc := 0) M dX7_levelOf_0 rfl ?_
  refine G_getf (pc := 1) M dX7_levelOf_1 fl_X7_19 rfl (by first | rfl | assumption) ?_
  refine G_iload_n (pc := 4) M dX7_levelOf_4 rfl ?_
  refine G_laload (pc := 5) M dX7_levelOf_5 rfl (by first | assumption | exact vp_in_nI (by omega) (by omega)) ?_
  rw [cl_nI (by omega)]
  refine G_lload_n (pc := 6) M dX7_levelOf_6 rfl ?_
  refine G_lconst (pc := 7) (v := 1) M dX7_levelOf_7 (by decide +kernel) ?_
  refine G_ladd (pc := 8) M dX7_levelOf_8 ?_
  refine G_ldc2 (pc := 9) M dX7_levelOf_9 cn_X7_91 ?_
  refine G_lmul (pc := 12) M dX7_levelOf_12 ?_
  refine G_ladd (pc := 13) M dX7_levelOf_13 ?_
  refine G_lstore (pc := 14) M dX7_levelOf_14 (Nat.le_of_ble_eq_true rfl) ?_
  refine G_lload (pc := 16) M dX7_levelOf_16 rfl ?_
  refine G_lload (pc := 18) M dX7_levelOf_18 rfl ?_
  refine G_bipush (pc := 20) (v := 30) M dX7_levelOf_20 (by decide +kernel) ?_
  refine G_lushr (pc := 22) M dX7_levelOf_22 ?_
  refine G_lxor (pc := 23) M dX7_levelOf_23 ?_
  refine G_ldc2 (pc := 24) M dX7_levelOf_24 cn_X7_93 ?_
  refine G_lmul (pc := 27) M dX7_levelOf_27 ?_
  refine G_lstore (pc := 28) M dX7_levelOf_28 (Nat.le_of_ble_eq_true rfl) ?_
  refine G_lload (pc := 30) M dX7_levelOf_30 rfl ?_
  refine G_lload (pc := 32) M dX7_levelOf_32 rfl ?_
  refine G_bipush (pc := 34) (v := 27) M dX7_levelOf_34 (by decide +kernel) ?_
  refine G_lushr (pc := 36) M dX7_levelOf_36 ?_
  refine G_lxor (pc := 37) M dX7_levelOf_37 ?_
  refine G_ldc2 (pc := 38) M dX7_levelOf_38 cn_X7_95 ?_
  refine G_lmul (pc := 41) M dX7_levelOf_41 ?_
  refine G_lstore (pc := 42) M dX7_levelOf_42 (Nat.le_of_ble_eq_true rfl) ?_
  refine G_lload (pc := 44) M dX7_levelOf_44 rfl ?_
  refine G_lload (pc := 46) M dX7_levelOf_46 rfl ?_
  refine G_bipush (pc := 48) (v := 31) M dX7_levelOf_48 (by decide +kernel) ?_
  refine G_lushr (pc := 50) M dX7_levelOf_50 ?_
  refine G_lxor (pc := 51) M dX7_levelOf_51 ?_
  refine G_lstore (pc := 52) M dX7_levelOf_52 (Nat.le_of_ble_eq_true rfl) ?_
  refine G_iconst (pc := 54) (v := 0) M dX7_levelOf_54 (by decide +kernel) ?_
  refine G_istore (pc := 55) M dX7_levelOf_55 (Nat.le_of_ble_eq_true rfl) ?_
  exact levelOf_loop M hr (z := mixZ (sd s) key) rfl 9 (by omega)
