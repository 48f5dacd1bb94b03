theorem pt_loop {D : DD} {X : MX} {A : Nat → Prop} (M : CX D X A mi_X0_putTogether.1.cls mi_X0_putTogether.2.1 mi_X0_putTogether.2.2.1 (miR mi_X0_putTogether)) (hr : RT X mi_X0_putTogether.2.2.2.1) {ad : Nat → Nat} {nn kk : Nat} {tk lo lo2 : Int32} {C E tg : Nat → Int32} {gs : List Value} (hnn : nn ≤ 64) (hkk : kk < 64) (hg0 : gt gs 0 = some (.ref (ad 4))) (hg5 : gt gs 5 = some (.int lo2)) : ∀ m k : Nat, k ≤ nn → nn - k < m → anyB C E k = false → ∀ z3 z4 z5 : Option Value,
    G D X A 0 0 (GQ D X A ad 5 (ptQ D ad nn kk tk lo lo2 C gs E)) ad 2 [some (.ref (ad 0)), some (.ref (ad 3)), some (.int (nI k)), z3, z4, z5] [] (ptW D ad nn kk tk lo C (tgK C E tg k) gs E) := by
  intro m
  induction m with
  | zero => intro k _ h; omega
  | succ m ih =>
    intro k hk hm hb z3 z4 z5
    refine G_iload_n (pc := 2) M dX0_putTogether_2 rfl ?_
    refine G_aload_n (pc := 3) M dX0_putTogether_3 rfl ?_
    refine G_getf (pc := 4) M dX0_putTogether_4 fl_X0_18 rfl (by first | rfl | assumption) ?_
    refine G_icmp_ge (pc := 7) M 50 dX0_putTogether_7 (by decide) (fun h7 => ?_) (fun h7 => ?_)
    · have e : k = nn := by
        have := (nI_leI (a := nn) (b := k) (by omega) (by omega)).mp h7
        omega
      subst e
      exact pt_mid M hr hnn hkk hg0 hg5 hb _ _ _ _
    · have hkn : k < nn := Nat.lt_of_not_le (fun q => h7 (nI_le q (by omega)))
      refine G_aload_n (pc := 10) M dX0_putTogether_10 rfl ?_
      refine G_getf (pc := 11) M dX0_putTogether_11 fl_X0_9 rfl (by first | rfl | assumption) ?_
      refine G_iload_n (pc := 14) M dX0_putTogether_14 rfl ?_
      refine G_iaload (pc := 15) M dX0_putTogether_15 rfl (by first | assumption | exact vp_in_nI (by omega) (by omega)) ?_
      rw [cl_nI (by omega)]
      refine G_i2l (pc := 16) M dX0_putTogether_16 ?_
      refine G_aload_n (pc := 17) M dX0_putTogether_17 rfl ?_
      refine G_getf (pc := 18) M dX0_putTogether_18 fl_X0_9 rfl (by first | rfl | assumption) ?_
      refine G_iload_n (pc := 21) M dX0_putTogether_21 rfl ?_
      refine G_iaload (pc := 22) M dX0_putTogether_22 rfl (by first | assumption | exact vp_in_nI (by omega) (by omega)) ?_
      rw [cl_nI (by omega)]
      refine G_i2l (pc := 23) M dX0_putTogether_23 ?_
      refine G_ladd (pc := 24) M dX0_putTogether_24 ?_
      refine G_lstore_n (pc := 25) M dX0_putTogether_25 (Nat.le_of_ble_eq_true rfl) ?_
      refine G_lload_n (pc := 26) M dX0_putTogether_26 rfl ?_
      refine G_ldc2 (pc := 27) M dX0_putTogether_27 cn_X0_41 ?_
      refine G_lcmp (pc := 30) M dX0_putTogether_30 ?_
      refine G_if_le (pc := 31) M 36 dX0_putTogether_31 (by decide) (fun h31 => ?_) (fun h31 => ?_)
      · rw [lg_cmp_le] at h31
        have hb1 : anyB C E (k + 1) = false := by
          simp only [anyB, hb, Bool.false_or]
          exact decide_eq_false (Int64.not_lt.mpr h31)
        refine G_aload_n (pc := 36) M dX0_putTogether_36 rfl ?_
        refine G_getf (pc := 37) M dX0_putTogether_37 fl_X0_15 rfl (by first | rfl | assumption) ?_
        refine G_iload_n (pc := 40) M dX0_putTogether_40 rfl ?_
        refine G_lload_n (pc := 41) M dX0_putTogether_41 rfl ?_
        refine G_l2i (pc := 42) M dX0_putTogether_42 ?_
        rw [add_l2i]
        refine G_iastore (pc := 43) M dX0_putTogether_43 rfl (by first | assumption | exact vp_in_nI (by omega) (by omega)) ?_
        rw [cl_nI (by omega), tgK_step]
        refine G_iinc (pc := 44) (v := 1) M dX0_putTogether_44 rfl (by decide +kernel) (Nat.le_of_ble_eq_true rfl) ?_
        refine G_goto (pc := 47) M 2 dX0_putTogether_47 (by decide) ?_
        have := ih (k + 1) (by omega) (by omega) hb1
        rw [← nI_1 k] at this
        exact this _ _ _
      · rw [lg_cmp_le] at h31
        have hb1 : anyB C E (k + 1) = true := by
          simp only [anyB, hb, Bool.false_or]
          exact decide_eq_true (Int64.not_le.mp h31)
        refine G_iconst (pc := 34) (v := 0) M dX0_putTogether_34 (by decide +kernel) ?_
        exact G_zret M hr dX0_putTogether_35 rfl rfl ⟨tgK C E tg k, Or.inl ⟨by simp [pfull, anyB_mono C E hb1 nn (by omega)], rfl, rfl⟩⟩
theorem c_putTogether (D : DD) (l : Launch) (ad : Nat → Nat) (nn kk : Nat) (tk lo lo2 : Int32) (C E tg : Nat → Int32) (gs : List Value) (hnn : nn ≤ 64) (hkk : kk < 64) (hg0 : gt gs 0 = some (.ref (ad 4))) (hg5 : gt gs 5 = some (.int lo2)) : Ct D l mi_X0_putTogether [.ref (ad 0), .ref (ad 3)] ad (ptW D ad nn kk tk lo C tg gs E) (ptQ D ad nn kk tk lo lo2 C gs E) := by
  refine Ct.of (by decide +kernel) (Nat.le_of_ble_eq_true rfl) (fun X A hX M hr => ?_)
  subst hX
  refine G_iconst (pc := 0) (v := 0) M dX0_putTogether_0 (by decide +kernel) ?_
  refine G_istore_n (pc := 1) M dX0_putTogether_1 (Nat.le_of_ble_eq_true rfl) ?_
  have := pt_loop M hr (ad := ad) (kk := kk) (tk := tk) (lo := lo) (C := C) (E := E) (tg := tg) hnn hkk hg0 hg5 65 0 (by omega) (by omega) rfl none none none
  rw [show tgK C E tg 0 = tg by funext j; simp [tgK]] at this
  exact this
