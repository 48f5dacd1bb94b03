/-! the reference: ofSet, leads -/
def osum (S : Nat → Int64) (set : Int64) (o : Nat) : Nat → Int64
  | 0 => 0
  | k + 1 => osum S set o k + (bif bt set k then S (30 * k + o) else 0)
theorem ixD (s k lv w : Nat) : (1920 : Int32) * nI s + 30 * nI k + 3 * nI lv + nI w = nI (1920 * s + (30 * k + (3 * lv + w))) := by
  rw [ixB, nI_add]
  congr 1
  omega
theorem ofs_loop {D : DD} {X : MX} {A : Nat → Prop} (M : CX D X A mi_X7_ofSet.1.cls mi_X7_ofSet.2.1 mi_X7_ofSet.2.2.1 (miR mi_X7_ofSet)) (hr : RT X mi_X7_ofSet.2.2.2.1) {ad : Nat → Nat} {fs : List Value} {nd : Nat → Int32} {sm : Nat → Int64} {s nn lv w : Nat} {set : Int64} (hs : s < 3) (hnn : nn ≤ 64) (hnd : nd s = nI nn) (hlv : lv < 10) (hw : w < 3) (hf0 : gt fs 0 = some (.ref (ad 1))) (hf10 : gt fs 10 = some (.ref (ad 2))) : ∀ m k : Nat, k ≤ nn → nn - k < m →
    G D X A 0 0 (GQ D X A ad 3 (fun v cs => v = some (.long (osum (fun j => sm (1920 * s + j)) set (3 * lv + w) nn)) ∧ cs = [ob 7 fs, ia D 3 nd, la D 5760 sm])) ad 6 [some (.ref (ad 0)), some (.int (nI s)), some (.long set), none, some (.int (nI lv)), some (.int (nI w)), some (.long (osum (fun j => sm (1920 * s + j)) set (3 * lv + w) k)), none, some (.int (nI k))] [] [ob 7 fs, ia D 3 nd, la D 5760 sm] := by
  intro m
  induction m with
  | zero => intro k _ h; omega
  | succ m ih =>
    intro k hk hm
    refine G_iload (pc := 6) M dX7_ofSet_6 rfl ?_
    refine G_aload_n (pc := 8) M dX7_ofSet_8 rfl ?_
    refine G_getf (pc := 9) M dX7_ofSet_9 fl_X7_7 rfl (by first | rfl | assumption) ?_
    refine G_iload_n (pc := 12) M dX7_ofSet_12 rfl ?_
    refine G_iaload (pc := 13) M dX7_ofSet_13 rfl (by first | assumption | exact vp_in_nI (by omega) (by omega)) ?_
    rw [cl_nI (by omega), hnd]
    refine G_icmp_ge (pc := 14) M 67 dX7_ofSet_14 (by decide) (fun h14 => ?_) (fun h14 => ?_)
    · have e : k = nn := by
        have := (nI_leI (a := nn) (b := k) (by omega) (by omega)).mp h14
        omega
      subst e
      refine G_lload (pc := 67) M dX7_ofSet_67 rfl ?_
      exact G_lret M hr dX7_ofSet_69 rfl ⟨rfl, rfl⟩
    · have hkn : k < nn := Nat.lt_of_not_le (fun q => h14 (nI_le q (by omega)))
      refine G_lload (pc := 17) M dX7_ofSet_17 rfl ?_
      refine G_lload_n (pc := 19) M dX7_ofSet_19 rfl ?_
      refine G_iload (pc := 20) M dX7_ofSet_20 rfl ?_
      refine G_lshr (pc := 22) M dX7_ofSet_22 ?_
      refine G_lconst (pc := 23) (v := 1) M dX7_ofSet_23 (by decide +kernel) ?_
      refine G_land (pc := 24) M dX7_ofSet_24 ?_
      rw [sb_bt set (by omega)]
      refine G_lconst (pc := 25) (v := 1) M dX7_ofSet_25 (by decide +kernel) ?_
      refine G_lcmp (pc := 26) M dX7_ofSet_26 ?_
      refine G_if_ne (pc := 27) M 57 dX7_ofSet_27 (by decide) (fun h27 => ?_) (fun h27 => ?_)
      · rw [lg_cmp_eq, bif1] at h27
        have e : osum (fun j => sm (1920 * s + j)) set (3 * lv + w) (k + 1) = osum (fun j => sm (1920 * s + j)) set (3 * lv + w) k + 0 := by simp [osum, h27]
        refine G_lconst (pc := 57) (v := 0) M dX7_ofSet_57 (by decide +kernel) ?_
        refine G_ladd (pc := 58) M dX7_ofSet_58 ?_
        refine G_lstore (pc := 59) M dX7_ofSet_59 (Nat.le_of_ble_eq_true rfl) ?_
        refine G_iinc (pc := 61) (v := 1) M dX7_ofSet_61 rfl (by decide +kernel) (Nat.le_of_ble_eq_true rfl) ?_
        refine G_goto (pc := 64) M 6 dX7_ofSet_64 (by decide) ?_
        have := ih (k + 1) (by omega) (by omega)
        rw [e, ← nI_1 k] at this
        exact this
      · rw [lg_cmp_eq, bif1] at h27
        have e : osum (fun j => sm (1920 * s + j)) set (3 * lv + w) (k + 1) = osum (fun j => sm (1920 * s + j)) set (3 * lv + w) k + sm (1920 * s + (30 * k + (3 * lv + w))) := by simp [osum, h27]
        refine G_aload_n (pc := 30) M dX7_ofSet_30 rfl ?_
        refine G_getf (pc := 31) M dX7_ofSet_31 fl_X7_41 rfl (by first | rfl | assumption) ?_
        refine G_sipush (pc := 34) (v := 1920) M dX7_ofSet_34 (by decide +kernel) ?_
        refine G_iload_n (pc := 37) M dX7_ofSet_37 rfl ?_
        refine G_imul (pc := 38) M dX7_ofSet_38 ?_
        refine G_bipush (pc := 39) (v := 30) M dX7_ofSet_39 (by decide +kernel) ?_
        refine G_iload (pc := 41) M dX7_ofSet_41 rfl ?_
        refine G_imul (pc := 43) M dX7_ofSet_43 ?_
        refine G_iadd (pc := 44) M dX7_ofSet_44 ?_
        refine G_iconst (pc := 45) (v := 3) M dX7_ofSet_45 (by decide +kernel) ?_
        refine G_iload (pc := 46) M dX7_ofSet_46 rfl ?_
        refine G_imul (pc := 48) M dX7_ofSet_48 ?_
        refine G_iadd (pc := 49) M dX7_ofSet_49 ?_
        refine G_iload (pc := 50) M dX7_ofSet_50 rfl ?_
        refine G_iadd (pc := 52) M dX7_ofSet_52 ?_
        rw [ixD]
        refine G_laload (pc := 53) M dX7_ofSet_53 rfl (by first | assumption | exact vp_in_nI (by omega) (by omega)) ?_
        rw [cl_nI (by omega)]
        refine G_goto (pc := 54) M 58 dX7_ofSet_54 (by decide) ?_
        refine G_ladd (pc := 58) M dX7_ofSet_58 ?_
        refine G_lstore (pc := 59) M dX7_ofSet_59 (Nat.le_of_ble_eq_true rfl) ?_
        refine G_iinc (pc := 61) (v := 1) M dX7_ofSet_61 rfl (by decide +kernel) (Nat.le_of_ble_eq_true rfl) ?_
        refine G_goto (pc := 64) M 6 dX7_ofSet_64 (by decide) ?_
        have := ih (k + 1) (by omega) (by omega)
        rw [e, ← nI_1 k] at this
        exact this
theorem c_ofSet (D : DD) (l : Launch) (ad : Nat → Nat) (fs : List Value) (nd : Nat → Int32) (sm : Nat → Int64) (s nn lv w : Nat) (set : Int64) (hs : s < 3) (hnn : nn ≤ 64) (hnd : nd s = nI nn) (hlv : lv < 10) (hw : w < 3) (hf0 : gt fs 0 = some (.ref (ad 1))) (hf10 : gt fs 10 = some (.ref (ad 2))) : Ct D l mi_X7_ofSet [.ref (ad 0), .int (nI s), .long set, .int (nI lv), .int (nI w)] ad [ob 7 fs, ia D 3 nd, la D 5760 sm] (fun v cs => v = some (.long (osum (fun j => sm (1920 * s + j)) set (3 * lv + w) nn)) ∧ cs = [ob 7 fs, ia D 3 nd, la D 5760 sm]) := by
  refine Ct.of (by decide +kernel) (Nat.le_of_ble_eq_true rfl) (fun X A hX M hr => ?_)
  subst hX
  refine G_lconst (pc := 0) (v := 0) M dX7_ofSet_0 (by decide +kernel) ?_
  refine G_lstore (pc := 1) M dX7_ofSet_1 (Nat.le_of_ble_eq_true rfl) ?_
  refine G_iconst (pc := 3) (v := 0) M dX7_ofSet_3 (by decide +kernel) ?_
  refine G_istore (pc := 4) M dX7_ofSet_4 (Nat.le_of_ble_eq_true rfl) ?_
  exact ofs_loop M hr hs hnn hnd hlv hw hf0 hf10 65 0 (by omega) (by omega)
/-- whether the key kk leads out of the set by the sign c -/
def ldB (set : Int64) (nn kk : Nat) (c : Int64) : Bool := decide (kk / 64 < kk % 64) && decide (kk % 64 < nn) && (if c = 1 then bt set (kk / 64) && !bt set (kk % 64) else bt set (kk % 64) && !bt set (kk / 64))
theorem bifz (b : Bool) : (bif b then (1 : Int32) else 0) = bz b := rfl
theorem c_leads (D : DD) (l : Launch) (ad : Nat → Nat) (fs : List Value) (nd : Nat → Int32) (s nn kk : Nat) (set c : Int64) (hs : s < 3) (hnn : nn ≤ 64) (hnd : nd s = nI nn) (hkk : kk < 4096) (hf0 : gt fs 0 = some (.ref (ad 1))) : Ct D l mi_X7_leads [.ref (ad 0), .int (nI s), .long set, .int (nI kk), .long c] ad [ob 7 fs, ia D 3 nd] (fun v cs => v = some (.int (bz (ldB set nn kk c))) ∧ cs = [ob 7 fs, ia D 3 nd]) := by
  have e1 : nI kk / 64 = nI (kk / 64) := by rw [n64, pk_div (by omega) (by omega) (by omega)]
  have e2 : nI kk - nI kk / 64 * 64 = nI (kk % 64) := by rw [n64, pk_rem (by omega) (by omega) (by omega)]
  have ha : kk / 64 < 64 := by omega
  have hb : kk % 64 < 64 := by omega
  refine Ct.of (by decide +kernel) (Nat.le_of_ble_eq_true rfl) (fun X A hX M hr => ?_)
  subst hX
  have k3 : ∀ z1 z2 z3 : Option Value, G D X A 0 0 (GQ D X A ad 2 (fun v cs => v = some (.int (bz (ldB set nn kk c))) ∧ cs = [ob 7 fs, ia D 3 nd])) ad 50 [some (.ref (ad 0)), some (.int (nI s)), some (.long set), none, z1, some (.long c), none, some (.int (nI (kk / 64))), some (.int (nI (kk % 64))), some (.int (bz (bt set (kk / 64)))), some (.int (bz (bt set (kk % 64))))] [] [ob 7 fs, ia D 3 nd] := by
    intro z1 z2 z3
    refine G_iload (pc := 50) M dX7_leads_50 rfl ?_
    refine G_iload (pc := 52) M dX7_leads_52 rfl ?_
    refine G_icmp_ge (pc := 54) M 102 dX7_leads_54 (by decide) (fun h54 => ?_) (fun h54 => ?_)
    · have h54b := (nI_leI (a := kk % 64) (b := kk / 64) (by omega) (by omega)).mp h54
      have h54c : decide (kk / 64 < kk % 64) = false := decide_eq_false (by omega)
      refine G_iconst (pc := 102) (v := 0) M dX7_leads_102 (by decide +kernel) ?_
      exact G_zret M hr dX7_leads_103 rfl rfl ⟨by simp [ldB, bz, *], rfl⟩
    · have h54b := Nat.lt_of_not_le (fun q => h54 (nI_le (a := kk % 64) (b := kk / 64) q (by omega)))
      have h54c : decide (kk / 64 < kk % 64) = true := decide_eq_true (by omega)
      refine G_iload (pc := 57) M dX7_leads_57 rfl ?_
      refine G_aload_n (pc := 59) M dX7_leads_59 rfl ?_
      refine G_getf (pc := 60) M dX7_leads_60 fl_X7_7 rfl (by first | rfl | assumption) ?_
      refine G_iload_n (pc := 63) M dX7_leads_63 rfl ?_
      refine G_iaload (pc := 64) M dX7_leads_64 rfl (by first | assumption | exact vp_in_nI (by omega) (by omega)) ?_
      rw [cl_nI (by omega), hnd]
      refine G_icmp_ge (pc := 65) M 102 dX7_leads_65 (by decide) (fun h65 => ?_) (fun h65 => ?_)
      · have h65b := (nI_leI (a := nn) (b := kk % 64) (by omega) (by omega)).mp h65
        have h65c : decide (kk % 64 < nn) = false := decide_eq_false (by omega)
        refine G_iconst (pc := 102) (v := 0) M dX7_leads_102 (by decide +kernel) ?_
        exact G_zret M hr dX7_leads_103 rfl rfl ⟨by simp [ldB, bz, *], rfl⟩
      · have h65b := Nat.lt_of_not_le (fun q => h65 (nI_le (a := nn) (b := kk % 64) q (by omega)))
        have h65c : decide (kk % 64 < nn) = true := decide_eq_true (by omega)
        refine G_lload (pc := 68) M dX7_leads_68 rfl ?_
        refine G_lconst (pc := 70) (v := 1) M dX7_leads_70 (by decide +kernel) ?_
        refine G_lcmp (pc := 71) M dX7_leads_71 ?_
        refine G_if_ne (pc := 72) M 88 dX7_leads_72 (by decide) (fun h72 => ?_) (fun h72 => ?_)
        · rw [lg_cmp_eq] at h72
          refine G_iload (pc := 88) M dX7_leads_88 rfl ?_
          refine G_if_eq (pc := 90) M 102 dX7_leads_90 (by decide) (fun h90 => ?_) (fun h90 => ?_)
          · have h90b := bz0 h90
            refine G_iconst (pc := 102) (v := 0) M dX7_leads_102 (by decide +kernel) ?_
            exact G_zret M hr dX7_leads_103 rfl rfl ⟨by simp [ldB, bz, *], rfl⟩
          · have h90b := bz1 h90
            refine G_iload (pc := 93) M dX7_leads_93 rfl ?_
            refine G_if_ne (pc := 95) M 102 dX7_leads_95 (by decide) (fun h95 => ?_) (fun h95 => ?_)
            · have h95b := bz1 h95
              refine G_iconst (pc := 102) (v := 0) M dX7_leads_102 (by decide +kernel) ?_
              exact G_zret M hr dX7_leads_103 rfl rfl ⟨by simp [ldB, bz, *], rfl⟩
            · have h95b := bz0 (by simpa using h95)
              refine G_iconst (pc := 98) (v := 1) M dX7_leads_98 (by decide +kernel) ?_
              refine G_goto (pc := 99) M 103 dX7_leads_99 (by decide) ?_
              exact G_zret M hr dX7_leads_103 rfl rfl ⟨by simp [ldB, bz, *], rfl⟩
        · rw [lg_cmp_eq] at h72
          refine G_iload (pc := 75) M dX7_leads_75 rfl ?_
          refine G_if_eq (pc := 77) M 102 dX7_leads_77 (by decide) (fun h77 => ?_) (fun h77 => ?_)
          · have h77b := bz0 h77
            refine G_iconst (pc := 102) (v := 0) M dX7_leads_102 (by decide +kernel) ?_
            exact G_zret M hr dX7_leads_103 rfl rfl ⟨by simp [ldB, bz, *], rfl⟩
          · have h77b := bz1 h77
            refine G_iload (pc := 80) M dX7_leads_80 rfl ?_
            refine G_if_ne (pc := 82) M 102 dX7_leads_82 (by decide) (fun h82 => ?_) (fun h82 => ?_)
            · have h82b := bz1 h82
              refine G_iconst (pc := 102) (v := 0) M dX7_leads_102 (by decide +kernel) ?_
              exact G_zret M hr dX7_leads_103 rfl rfl ⟨by simp [ldB, bz, *], rfl⟩
            · have h82b := bz0 (by simpa using h82)
              refine G_goto (pc := 85) M 98 dX7_leads_85 (by decide) ?_
              refine G_iconst (pc := 98) (v := 1) M dX7_leads_98 (by decide +kernel) ?_
              refine G_goto (pc := 99) M 103 dX7_leads_99 (by decide) ?_
              exact G_zret M hr dX7_leads_103 rfl rfl ⟨by simp [ldB, bz, *], rfl⟩
  have k2 : ∀ z1 z2 z3 : Option Value, G D X A 0 0 (GQ D X A ad 2 (fun v cs => v = some (.int (bz (ldB set nn kk c))) ∧ cs = [ob 7 fs, ia D 3 nd])) ad 32 [some (.ref (ad 0)), some (.int (nI s)), some (.long set), none, z1, some (.long c), none, some (.int (nI (kk / 64))), some (.int (nI (kk % 64))), some (.int (bz (bt set (kk / 64)))), z2] [] [ob 7 fs, ia D 3 nd] := by
    intro z1 z2 z3
    refine G_lload_n (pc := 32) M dX7_leads_32 rfl ?_
    refine G_iload (pc := 33) M dX7_leads_33 rfl ?_
    refine G_lshr (pc := 35) M dX7_leads_35 ?_
    refine G_lconst (pc := 36) (v := 1) M dX7_leads_36 (by decide +kernel) ?_
    refine G_land (pc := 37) M dX7_leads_37 ?_
    rw [sb_bt set hb]
    refine G_lconst (pc := 38) (v := 1) M dX7_leads_38 (by decide +kernel) ?_
    refine G_lcmp (pc := 39) M dX7_leads_39 ?_
    refine G_if_ne (pc := 40) M 47 dX7_leads_40 (by decide) (fun h40 => ?_) (fun h40 => ?_)
    · rw [lg_cmp_eq, bif1] at h40
      have e : (0 : Int32) = bz (bt set (kk % 64)) := by simp [h40, bz]
      refine G_iconst (pc := 47) (v := 0) M dX7_leads_47 (by decide +kernel) ?_
      refine G_istore (pc := 48) M dX7_leads_48 (Nat.le_of_ble_eq_true rfl) ?_
      rw [e]
      exact k3 _ none none
    · rw [lg_cmp_eq, bif1] at h40
      have e : (1 : Int32) = bz (bt set (kk % 64)) := by simp [h40, bz]
      refine G_iconst (pc := 43) (v := 1) M dX7_leads_43 (by decide +kernel) ?_
      refine G_goto (pc := 44) M 48 dX7_leads_44 (by decide) ?_
      refine G_istore (pc := 48) M dX7_leads_48 (Nat.le_of_ble_eq_true rfl) ?_
      rw [e]
      exact k3 _ none none
  refine G_iload (pc := 0) M dX7_leads_0 rfl ?_
  refine G_bipush (pc := 2) (v := 64) M dX7_leads_2 (by decide +kernel) ?_
  refine G_idiv (pc := 4) M dX7_leads_4 (by decide +kernel) ?_
  rw [e1]
  refine G_istore (pc := 5) M dX7_leads_5 (Nat.le_of_ble_eq_true rfl) ?_
  refine G_iload (pc := 7) M dX7_leads_7 rfl ?_
  refine G_bipush (pc := 9) (v := 64) M dX7_leads_9 (by decide +kernel) ?_
  refine G_irem (pc := 11) M dX7_leads_11 (by decide +kernel) ?_
  rw [e2]
  refine G_istore (pc := 12) M dX7_leads_12 (Nat.le_of_ble_eq_true rfl) ?_
  refine G_lload_n (pc := 14) M dX7_leads_14 rfl ?_
  refine G_iload (pc := 15) M dX7_leads_15 rfl ?_
  refine G_lshr (pc := 17) M dX7_leads_17 ?_
  refine G_lconst (pc := 18) (v := 1) M dX7_leads_18 (by decide +kernel) ?_
  refine G_land (pc := 19) M dX7_leads_19 ?_
  rw [sb_bt set ha]
  refine G_lconst (pc := 20) (v := 1) M dX7_leads_20 (by decide +kernel) ?_
  refine G_lcmp (pc := 21) M dX7_leads_21 ?_
  refine G_if_ne (pc := 22) M 29 dX7_leads_22 (by decide) (fun h22 => ?_) (fun h22 => ?_)
  · rw [lg_cmp_eq, bif1] at h22
    have e : (0 : Int32) = bz (bt set (kk / 64)) := by simp [h22, bz]
    refine G_iconst (pc := 29) (v := 0) M dX7_leads_29 (by decide +kernel) ?_
    refine G_istore (pc := 30) M dX7_leads_30 (Nat.le_of_ble_eq_true rfl) ?_
    rw [e]
    exact k2 _ _ none
  · rw [lg_cmp_eq, bif1] at h22
    have e : (1 : Int32) = bz (bt set (kk / 64)) := by simp [h22, bz]
    refine G_iconst (pc := 25) (v := 1) M dX7_leads_25 (by decide +kernel) ?_
    refine G_goto (pc := 26) M 30 dX7_leads_26 (by decide) ?_
    refine G_istore (pc := 30) M dX7_leads_30 (Nat.le_of_ble_eq_true rfl) ?_
    rw [e]
    exact k2 _ _ none
