/-! the constructors of the system and of the reference -/
def sf (ad : Nat → Nat) : Nat → Option Nat := va_up (va_up (va_up (fun _ => none) (0 : Int32).toNatClampNeg (some (ad 2))) (0 + 1 : Int32).toNatClampNeg (some (ad 18))) (0 + 1 + 1 : Int32).toNatClampNeg (some (ad 34))
def n3 (v : Int32) : Nat → Int32 := upd (upd (upd (fun _ => 0) (0 : Int32).toNatClampNeg v) (1 : Int32).toNatClampNeg v) (2 : Int32).toNatClampNeg v
abbrev sc0 (D : DD) (ad : Nat → Nat) : List va_E := [ob 6 [.ref (ad 1), .int (-2)], qa D 3 (sf ad)] ++ st0 D (fun k => ad (k + 2)) ++ st0 D (fun k => ad (k + 18)) ++ st0 D (fun k => ad (k + 34))
theorem i_X6 (D : DD) (l : Launch) : CI D l mi_X6_init 49 10272 (va_AO "StreamCounts$Stream") (ob 6 [.null, .int 0]) (fun ad => sc0 D ad) := by
  refine CI.of (by decide +kernel) (Nat.le_of_ble_eq_true rfl) rfl (fun o X A hl M hr hi hE => ?_)
  subst hl
  refine G_aload_n (pc := 0) M dX6_init_0 rfl ?_
  refine G_oinit (pc := 1) M dX6_init_1 oi_X6 rfl (Nat.le_of_ble_eq_true rfl) (Nat.le_of_ble_eq_true rfl) (Nat.le_of_ble_eq_true rfl) ?_
  refine G_aload_n (pc := 4) M dX6_init_4 rfl ?_
  refine G_iconst (pc := 5) (v := 3) M dX6_init_5 (by decide +kernel) ?_
  refine G_newq (pc := 6) (n := 3) (L := [o]) M dX6_init_6 cl_X6_9 hE (by decide +kernel) (by decide) rfl (Nat.le_of_ble_eq_true rfl) (Nat.le_of_ble_eq_true rfl) (fun q1 => ?_)
  dsimp only [List.cons_append, List.nil_append, List.set, List.append_assoc]
  refine G_putr (pc := 9) M hi 0 dX6_init_9 fl_X6_11 rfl rfl rfl (Nat.le_of_ble_eq_true rfl) rfl ?_
  dsimp only [List.cons_append, List.nil_append, List.set, List.append_assoc]
  refine G_iconst (pc := 12) (v := 0) M dX6_init_12 (by decide +kernel) ?_
  refine G_istore_n (pc := 13) M dX6_init_13 (Nat.le_of_ble_eq_true rfl) ?_
  refine G_iload_n (pc := 14) M dX6_init_14 rfl ?_
  refine G_iconst (pc := 15) (v := 3) M dX6_init_15 (by decide +kernel) ?_
  refine G_icmp_ge (pc := 16) M 38 dX6_init_16 (by decide) (fun h => absurd h (by decide)) (fun _ => ?_)
  refine G_aload_n (pc := 19) M dX6_init_19 rfl ?_
  refine G_getf (pc := 20) (a := 0) M dX6_init_20 fl_X6_11 rfl rfl ?_
  refine G_iload_n (pc := 23) M dX6_init_23 rfl ?_
  refine G_new (pc := 24) (L := [o, q1]) M dX6_init_24 nw_X6_9 rfl (Nat.le_of_ble_eq_true rfl) (Nat.le_of_ble_eq_true rfl) (fun q2 => ?_)
  refine G_dup (pc := 27) M dX6_init_27 rfl ?_
  refine G_initP (pc := 28) (L := [o, q1]) (q := q2) M dX6_init_28 kp_X6_15 (i_X4 D _) (fun _ _ _ h => h) trivial rfl rfl (Nat.le_of_ble_eq_true rfl) (Nat.le_of_ble_eq_true rfl) (Nat.le_of_ble_eq_true rfl) (Nat.le_of_ble_eq_true rfl) (Nat.le_of_ble_eq_true rfl) (fun N hN => ?_)
  have hz2 : N.length = 15 := Nat.succ.inj hN
  clear hN
  obtain ⟨q3, N3, rfl, hz3⟩ := len_s hz2
  obtain ⟨q4, N4, rfl, hz4⟩ := len_s hz3
  obtain ⟨q5, N5, rfl, hz5⟩ := len_s hz4
  obtain ⟨q6, N6, rfl, hz6⟩ := len_s hz5
  obtain ⟨q7, N7, rfl, hz7⟩ := len_s hz6
  obtain ⟨q8, N8, rfl, hz8⟩ := len_s hz7
  obtain ⟨q9, N9, rfl, hz9⟩ := len_s hz8
  obtain ⟨q10, N10, rfl, hz10⟩ := len_s hz9
  obtain ⟨q11, N11, rfl, hz11⟩ := len_s hz10
  obtain ⟨q12, N12, rfl, hz12⟩ := len_s hz11
  obtain ⟨q13, N13, rfl, hz13⟩ := len_s hz12
  obtain ⟨q14, N14, rfl, hz14⟩ := len_s hz13
  obtain ⟨q15, N15, rfl, hz15⟩ := len_s hz14
  obtain ⟨q16, N16, rfl, hz16⟩ := len_s hz15
  obtain ⟨q17, N17, rfl, hz17⟩ := len_s hz16
  obtain rfl := List.eq_nil_of_length_eq_zero hz17
  dsimp only [List.cons_append, List.nil_append, List.set, List.append_assoc]
  refine G_aast (pc := 31) M 1 2 dX6_init_31 rfl rfl rfl rfl (by unfold vp_in; decide +kernel) ?_
  dsimp only [List.cons_append, List.nil_append, List.set, List.append_assoc]
  refine G_iinc (pc := 32) (v := 1) M dX6_init_32 rfl (by decide +kernel) (Nat.le_of_ble_eq_true rfl) ?_
  refine G_goto (pc := 35) M 14 dX6_init_35 (by decide) ?_
  refine G_iload_n (pc := 14) M dX6_init_14 rfl ?_
  refine G_iconst (pc := 15) (v := 3) M dX6_init_15 (by decide +kernel) ?_
  refine G_icmp_ge (pc := 16) M 38 dX6_init_16 (by decide) (fun h => absurd h (by decide)) (fun _ => ?_)
  refine G_aload_n (pc := 19) M dX6_init_19 rfl ?_
  refine G_getf (pc := 20) (a := 0) M dX6_init_20 fl_X6_11 rfl rfl ?_
  refine G_iload_n (pc := 23) M dX6_init_23 rfl ?_
  refine G_new (pc := 24) (L := [o, q1, q2, q3, q4, q5, q6, q7, q8, q9, q10, q11, q12, q13, q14, q15, q16, q17]) M dX6_init_24 nw_X6_9 rfl (Nat.le_of_ble_eq_true rfl) (Nat.le_of_ble_eq_true rfl) (fun q18 => ?_)
  refine G_dup (pc := 27) M dX6_init_27 rfl ?_
  refine G_initP (pc := 28) (L := [o, q1, q2, q3, q4, q5, q6, q7, q8, q9, q10, q11, q12, q13, q14, q15, q16, q17]) (q := q18) M dX6_init_28 kp_X6_15 (i_X4 D _) (fun _ _ _ h => h) trivial rfl rfl (Nat.le_of_ble_eq_true rfl) (Nat.le_of_ble_eq_true rfl) (Nat.le_of_ble_eq_true rfl) (Nat.le_of_ble_eq_true rfl) (Nat.le_of_ble_eq_true rfl) (fun N hN => ?_)
  have hz18 : N.length = 15 := Nat.succ.inj hN
  clear hN
  obtain ⟨q19, N19, rfl, hz19⟩ := len_s hz18
  obtain ⟨q20, N20, rfl, hz20⟩ := len_s hz19
  obtain ⟨q21, N21, rfl, hz21⟩ := len_s hz20
  obtain ⟨q22, N22, rfl, hz22⟩ := len_s hz21
  obtain ⟨q23, N23, rfl, hz23⟩ := len_s hz22
  obtain ⟨q24, N24, rfl, hz24⟩ := len_s hz23
  obtain ⟨q25, N25, rfl, hz25⟩ := len_s hz24
  obtain ⟨q26, N26, rfl, hz26⟩ := len_s hz25
  obtain ⟨q27, N27, rfl, hz27⟩ := len_s hz26
  obtain ⟨q28, N28, rfl, hz28⟩ := len_s hz27
  obtain ⟨q29, N29, rfl, hz29⟩ := len_s hz28
  obtain ⟨q30, N30, rfl, hz30⟩ := len_s hz29
  obtain ⟨q31, N31, rfl, hz31⟩ := len_s hz30
  obtain ⟨q32, N32, rfl, hz32⟩ := len_s hz31
  obtain ⟨q33, N33, rfl, hz33⟩ := len_s hz32
  obtain rfl := List.eq_nil_of_length_eq_zero hz33
  dsimp only [List.cons_append, List.nil_append, List.set, List.append_assoc]
  refine G_aast (pc := 31) M 1 18 dX6_init_31 rfl rfl rfl rfl (by unfold vp_in; decide +kernel) ?_
  dsimp only [List.cons_append, List.nil_append, List.set, List.append_assoc]
  refine G_iinc (pc := 32) (v := 1) M dX6_init_32 rfl (by decide +kernel) (Nat.le_of_ble_eq_true rfl) ?_
  refine G_goto (pc := 35) M 14 dX6_init_35 (by decide) ?_
  refine G_iload_n (pc := 14) M dX6_init_14 rfl ?_
  refine G_iconst (pc := 15) (v := 3) M dX6_init_15 (by decide +kernel) ?_
  refine G_icmp_ge (pc := 16) M 38 dX6_init_16 (by decide) (fun h => absurd h (by decide)) (fun _ => ?_)
  refine G_aload_n (pc := 19) M dX6_init_19 rfl ?_
  refine G_getf (pc := 20) (a := 0) M dX6_init_20 fl_X6_11 rfl rfl ?_
  refine G_iload_n (pc := 23) M dX6_init_23 rfl ?_
  refine G_new (pc := 24) (L := [o, q1, q2, q3, q4, q5, q6, q7, q8, q9, q10, q11, q12, q13, q14, q15, q16, q17, q18, q19, q20, q21, q22, q23, q24, q25, q26, q27, q28, q29, q30, q31, q32, q33]) M dX6_init_24 nw_X6_9 rfl (Nat.le_of_ble_eq_true rfl) (Nat.le_of_ble_eq_true rfl) (fun q34 => ?_)
  refine G_dup (pc := 27) M dX6_init_27 rfl ?_
  refine G_initP (pc := 28) (L := [o, q1, q2, q3, q4, q5, q6, q7, q8, q9, q10, q11, q12, q13, q14, q15, q16, q17, q18, q19, q20, q21, q22, q23, q24, q25, q26, q27, q28, q29, q30, q31, q32, q33]) (q := q34) M dX6_init_28 kp_X6_15 (i_X4 D _) (fun _ _ _ h => h) trivial rfl rfl (Nat.le_of_ble_eq_true rfl) (Nat.le_of_ble_eq_true rfl) (Nat.le_of_ble_eq_true rfl) (Nat.le_of_ble_eq_true rfl) (Nat.le_of_ble_eq_true rfl) (fun N hN => ?_)
  have hz34 : N.length = 15 := Nat.succ.inj hN
  clear hN
  obtain ⟨q35, N35, rfl, hz35⟩ := len_s hz34
  obtain ⟨q36, N36, rfl, hz36⟩ := len_s hz35
  obtain ⟨q37, N37, rfl, hz37⟩ := len_s hz36
  obtain ⟨q38, N38, rfl, hz38⟩ := len_s hz37
  obtain ⟨q39, N39, rfl, hz39⟩ := len_s hz38
  obtain ⟨q40, N40, rfl, hz40⟩ := len_s hz39
  obtain ⟨q41, N41, rfl, hz41⟩ := len_s hz40
  obtain ⟨q42, N42, rfl, hz42⟩ := len_s hz41
  obtain ⟨q43, N43, rfl, hz43⟩ := len_s hz42
  obtain ⟨q44, N44, rfl, hz44⟩ := len_s hz43
  obtain ⟨q45, N45, rfl, hz45⟩ := len_s hz44
  obtain ⟨q46, N46, rfl, hz46⟩ := len_s hz45
  obtain ⟨q47, N47, rfl, hz47⟩ := len_s hz46
  obtain ⟨q48, N48, rfl, hz48⟩ := len_s hz47
  obtain ⟨q49, N49, rfl, hz49⟩ := len_s hz48
  obtain rfl := List.eq_nil_of_length_eq_zero hz49
  dsimp only [List.cons_append, List.nil_append, List.set, List.append_assoc]
  refine G_aast (pc := 31) M 1 34 dX6_init_31 rfl rfl rfl rfl (by unfold vp_in; decide +kernel) ?_
  dsimp only [List.cons_append, List.nil_append, List.set, List.append_assoc]
  refine G_iinc (pc := 32) (v := 1) M dX6_init_32 rfl (by decide +kernel) (Nat.le_of_ble_eq_true rfl) ?_
  refine G_goto (pc := 35) M 14 dX6_init_35 (by decide) ?_
  refine G_iload_n (pc := 14) M dX6_init_14 rfl ?_
  refine G_iconst (pc := 15) (v := 3) M dX6_init_15 (by decide +kernel) ?_
  refine G_icmp_ge (pc := 16) M 38 dX6_init_16 (by decide) (fun _ => ?_) (fun h => absurd (by decide) h)
  refine G_aload_n (pc := 38) M dX6_init_38 rfl ?_
  refine G_bipush (pc := 39) (v := -2) M dX6_init_39 (by decide +kernel) ?_
  refine G_putfi (pc := 41) (a := 0) M dX6_init_41 fl_X6_16 rfl (Nat.le_of_ble_eq_true rfl) ?_
  dsimp only [List.cons_append, List.nil_append, List.set, List.append_assoc]
  exact G_cret (N := [q1, q2, q3, q4, q5, q6, q7, q8, q9, q10, q11, q12, q13, q14, q15, q16, q17, q18, q19, q20, q21, q22, q23, q24, q25, q26, q27, q28, q29, q30, q31, q32, q33, q34, q35, q36, q37, q38, q39, q40, q41, q42, q43, q44, q45, q46, q47, q48, q49]) M hr dX6_init_44 rfl rfl
theorem i_X7 (D : DD) (l : Launch) : CI D l mi_X7_init 16 48293 (fun _ => True) (ob 7 [.null, .null, .null, .null, .null, .null, .null, .null, .null, .null, .null, .null, .null, .int 0, .null, .null, .null]) (fun ad => rfW D ad (n3 2) (n3 1) (n3 1) (fun _ => 0) (fun _ => 0) (fun _ => 0) (fun _ => 0) (fun _ => 0) (fun _ => 0) (fun _ => 0) (fun _ => 0) (fun _ => 0) (fun _ => 0) (-2) (fun _ => 0) (fun _ => 0) (fun _ => 0)) := by
  refine CI.of (by decide +kernel) (Nat.le_of_ble_eq_true rfl) rfl (fun o X A hl M hr hi hE => ?_)
  subst hl
  refine G_aload_n (pc := 0) M dX7_init_0 rfl ?_
  refine G_oinit (pc := 1) M dX7_init_1 oi_X7 rfl (Nat.le_of_ble_eq_true rfl) (Nat.le_of_ble_eq_true rfl) (Nat.le_of_ble_eq_true rfl) ?_
  refine G_aload_n (pc := 4) M dX7_init_4 rfl ?_
  refine G_iconst (pc := 5) (v := 3) M dX7_init_5 (by decide +kernel) ?_
  refine G_newi (pc := 6) (n := 3) (L := [o]) M dX7_init_6 (by decide +kernel) (by decide) rfl (Nat.le_of_ble_eq_true rfl) (Nat.le_of_ble_eq_true rfl) (fun q1 => ?_)
  dsimp only [List.cons_append, List.nil_append, List.set, List.append_assoc]
  refine G_dup (pc := 8) M dX7_init_8 rfl ?_
  refine G_iconst (pc := 9) (v := 0) M dX7_init_9 (by decide +kernel) ?_
  refine G_iconst (pc := 10) (v := 2) M dX7_init_10 (by decide +kernel) ?_
  refine G_iastore (pc := 11) (a := 1) M dX7_init_11 rfl (by unfold vp_in; decide +kernel) ?_
  dsimp only [List.cons_append, List.nil_append, List.set, List.append_assoc]
  refine G_dup (pc := 12) M dX7_init_12 rfl ?_
  refine G_iconst (pc := 13) (v := 1) M dX7_init_13 (by decide +kernel) ?_
  refine G_iconst (pc := 14) (v := 2) M dX7_init_14 (by decide +kernel) ?_
  refine G_iastore (pc := 15) (a := 1) M dX7_init_15 rfl (by unfold vp_in; decide +kernel) ?_
  dsimp only [List.cons_append, List.nil_append, List.set, List.append_assoc]
  refine G_dup (pc := 16) M dX7_init_16 rfl ?_
  refine G_iconst (pc := 17) (v := 2) M dX7_init_17 (by decide +kernel) ?_
  refine G_iconst (pc := 18) (v := 2) M dX7_init_18 (by decide +kernel) ?_
  refine G_iastore (pc := 19) (a := 1) M dX7_init_19 rfl (by unfold vp_in; decide +kernel) ?_
  dsimp only [List.cons_append, List.nil_append, List.set, List.append_assoc]
  refine G_putr (pc := 20) M hi 0 dX7_init_20 fl_X7_7 rfl rfl rfl (Nat.le_of_ble_eq_true rfl) rfl ?_
  dsimp only [List.cons_append, List.nil_append, List.set, List.append_assoc]
  refine G_aload_n (pc := 23) M dX7_init_23 rfl ?_
  refine G_iconst (pc := 24) (v := 3) M dX7_init_24 (by decide +kernel) ?_
  refine G_newi (pc := 25) (n := 3) (L := [o, q1]) M dX7_init_25 (by decide +kernel) (by decide) rfl (Nat.le_of_ble_eq_true rfl) (Nat.le_of_ble_eq_true rfl) (fun q2 => ?_)
  dsimp only [List.cons_append, List.nil_append, List.set, List.append_assoc]
  refine G_dup (pc := 27) M dX7_init_27 rfl ?_
  refine G_iconst (pc := 28) (v := 0) M dX7_init_28 (by decide +kernel) ?_
  refine G_iconst (pc := 29) (v := 1) M dX7_init_29 (by decide +kernel) ?_
  refine G_iastore (pc := 30) (a := 2) M dX7_init_30 rfl (by unfold vp_in; decide +kernel) ?_
  dsimp only [List.cons_append, List.nil_append, List.set, List.append_assoc]
  refine G_dup (pc := 31) M dX7_init_31 rfl ?_
  refine G_iconst (pc := 32) (v := 1) M dX7_init_32 (by decide +kernel) ?_
  refine G_iconst (pc := 33) (v := 1) M dX7_init_33 (by decide +kernel) ?_
  refine G_iastore (pc := 34) (a := 2) M dX7_init_34 rfl (by unfold vp_in; decide +kernel) ?_
  dsimp only [List.cons_append, List.nil_append, List.set, List.append_assoc]
  refine G_dup (pc := 35) M dX7_init_35 rfl ?_
  refine G_iconst (pc := 36) (v := 2) M dX7_init_36 (by decide +kernel) ?_
  refine G_iconst (pc := 37) (v := 1) M dX7_init_37 (by decide +kernel) ?_
  refine G_iastore (pc := 38) (a := 2) M dX7_init_38 rfl (by unfold vp_in; decide +kernel) ?_
  dsimp only [List.cons_append, List.nil_append, List.set, List.append_assoc]
  refine G_putr (pc := 39) M hi 0 dX7_init_39 fl_X7_13 rfl rfl rfl (Nat.le_of_ble_eq_true rfl) rfl ?_
  dsimp only [List.cons_append, List.nil_append, List.set, List.append_assoc]
  refine G_aload_n (pc := 42) M dX7_init_42 rfl ?_
  refine G_iconst (pc := 43) (v := 3) M dX7_init_43 (by decide +kernel) ?_
  refine G_newi (pc := 44) (n := 3) (L := [o, q1, q2]) M dX7_init_44 (by decide +kernel) (by decide) rfl (Nat.le_of_ble_eq_true rfl) (Nat.le_of_ble_eq_true rfl) (fun q3 => ?_)
  dsimp only [List.cons_append, List.nil_append, List.set, List.append_assoc]
  refine G_dup (pc := 46) M dX7_init_46 rfl ?_
  refine G_iconst (pc := 47) (v := 0) M dX7_init_47 (by decide +kernel) ?_
  refine G_iconst (pc := 48) (v := 1) M dX7_init_48 (by decide +kernel) ?_
  refine G_iastore (pc := 49) (a := 3) M dX7_init_49 rfl (by unfold vp_in; decide +kernel) ?_
  dsimp only [List.cons_append, List.nil_append, List.set, List.append_assoc]
  refine G_dup (pc := 50) M dX7_init_50 rfl ?_
  refine G_iconst (pc := 51) (v := 1) M dX7_init_51 (by decide +kernel) ?_
  refine G_iconst (pc := 52) (v := 1) M dX7_init_52 (by decide +kernel) ?_
  refine G_iastore (pc := 53) (a := 3) M dX7_init_53 rfl (by unfold vp_in; decide +kernel) ?_
  dsimp only [List.cons_append, List.nil_append, List.set, List.append_assoc]
  refine G_dup (pc := 54) M dX7_init_54 rfl ?_
  refine G_iconst (pc := 55) (v := 2) M dX7_init_55 (by decide +kernel) ?_
  refine G_iconst (pc := 56) (v := 1) M dX7_init_56 (by decide +kernel) ?_
  refine G_iastore (pc := 57) (a := 3) M dX7_init_57 rfl (by unfold vp_in; decide +kernel) ?_
  dsimp only [List.cons_append, List.nil_append, List.set, List.append_assoc]
  refine G_putr (pc := 58) M hi 0 dX7_init_58 fl_X7_16 rfl rfl rfl (Nat.le_of_ble_eq_true rfl) rfl ?_
  dsimp only [List.cons_append, List.nil_append, List.set, List.append_assoc]
  refine G_aload_n (pc := 61) M dX7_init_61 rfl ?_
  refine G_iconst (pc := 62) (v := 3) M dX7_init_62 (by decide +kernel) ?_
  refine G_newl (pc := 63) (n := 3) (L := [o, q1, q2, q3]) M dX7_init_63 (by decide +kernel) (by decide) rfl (Nat.le_of_ble_eq_true rfl) (Nat.le_of_ble_eq_true rfl) (fun q4 => ?_)
  dsimp only [List.cons_append, List.nil_append, List.set, List.append_assoc]
  refine G_putr (pc := 65) M hi 0 dX7_init_65 fl_X7_19 rfl rfl rfl (Nat.le_of_ble_eq_true rfl) rfl ?_
  dsimp only [List.cons_append, List.nil_append, List.set, List.append_assoc]
  refine G_aload_n (pc := 68) M dX7_init_68 rfl ?_
  refine G_iconst (pc := 69) (v := 3) M dX7_init_69 (by decide +kernel) ?_
  refine G_newi (pc := 70) (n := 3) (L := [o, q1, q2, q3, q4]) M dX7_init_70 (by decide +kernel) (by decide) rfl (Nat.le_of_ble_eq_true rfl) (Nat.le_of_ble_eq_true rfl) (fun q5 => ?_)
  dsimp only [List.cons_append, List.nil_append, List.set, List.append_assoc]
  refine G_putr (pc := 72) M hi 0 dX7_init_72 fl_X7_23 rfl rfl rfl (Nat.le_of_ble_eq_true rfl) rfl ?_
  dsimp only [List.cons_append, List.nil_append, List.set, List.append_assoc]
  refine G_aload_n (pc := 75) M dX7_init_75 rfl ?_
  refine G_iconst (pc := 76) (v := 3) M dX7_init_76 (by decide +kernel) ?_
  refine G_newi (pc := 77) (n := 3) (L := [o, q1, q2, q3, q4, q5]) M dX7_init_77 (by decide +kernel) (by decide) rfl (Nat.le_of_ble_eq_true rfl) (Nat.le_of_ble_eq_true rfl) (fun q6 => ?_)
  dsimp only [List.cons_append, List.nil_append, List.set, List.append_assoc]
  refine G_putr (pc := 79) M hi 0 dX7_init_79 fl_X7_26 rfl rfl rfl (Nat.le_of_ble_eq_true rfl) rfl ?_
  dsimp only [List.cons_append, List.nil_append, List.set, List.append_assoc]
  refine G_aload_n (pc := 82) M dX7_init_82 rfl ?_
  refine G_sipush (pc := 83) (v := 12600) M dX7_init_83 (by decide +kernel) ?_
  refine G_newi (pc := 86) (n := 12600) (L := [o, q1, q2, q3, q4, q5, q6]) M dX7_init_86 (by decide +kernel) (by decide) rfl (Nat.le_of_ble_eq_true rfl) (Nat.le_of_ble_eq_true rfl) (fun q7 => ?_)
  dsimp only [List.cons_append, List.nil_append, List.set, List.append_assoc]
  refine G_putr (pc := 88) M hi 0 dX7_init_88 fl_X7_29 rfl rfl rfl (Nat.le_of_ble_eq_true rfl) rfl ?_
  dsimp only [List.cons_append, List.nil_append, List.set, List.append_assoc]
  refine G_aload_n (pc := 91) M dX7_init_91 rfl ?_
  refine G_sipush (pc := 92) (v := 12600) M dX7_init_92 (by decide +kernel) ?_
  refine G_newi (pc := 95) (n := 12600) (L := [o, q1, q2, q3, q4, q5, q6, q7]) M dX7_init_95 (by decide +kernel) (by decide) rfl (Nat.le_of_ble_eq_true rfl) (Nat.le_of_ble_eq_true rfl) (fun q8 => ?_)
  dsimp only [List.cons_append, List.nil_append, List.set, List.append_assoc]
  refine G_putr (pc := 97) M hi 0 dX7_init_97 fl_X7_32 rfl rfl rfl (Nat.le_of_ble_eq_true rfl) rfl ?_
  dsimp only [List.cons_append, List.nil_append, List.set, List.append_assoc]
  refine G_aload_n (pc := 100) M dX7_init_100 rfl ?_
  refine G_sipush (pc := 101) (v := 192) M dX7_init_101 (by decide +kernel) ?_
  refine G_newi (pc := 104) (n := 192) (L := [o, q1, q2, q3, q4, q5, q6, q7, q8]) M dX7_init_104 (by decide +kernel) (by decide) rfl (Nat.le_of_ble_eq_true rfl) (Nat.le_of_ble_eq_true rfl) (fun q9 => ?_)
  dsimp only [List.cons_append, List.nil_append, List.set, List.append_assoc]
  refine G_putr (pc := 106) M hi 0 dX7_init_106 fl_X7_35 rfl rfl rfl (Nat.le_of_ble_eq_true rfl) rfl ?_
  dsimp only [List.cons_append, List.nil_append, List.set, List.append_assoc]
  refine G_aload_n (pc := 109) M dX7_init_109 rfl ?_
  refine G_sipush (pc := 110) (v := 192) M dX7_init_110 (by decide +kernel) ?_
  refine G_newi (pc := 113) (n := 192) (L := [o, q1, q2, q3, q4, q5, q6, q7, q8, q9]) M dX7_init_113 (by decide +kernel) (by decide) rfl (Nat.le_of_ble_eq_true rfl) (Nat.le_of_ble_eq_true rfl) (fun q10 => ?_)
  dsimp only [List.cons_append, List.nil_append, List.set, List.append_assoc]
  refine G_putr (pc := 115) M hi 0 dX7_init_115 fl_X7_38 rfl rfl rfl (Nat.le_of_ble_eq_true rfl) rfl ?_
  dsimp only [List.cons_append, List.nil_append, List.set, List.append_assoc]
  refine G_aload_n (pc := 118) M dX7_init_118 rfl ?_
  refine G_sipush (pc := 119) (v := 5760) M dX7_init_119 (by decide +kernel) ?_
  refine G_newl (pc := 122) (n := 5760) (L := [o, q1, q2, q3, q4, q5, q6, q7, q8, q9, q10]) M dX7_init_122 (by decide +kernel) (by decide) rfl (Nat.le_of_ble_eq_true rfl) (Nat.le_of_ble_eq_true rfl) (fun q11 => ?_)
  dsimp only [List.cons_append, List.nil_append, List.set, List.append_assoc]
  refine G_putr (pc := 124) M hi 0 dX7_init_124 fl_X7_41 rfl rfl rfl (Nat.le_of_ble_eq_true rfl) rfl ?_
  dsimp only [List.cons_append, List.nil_append, List.set, List.append_assoc]
  refine G_aload_n (pc := 127) M dX7_init_127 rfl ?_
  refine G_sipush (pc := 128) (v := 12600) M dX7_init_128 (by decide +kernel) ?_
  refine G_newi (pc := 131) (n := 12600) (L := [o, q1, q2, q3, q4, q5, q6, q7, q8, q9, q10, q11]) M dX7_init_131 (by decide +kernel) (by decide) rfl (Nat.le_of_ble_eq_true rfl) (Nat.le_of_ble_eq_true rfl) (fun q12 => ?_)
  dsimp only [List.cons_append, List.nil_append, List.set, List.append_assoc]
  refine G_putr (pc := 133) M hi 0 dX7_init_133 fl_X7_44 rfl rfl rfl (Nat.le_of_ble_eq_true rfl) rfl ?_
  dsimp only [List.cons_append, List.nil_append, List.set, List.append_assoc]
  refine G_aload_n (pc := 136) M dX7_init_136 rfl ?_
  refine G_iconst (pc := 137) (v := 3) M dX7_init_137 (by decide +kernel) ?_
  refine G_newi (pc := 138) (n := 3) (L := [o, q1, q2, q3, q4, q5, q6, q7, q8, q9, q10, q11, q12]) M dX7_init_138 (by decide +kernel) (by decide) rfl (Nat.le_of_ble_eq_true rfl) (Nat.le_of_ble_eq_true rfl) (fun q13 => ?_)
  dsimp only [List.cons_append, List.nil_append, List.set, List.append_assoc]
  refine G_putr (pc := 140) M hi 0 dX7_init_140 fl_X7_47 rfl rfl rfl (Nat.le_of_ble_eq_true rfl) rfl ?_
  dsimp only [List.cons_append, List.nil_append, List.set, List.append_assoc]
  refine G_aload_n (pc := 143) M dX7_init_143 rfl ?_
  refine G_bipush (pc := 144) (v := -2) M dX7_init_144 (by decide +kernel) ?_
  refine G_putfi (pc := 146) (a := 0) M dX7_init_146 fl_X7_50 rfl (Nat.le_of_ble_eq_true rfl) ?_
  dsimp only [List.cons_append, List.nil_append, List.set, List.append_assoc]
  refine G_aload_n (pc := 149) M dX7_init_149 rfl ?_
  refine G_bipush (pc := 150) (v := 64) M dX7_init_150 (by decide +kernel) ?_
  refine G_newi (pc := 152) (n := 64) (L := [o, q1, q2, q3, q4, q5, q6, q7, q8, q9, q10, q11, q12, q13]) M dX7_init_152 (by decide +kernel) (by decide) rfl (Nat.le_of_ble_eq_true rfl) (Nat.le_of_ble_eq_true rfl) (fun q14 => ?_)
  dsimp only [List.cons_append, List.nil_append, List.set, List.append_assoc]
  refine G_putr (pc := 154) M hi 0 dX7_init_154 fl_X7_54 rfl rfl rfl (Nat.le_of_ble_eq_true rfl) rfl ?_
  dsimp only [List.cons_append, List.nil_append, List.set, List.append_assoc]
  refine G_aload_n (pc := 157) M dX7_init_157 rfl ?_
  refine G_sipush (pc := 158) (v := 4200) M dX7_init_158 (by decide +kernel) ?_
  refine G_newz (pc := 161) (n := 4200) (L := [o, q1, q2, q3, q4, q5, q6, q7, q8, q9, q10, q11, q12, q13, q14]) M dX7_init_161 (by decide +kernel) (by decide) rfl (Nat.le_of_ble_eq_true rfl) (Nat.le_of_ble_eq_true rfl) (fun q15 => ?_)
  dsimp only [List.cons_append, List.nil_append, List.set, List.append_assoc]
  refine G_putr (pc := 163) M hi 0 dX7_init_163 fl_X7_57 rfl rfl rfl (Nat.le_of_ble_eq_true rfl) rfl ?_
  dsimp only [List.cons_append, List.nil_append, List.set, List.append_assoc]
  refine G_aload_n (pc := 166) M dX7_init_166 rfl ?_
  refine G_bipush (pc := 167) (v := 64) M dX7_init_167 (by decide +kernel) ?_
  refine G_newi (pc := 169) (n := 64) (L := [o, q1, q2, q3, q4, q5, q6, q7, q8, q9, q10, q11, q12, q13, q14, q15]) M dX7_init_169 (by decide +kernel) (by decide) rfl (Nat.le_of_ble_eq_true rfl) (Nat.le_of_ble_eq_true rfl) (fun q16 => ?_)
  dsimp only [List.cons_append, List.nil_append, List.set, List.append_assoc]
  refine G_putr (pc := 171) M hi 0 dX7_init_171 fl_X7_61 rfl rfl rfl (Nat.le_of_ble_eq_true rfl) rfl ?_
  dsimp only [List.cons_append, List.nil_append, List.set, List.append_assoc]
  exact G_cret (N := [q1, q2, q3, q4, q5, q6, q7, q8, q9, q10, q11, q12, q13, q14, q15, q16]) M hr dX7_init_174 rfl rfl
