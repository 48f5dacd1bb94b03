/-! constructors: words of the tables -/
theorem oi_X0 : Cond.methodLink RX0 3 Lib.objectInit ∈ TB := TB_at 58 (by decide +kernel) rfl
theorem oi_X1 : Cond.methodLink RX1 3 Lib.objectInit ∈ TB := TB_at 87 (by decide +kernel) rfl
theorem oi_X2 : Cond.methodLink RX2 3 Lib.objectInit ∈ TB := TB_at 138 (by decide +kernel) rfl
theorem oi_X3 : Cond.methodLink RX3 3 Lib.objectInit ∈ TB := TB_at 153 (by decide +kernel) rfl
theorem oi_X4 : Cond.methodLink RX4 3 Lib.objectInit ∈ TB := TB_at 52 (by decide +kernel) rfl
theorem oi_X5 : Cond.methodLink RX5 3 Lib.objectInit ∈ TB := TB_at 109 (by decide +kernel) rfl
theorem oi_X6 : Cond.methodLink RX6 1 Lib.objectInit ∈ TB := TB_at 43 (by decide +kernel) rfl
theorem oi_X7 : Cond.methodLink RX7 1 Lib.objectInit ∈ TB := TB_at 492 (by decide +kernel) rfl
theorem nw_X6_9 : NW RX6 9 4 10 [.null, .null, .null, .null, .null, .int 0, .int 0, .int 0, .long 0, .int 0] := ⟨RX4, TX4, tyX4, rfl, inT4, tyX4_ok, TB_at 46 (by decide +kernel) rfl, TB_at 48 (by decide +kernel) rfl, TB_at 28 (by decide +kernel) rfl, fun j hj => by rcases (show j = 0 ∨ j = 1 ∨ j = 2 ∨ j = 3 ∨ j = 4 ∨ j = 5 ∨ j = 6 ∨ j = 7 ∨ j = 8 ∨ j = 9 by omega) with rfl | rfl | rfl | rfl | rfl | rfl | rfl | rfl | rfl | rfl <;> rfl⟩
theorem nw_X4_9 : NW RX4 9 0 6 [.null, .null, .int 0, .int 0, .int 0, .int 0] := ⟨RX0, TX0, tyX0, rfl, inT0, tyX0_ok, TB_at 53 (by decide +kernel) rfl, TB_at 54 (by decide +kernel) rfl, TB_at 29 (by decide +kernel) rfl, fun j hj => by rcases (show j = 0 ∨ j = 1 ∨ j = 2 ∨ j = 3 ∨ j = 4 ∨ j = 5 by omega) with rfl | rfl | rfl | rfl | rfl | rfl <;> rfl⟩
theorem nw_X4_18 : NW RX4 18 1 4 [.null, .null, .null, .int 0] := ⟨RX1, TX1, tyX1, rfl, inT1, tyX1_ok, TB_at 82 (by decide +kernel) rfl, TB_at 83 (by decide +kernel) rfl, TB_at 30 (by decide +kernel) rfl, fun j hj => by rcases (show j = 0 ∨ j = 1 ∨ j = 2 ∨ j = 3 by omega) with rfl | rfl | rfl | rfl <;> rfl⟩
theorem nw_X4_25 : NW RX4 25 5 6 [.null, .null, .null, .int 0, .int 0, .int 0] := ⟨RX5, TX5, tyX5, rfl, inT5, tyX5_ok, TB_at 104 (by decide +kernel) rfl, TB_at 105 (by decide +kernel) rfl, TB_at 31 (by decide +kernel) rfl, fun j hj => by rcases (show j = 0 ∨ j = 1 ∨ j = 2 ∨ j = 3 ∨ j = 4 ∨ j = 5 by omega) with rfl | rfl | rfl | rfl | rfl | rfl <;> rfl⟩
theorem nw_X4_32 : NW RX4 32 2 2 [.null, .int 0] := ⟨RX2, TX2, tyX2, rfl, inT2, tyX2_ok, TB_at 133 (by decide +kernel) rfl, TB_at 134 (by decide +kernel) rfl, TB_at 32 (by decide +kernel) rfl, fun j hj => by rcases (show j = 0 ∨ j = 1 by omega) with rfl | rfl <;> rfl⟩
theorem nw_X4_39 : NW RX4 39 3 3 [.null, .int 0, .long 0] := ⟨RX3, TX3, tyX3, rfl, inT3, tyX3_ok, TB_at 148 (by decide +kernel) rfl, TB_at 149 (by decide +kernel) rfl, TB_at 33 (by decide +kernel) rfl, fun j hj => by rcases (show j = 0 ∨ j = 1 ∨ j = 2 by omega) with rfl | rfl | rfl <;> rfl⟩
theorem nw_L_7 : NW RL 7 6 2 [.null, .int 0] := ⟨RX6, TX6, tyX6, rfl, inT6, tyX6_ok, TB_at 38 (by decide +kernel) rfl, TB_at 39 (by decide +kernel) rfl, TB_at 27 (by decide +kernel) rfl, fun j hj => by rcases (show j = 0 ∨ j = 1 by omega) with rfl | rfl <;> rfl⟩
theorem nw_L_10 : NW RL 10 7 17 [.null, .null, .null, .null, .null, .null, .null, .null, .null, .null, .null, .null, .null, .int 0, .null, .null, .null] := ⟨RX7, TX7, tyX7, rfl, inT7, tyX7_ok, TB_at 487 (by decide +kernel) rfl, TB_at 488 (by decide +kernel) rfl, TB_at 35 (by decide +kernel) rfl, fun j hj => by rcases (show j = 0 ∨ j = 1 ∨ j = 2 ∨ j = 3 ∨ j = 4 ∨ j = 5 ∨ j = 6 ∨ j = 7 ∨ j = 8 ∨ j = 9 ∨ j = 10 ∨ j = 11 ∨ j = 12 ∨ j = 13 ∨ j = 14 ∨ j = 15 ∨ j = 16 by omega) with rfl | rfl | rfl | rfl | rfl | rfl | rfl | rfl | rfl | rfl | rfl | rfl | rfl | rfl | rfl | rfl | rfl <;> rfl⟩
theorem kn_X4_11 : KN RX4 11 mi_X0_init := ⟨mc_X0_init, ⟨"StreamCounts", by decide +kernel⟩, rfl, TB_at 56 (by decide +kernel) rfl, rfl⟩
theorem kn_X4_20 : KN RX4 20 mi_X1_init := ⟨mc_X1_init, ⟨"StreamCounts", by decide +kernel⟩, rfl, TB_at 85 (by decide +kernel) rfl, rfl⟩
theorem kn_X4_27 : KN RX4 27 mi_X5_init := ⟨mc_X5_init, ⟨"StreamCounts", by decide +kernel⟩, rfl, TB_at 107 (by decide +kernel) rfl, rfl⟩
theorem kn_X4_34 : KN RX4 34 mi_X2_init := ⟨mc_X2_init, ⟨"StreamCounts", by decide +kernel⟩, rfl, TB_at 136 (by decide +kernel) rfl, rfl⟩
theorem kn_X4_41 : KN RX4 41 mi_X3_init := ⟨mc_X3_init, ⟨"StreamCounts", by decide +kernel⟩, rfl, TB_at 151 (by decide +kernel) rfl, rfl⟩
theorem kp_X6_15 : KP RX6 15 mi_X4_init := ⟨mc_X4_init, TB_at 49 (by decide +kernel) rfl, rfl, TB_at 50 (by decide +kernel) rfl, rfl⟩
theorem kp_L_9 : KP RL 9 mi_X6_init := ⟨mc_X6_init, TB_at 40 (by decide +kernel) rfl, rfl, TB_at 41 (by decide +kernel) rfl, rfl⟩
theorem kp_L_12 : KP RL 12 mi_X7_init := ⟨mc_X7_init, TB_at 489 (by decide +kernel) rfl, rfl, TB_at 490 (by decide +kernel) rfl, rfl⟩
theorem cl_X6_9 : Cond.classLink RX6 9 "StreamCounts$Stream" ∈ TB := TB_at 46 (by decide +kernel) rfl
theorem i_X0 (D : DD) (l : Launch) : CI D l mi_X0_init 2 128 (fun _ => True) (ob 0 [.null, .null, .int 0, .int 0, .int 0, .int 0]) (fun ad => [ob 0 [.ref (ad 1), .ref (ad 2), .int 0, .int 0, .int 0, .int 0], ia D 64 (fun _ => 0), ia D 64 (fun _ => 0)]) := by
  refine CI.of (by decide +kernel) (Nat.le_of_ble_eq_true rfl) rfl (fun o X A hl M hr hi hE => ?_)
  subst hl
  refine G_aload_n (pc := 0) M dX0_init_0 rfl ?_
  refine G_oinit (pc := 1) M dX0_init_1 oi_X0 rfl (Nat.le_of_ble_eq_true rfl) (Nat.le_of_ble_eq_true rfl) (Nat.le_of_ble_eq_true rfl) ?_
  refine G_aload_n (pc := 4) M dX0_init_4 rfl ?_
  refine G_bipush (pc := 5) (v := 64) M dX0_init_5 (by decide +kernel) ?_
  refine G_newi (pc := 7) (n := 64) (L := [o]) M dX0_init_7 (by decide +kernel) (by decide) rfl (Nat.le_of_ble_eq_true rfl) (Nat.le_of_ble_eq_true rfl) (fun q1 => ?_)
  dsimp only [List.cons_append, List.nil_append, List.set, List.append_assoc]
  refine G_putr (pc := 9) M hi 0 dX0_init_9 fl_X0_9 rfl rfl rfl (Nat.le_of_ble_eq_true rfl) rfl ?_
  dsimp only [List.cons_append, List.nil_append, List.set, List.append_assoc]
  refine G_aload_n (pc := 12) M dX0_init_12 rfl ?_
  refine G_bipush (pc := 13) (v := 64) M dX0_init_13 (by decide +kernel) ?_
  refine G_newi (pc := 15) (n := 64) (L := [o, q1]) M dX0_init_15 (by decide +kernel) (by decide) rfl (Nat.le_of_ble_eq_true rfl) (Nat.le_of_ble_eq_true rfl) (fun q2 => ?_)
  dsimp only [List.cons_append, List.nil_append, List.set, List.append_assoc]
  refine G_putr (pc := 17) M hi 0 dX0_init_17 fl_X0_15 rfl rfl rfl (Nat.le_of_ble_eq_true rfl) rfl ?_
  dsimp only [List.cons_append, List.nil_append, List.set, List.append_assoc]
  exact G_cret (N := [q1, q2]) M hr dX0_init_20 rfl rfl
theorem i_X1 (D : DD) (l : Launch) : CI D l mi_X1_init 3 192 (fun _ => True) (ob 1 [.null, .null, .null, .int 0]) (fun ad => [ob 1 [.ref (ad 1), .ref (ad 2), .ref (ad 3), .int 0], ia D 64 (fun _ => 0), ia D 64 (fun _ => 0), ia D 64 (fun _ => 0)]) := by
  refine CI.of (by decide +kernel) (Nat.le_of_ble_eq_true rfl) rfl (fun o X A hl M hr hi hE => ?_)
  subst hl
  refine G_aload_n (pc := 0) M dX1_init_0 rfl ?_
  refine G_oinit (pc := 1) M dX1_init_1 oi_X1 rfl (Nat.le_of_ble_eq_true rfl) (Nat.le_of_ble_eq_true rfl) (Nat.le_of_ble_eq_true rfl) ?_
  refine G_aload_n (pc := 4) M dX1_init_4 rfl ?_
  refine G_bipush (pc := 5) (v := 64) M dX1_init_5 (by decide +kernel) ?_
  refine G_newi (pc := 7) (n := 64) (L := [o]) M dX1_init_7 (by decide +kernel) (by decide) rfl (Nat.le_of_ble_eq_true rfl) (Nat.le_of_ble_eq_true rfl) (fun q1 => ?_)
  dsimp only [List.cons_append, List.nil_append, List.set, List.append_assoc]
  refine G_putr (pc := 9) M hi 0 dX1_init_9 fl_X1_9 rfl rfl rfl (Nat.le_of_ble_eq_true rfl) rfl ?_
  dsimp only [List.cons_append, List.nil_append, List.set, List.append_assoc]
  refine G_aload_n (pc := 12) M dX1_init_12 rfl ?_
  refine G_bipush (pc := 13) (v := 64) M dX1_init_13 (by decide +kernel) ?_
  refine G_newi (pc := 15) (n := 64) (L := [o, q1]) M dX1_init_15 (by decide +kernel) (by decide) rfl (Nat.le_of_ble_eq_true rfl) (Nat.le_of_ble_eq_true rfl) (fun q2 => ?_)
  dsimp only [List.cons_append, List.nil_append, List.set, List.append_assoc]
  refine G_putr (pc := 17) M hi 0 dX1_init_17 fl_X1_15 rfl rfl rfl (Nat.le_of_ble_eq_true rfl) rfl ?_
  dsimp only [List.cons_append, List.nil_append, List.set, List.append_assoc]
  refine G_aload_n (pc := 20) M dX1_init_20 rfl ?_
  refine G_bipush (pc := 21) (v := 64) M dX1_init_21 (by decide +kernel) ?_
  refine G_newi (pc := 23) (n := 64) (L := [o, q1, q2]) M dX1_init_23 (by decide +kernel) (by decide) rfl (Nat.le_of_ble_eq_true rfl) (Nat.le_of_ble_eq_true rfl) (fun q3 => ?_)
  dsimp only [List.cons_append, List.nil_append, List.set, List.append_assoc]
  refine G_putr (pc := 25) M hi 0 dX1_init_25 fl_X1_18 rfl rfl rfl (Nat.le_of_ble_eq_true rfl) rfl ?_
  dsimp only [List.cons_append, List.nil_append, List.set, List.append_assoc]
  exact G_cret (N := [q1, q2, q3]) M hr dX1_init_28 rfl rfl
theorem i_X5 (D : DD) (l : Launch) : CI D l mi_X5_init 3 1088 (fun _ => True) (ob 5 [.null, .null, .null, .int 0, .int 0, .int 0]) (fun ad => [ob 5 [.ref (ad 1), .ref (ad 2), .ref (ad 3), .int 0, .int 0, .int 0], ia D 512 (fun _ => 0), ia D 512 (fun _ => 0), la D 64 (fun _ => 0)]) := by
  refine CI.of (by decide +kernel) (Nat.le_of_ble_eq_true rfl) rfl (fun o X A hl M hr hi hE => ?_)
  subst hl
  refine G_aload_n (pc := 0) M dX5_init_0 rfl ?_
  refine G_oinit (pc := 1) M dX5_init_1 oi_X5 rfl (Nat.le_of_ble_eq_true rfl) (Nat.le_of_ble_eq_true rfl) (Nat.le_of_ble_eq_true rfl) ?_
  refine G_aload_n (pc := 4) M dX5_init_4 rfl ?_
  refine G_sipush (pc := 5) (v := 512) M dX5_init_5 (by decide +kernel) ?_
  refine G_newi (pc := 8) (n := 512) (L := [o]) M dX5_init_8 (by decide +kernel) (by decide) rfl (Nat.le_of_ble_eq_true rfl) (Nat.le_of_ble_eq_true rfl) (fun q1 => ?_)
  dsimp only [List.cons_append, List.nil_append, List.set, List.append_assoc]
  refine G_putr (pc := 10) M hi 0 dX5_init_10 fl_X5_9 rfl rfl rfl (Nat.le_of_ble_eq_true rfl) rfl ?_
  dsimp only [List.cons_append, List.nil_append, List.set, List.append_assoc]
  refine G_aload_n (pc := 13) M dX5_init_13 rfl ?_
  refine G_sipush (pc := 14) (v := 512) M dX5_init_14 (by decide +kernel) ?_
  refine G_newi (pc := 17) (n := 512) (L := [o, q1]) M dX5_init_17 (by decide +kernel) (by decide) rfl (Nat.le_of_ble_eq_true rfl) (Nat.le_of_ble_eq_true rfl) (fun q2 => ?_)
  dsimp only [List.cons_append, List.nil_append, List.set, List.append_assoc]
  refine G_putr (pc := 19) M hi 0 dX5_init_19 fl_X5_15 rfl rfl rfl (Nat.le_of_ble_eq_true rfl) rfl ?_
  dsimp only [List.cons_append, List.nil_append, List.set, List.append_assoc]
  refine G_aload_n (pc := 22) M dX5_init_22 rfl ?_
  refine G_bipush (pc := 23) (v := 64) M dX5_init_23 (by decide +kernel) ?_
  refine G_newl (pc := 25) (n := 64) (L := [o, q1, q2]) M dX5_init_25 (by decide +kernel) (by decide) rfl (Nat.le_of_ble_eq_true rfl) (Nat.le_of_ble_eq_true rfl) (fun q3 => ?_)
  dsimp only [List.cons_append, List.nil_append, List.set, List.append_assoc]
  refine G_putr (pc := 27) M hi 0 dX5_init_27 fl_X5_18 rfl rfl rfl (Nat.le_of_ble_eq_true rfl) rfl ?_
  dsimp only [List.cons_append, List.nil_append, List.set, List.append_assoc]
  exact G_cret (N := [q1, q2, q3]) M hr dX5_init_30 rfl rfl
theorem i_X2 (D : DD) (l : Launch) : CI D l mi_X2_init 1 64 (fun _ => True) (ob 2 [.null, .int 0]) (fun ad => [ob 2 [.ref (ad 1), .int 0], ia D 64 (fun _ => 0)]) := by
  refine CI.of (by decide +kernel) (Nat.le_of_ble_eq_true rfl) rfl (fun o X A hl M hr hi hE => ?_)
  subst hl
  refine G_aload_n (pc := 0) M dX2_init_0 rfl ?_
  refine G_oinit (pc := 1) M dX2_init_1 oi_X2 rfl (Nat.le_of_ble_eq_true rfl) (Nat.le_of_ble_eq_true rfl) (Nat.le_of_ble_eq_true rfl) ?_
  refine G_aload_n (pc := 4) M dX2_init_4 rfl ?_
  refine G_bipush (pc := 5) (v := 64) M dX2_init_5 (by decide +kernel) ?_
  refine G_newi (pc := 7) (n := 64) (L := [o]) M dX2_init_7 (by decide +kernel) (by decide) rfl (Nat.le_of_ble_eq_true rfl) (Nat.le_of_ble_eq_true rfl) (fun q1 => ?_)
  dsimp only [List.cons_append, List.nil_append, List.set, List.append_assoc]
  refine G_putr (pc := 9) M hi 0 dX2_init_9 fl_X2_9 rfl rfl rfl (Nat.le_of_ble_eq_true rfl) rfl ?_
  dsimp only [List.cons_append, List.nil_append, List.set, List.append_assoc]
  exact G_cret (N := [q1]) M hr dX2_init_12 rfl rfl
theorem i_X3 (D : DD) (l : Launch) : CI D l mi_X3_init 1 1920 (fun _ => True) (ob 3 [.null, .int 0, .long 0]) (fun ad => [ob 3 [.ref (ad 1), .int 0, .long 0], la D 1920 (fun _ => 0)]) := by
  refine CI.of (by decide +kernel) (Nat.le_of_ble_eq_true rfl) rfl (fun o X A hl M hr hi hE => ?_)
  subst hl
  refine G_aload_n (pc := 0) M dX3_init_0 rfl ?_
  refine G_oinit (pc := 1) M dX3_init_1 oi_X3 rfl (Nat.le_of_ble_eq_true rfl) (Nat.le_of_ble_eq_true rfl) (Nat.le_of_ble_eq_true rfl) ?_
  refine G_aload_n (pc := 4) M dX3_init_4 rfl ?_
  refine G_sipush (pc := 5) (v := 1920) M dX3_init_5 (by decide +kernel) ?_
  refine G_newl (pc := 8) (n := 1920) (L := [o]) M dX3_init_8 (by decide +kernel) (by decide) rfl (Nat.le_of_ble_eq_true rfl) (Nat.le_of_ble_eq_true rfl) (fun q1 => ?_)
  dsimp only [List.cons_append, List.nil_append, List.set, List.append_assoc]
  refine G_putr (pc := 10) M hi 0 dX3_init_10 fl_X3_9 rfl rfl rfl (Nat.le_of_ble_eq_true rfl) rfl ?_
  dsimp only [List.cons_append, List.nil_append, List.set, List.append_assoc]
  exact G_cret (N := [q1]) M hr dX3_init_13 rfl rfl
abbrev st0 (D : DD) (ad : Nat → Nat) : List va_E := stW D ad 2 1 1 0 0 0 0 (fun _ => 0) (fun _ => 0) 0 (fun _ => 0) (fun _ => 0) (fun _ => 0) 0 (fun _ => 0) (fun _ => 0) (fun _ => 0) 0 (fun _ => -2) (fun _ => 0)
theorem i_X4 (D : DD) (l : Launch) : CI D l mi_X4_init 15 3413 (fun _ => True) (ob 4 [.null, .null, .null, .null, .null, .int 0, .int 0, .int 0, .long 0, .int 0]) (fun ad => st0 D ad) := by
  refine CI.of (by decide +kernel) (Nat.le_of_ble_eq_true rfl) rfl (fun o X A hl M hr hi hE => ?_)
  subst hl
  refine G_aload_n (pc := 0) M dX4_init_0 rfl ?_
  refine G_oinit (pc := 1) M dX4_init_1 oi_X4 rfl (Nat.le_of_ble_eq_true rfl) (Nat.le_of_ble_eq_true rfl) (Nat.le_of_ble_eq_true rfl) ?_
  refine G_aload_n (pc := 4) M dX4_init_4 rfl ?_
  refine G_new (pc := 5) (L := [o]) M dX4_init_5 nw_X4_9 rfl (Nat.le_of_ble_eq_true rfl) (Nat.le_of_ble_eq_true rfl) (fun q1 => ?_)
  refine G_dup (pc := 8) M dX4_init_8 rfl ?_
  refine G_initN (pc := 9) (L := [o]) (q := q1) M dX4_init_9 kn_X4_11 (i_X0 D _) (fun _ _ _ h => h) trivial rfl rfl (Nat.le_of_ble_eq_true rfl) (Nat.le_of_ble_eq_true rfl) (Nat.le_of_ble_eq_true rfl) (Nat.le_of_ble_eq_true rfl) (Nat.le_of_ble_eq_true rfl) (fun N hN => ?_)
  have hz1 : N.length = 2 := Nat.succ.inj hN
  clear hN
  obtain ⟨q2, N2, rfl, hz2⟩ := len_s hz1
  obtain ⟨q3, N3, rfl, hz3⟩ := len_s hz2
  obtain rfl := List.eq_nil_of_length_eq_zero hz3
  dsimp only [List.cons_append, List.nil_append, List.set, List.append_assoc]
  refine G_putr (pc := 12) M hi 0 dX4_init_12 fl_X4_12 rfl rfl rfl (Nat.le_of_ble_eq_true rfl) rfl ?_
  dsimp only [List.cons_append, List.nil_append, List.set, List.append_assoc]
  refine G_aload_n (pc := 15) M dX4_init_15 rfl ?_
  refine G_new (pc := 16) (L := [o, q1, q2, q3]) M dX4_init_16 nw_X4_18 rfl (Nat.le_of_ble_eq_true rfl) (Nat.le_of_ble_eq_true rfl) (fun q4 => ?_)
  refine G_dup (pc := 19) M dX4_init_19 rfl ?_
  refine G_initN (pc := 20) (L := [o, q1, q2, q3]) (q := q4) M dX4_init_20 kn_X4_20 (i_X1 D _) (fun _ _ _ h => h) trivial rfl rfl (Nat.le_of_ble_eq_true rfl) (Nat.le_of_ble_eq_true rfl) (Nat.le_of_ble_eq_true rfl) (Nat.le_of_ble_eq_true rfl) (Nat.le_of_ble_eq_true rfl) (fun N hN => ?_)
  have hz4 : N.length = 3 := Nat.succ.inj hN
  clear hN
  obtain ⟨q5, N5, rfl, hz5⟩ := len_s hz4
  obtain ⟨q6, N6, rfl, hz6⟩ := len_s hz5
  obtain ⟨q7, N7, rfl, hz7⟩ := len_s hz6
  obtain rfl := List.eq_nil_of_length_eq_zero hz7
  dsimp only [List.cons_append, List.nil_append, List.set, List.append_assoc]
  refine G_putr (pc := 23) M hi 0 dX4_init_23 fl_X4_21 rfl rfl rfl (Nat.le_of_ble_eq_true rfl) rfl ?_
  dsimp only [List.cons_append, List.nil_append, List.set, List.append_assoc]
  refine G_aload_n (pc := 26) M dX4_init_26 rfl ?_
  refine G_new (pc := 27) (L := [o, q1, q2, q3, q4, q5, q6, q7]) M dX4_init_27 nw_X4_25 rfl (Nat.le_of_ble_eq_true rfl) (Nat.le_of_ble_eq_true rfl) (fun q8 => ?_)
  refine G_dup (pc := 30) M dX4_init_30 rfl ?_
  refine G_initN (pc := 31) (L := [o, q1, q2, q3, q4, q5, q6, q7]) (q := q8) M dX4_init_31 kn_X4_27 (i_X5 D _) (fun _ _ _ h => h) trivial rfl rfl (Nat.le_of_ble_eq_true rfl) (Nat.le_of_ble_eq_true rfl) (Nat.le_of_ble_eq_true rfl) (Nat.le_of_ble_eq_true rfl) (Nat.le_of_ble_eq_true rfl) (fun N hN => ?_)
  have hz8 : N.length = 3 := Nat.succ.inj hN
  clear hN
  obtain ⟨q9, N9, rfl, hz9⟩ := len_s hz8
  obtain ⟨q10, N10, rfl, hz10⟩ := len_s hz9
  obtain ⟨q11, N11, rfl, hz11⟩ := len_s hz10
  obtain rfl := List.eq_nil_of_length_eq_zero hz11
  dsimp only [List.cons_append, List.nil_append, List.set, List.append_assoc]
  refine G_putr (pc := 34) M hi 0 dX4_init_34 fl_X4_28 rfl rfl rfl (Nat.le_of_ble_eq_true rfl) rfl ?_
  dsimp only [List.cons_append, List.nil_append, List.set, List.append_assoc]
  refine G_aload_n (pc := 37) M dX4_init_37 rfl ?_
  refine G_new (pc := 38) (L := [o, q1, q2, q3, q4, q5, q6, q7, q8, q9, q10, q11]) M dX4_init_38 nw_X4_32 rfl (Nat.le_of_ble_eq_true rfl) (Nat.le_of_ble_eq_true rfl) (fun q12 => ?_)
  refine G_dup (pc := 41) M dX4_init_41 rfl ?_
  refine G_initN (pc := 42) (L := [o, q1, q2, q3, q4, q5, q6, q7, q8, q9, q10, q11]) (q := q12) M dX4_init_42 kn_X4_34 (i_X2 D _) (fun _ _ _ h => h) trivial rfl rfl (Nat.le_of_ble_eq_true rfl) (Nat.le_of_ble_eq_true rfl) (Nat.le_of_ble_eq_true rfl) (Nat.le_of_ble_eq_true rfl) (Nat.le_of_ble_eq_true rfl) (fun N hN => ?_)
  have hz12 : N.length = 1 := Nat.succ.inj hN
  clear hN
  obtain ⟨q13, N13, rfl, hz13⟩ := len_s hz12
  obtain rfl := List.eq_nil_of_length_eq_zero hz13
  dsimp only [List.cons_append, List.nil_append, List.set, List.append_assoc]
  refine G_putr (pc := 45) M hi 0 dX4_init_45 fl_X4_35 rfl rfl rfl (Nat.le_of_ble_eq_true rfl) rfl ?_
  dsimp only [List.cons_append, List.nil_append, List.set, List.append_assoc]
  refine G_aload_n (pc := 48) M dX4_init_48 rfl ?_
  refine G_new (pc := 49) (L := [o, q1, q2, q3, q4, q5, q6, q7, q8, q9, q10, q11, q12, q13]) M dX4_init_49 nw_X4_39 rfl (Nat.le_of_ble_eq_true rfl) (Nat.le_of_ble_eq_true rfl) (fun q14 => ?_)
  refine G_dup (pc := 52) M dX4_init_52 rfl ?_
  refine G_initN (pc := 53) (L := [o, q1, q2, q3, q4, q5, q6, q7, q8, q9, q10, q11, q12, q13]) (q := q14) M dX4_init_53 kn_X4_41 (i_X3 D _) (fun _ _ _ h => h) trivial rfl rfl (Nat.le_of_ble_eq_true rfl) (Nat.le_of_ble_eq_true rfl) (Nat.le_of_ble_eq_true rfl) (Nat.le_of_ble_eq_true rfl) (Nat.le_of_ble_eq_true rfl) (fun N hN => ?_)
  have hz14 : N.length = 1 := Nat.succ.inj hN
  clear hN
  obtain ⟨q15, N15, rfl, hz15⟩ := len_s hz14
  obtain rfl := List.eq_nil_of_length_eq_zero hz15
  dsimp only [List.cons_append, List.nil_append, List.set, List.append_assoc]
  refine G_putr (pc := 56) M hi 0 dX4_init_56 fl_X4_42 rfl rfl rfl (Nat.le_of_ble_eq_true rfl) rfl ?_
  dsimp only [List.cons_append, List.nil_append, List.set, List.append_assoc]
  refine G_aload_n (pc := 59) M dX4_init_59 rfl ?_
  refine G_iconst (pc := 60) (v := 2) M dX4_init_60 (by decide +kernel) ?_
  refine G_iconst (pc := 61) (v := 1) M dX4_init_61 (by decide +kernel) ?_
  refine G_iconst (pc := 62) (v := 1) M dX4_init_62 (by decide +kernel) ?_
  refine G_lconst (pc := 63) (v := 0) M dX4_init_63 (by decide +kernel) ?_
  refine G_callv (pc := 64) (ad := pn [o, q1, q2, q3, q4, q5, q6, q7, q8, q9, q10, q11, q12, q13, q14, q15]) (a := 0) M [0, 1, 2, 3, 4, 5, 6, 7, 8, 9, 10, 11, 12, 13, 14, 15] dX4_init_64 mv_X4_46 (c_sRestart D _ (fun j => pn [o, q1, q2, q3, q4, q5, q6, q7, q8, q9, q10, q11, q12, q13, q14, q15] (pn [0, 1, 2, 3, 4, 5, 6, 7, 8, 9, 10, 11, 12, 13, 14, 15] j)) 0 0 0 2 1 1 0 0 0 0 0 (fun _ => 0) (fun _ => 0) 0 (fun _ => 0) (fun _ => 0) (fun _ => 0) 0 (fun _ => 0) (fun _ => 0) (fun _ => 0) 0 (fun _ => 0) (fun _ => 0)) rfl ⟨rfl, rfl, rfl, rfl, rfl, rfl, rfl, rfl, rfl, rfl, rfl, rfl, rfl, rfl, rfl, rfl, trivial⟩ rfl rfl rfl rfl (Nat.le_of_ble_eq_true rfl) (Nat.le_of_ble_eq_true rfl) (Nat.le_of_ble_eq_true rfl) ⟨(Nat.le_of_ble_eq_true rfl), (Nat.le_of_ble_eq_true rfl)⟩ (fun v c1 hq hlen => ?_)
  obtain ⟨rfl, rfl⟩ := hq
  dsimp only [sall, List.set, Option.toList, List.cons_append, List.nil_append]
  exact G_cret (N := [q1, q2, q3, q4, q5, q6, q7, q8, q9, q10, q11, q12, q13, q14, q15]) M hr dX4_init_67 rfl rfl
