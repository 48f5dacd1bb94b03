/-! leaves: static methods without cells -/
def bz (b : Bool) : Int32 := bif b then 1 else 0
theorem bz_nar (b : Bool) : narrow .boolean (.int (bz b)) = .int (bz b) := by cases b <;> rfl
/-- the bit that holds(set, node) looks at -/
def hb (set : Int64) (node : Int32) : Bool := decide (((set.toUInt64 >>> (node.toInt64.toUInt64 &&& Int64.toUInt64 63)).toInt64 &&& 1) = 1)
theorem c_holds (D : DD) (l : Launch) (ad : Nat → Nat) (set : Int64) (node : Int32) : Ct D l mi_X6_holds [.long set, .int node] ad [] (fun v c => v = some (.int (bz (hb set node))) ∧ c = []) := by
  refine Ct.of (by decide +kernel) (Nat.le_of_ble_eq_true rfl) (fun X A hX M hr => ?_)
  subst hX
  refine G_lload_n (pc := 0) M dX6_holds_0 rfl ?_
  refine G_iload_n (pc := 1) M dX6_holds_1 rfl ?_
  refine G_lushr (pc := 2) M dX6_holds_2 ?_
  refine G_lconst (pc := 3) (v := 1) M dX6_holds_3 (by decide +kernel) ?_
  refine G_land (pc := 4) M dX6_holds_4 ?_
  refine G_lconst (pc := 5) (v := 1) M dX6_holds_5 (by decide +kernel) ?_
  refine G_lcmp (pc := 6) M dX6_holds_6 ?_
  refine G_if_ne (pc := 7) M 14 dX6_holds_7 (by decide) (fun h => ?_) (fun h => ?_)
  · refine G_iconst (pc := 14) (v := 0) M dX6_holds_14 (by decide +kernel) ?_
    have e : hb set node = false := decide_eq_false (fun q => h ((lg_cmp_eq _ _).mpr q))
    exact G_zret M hr dX6_holds_15 rfl rfl ⟨by rw [e]; rfl, rfl⟩
  · refine G_iconst (pc := 10) (v := 1) M dX6_holds_10 (by decide +kernel) ?_
    refine G_goto (pc := 11) M 15 dX6_holds_11 (by decide) ?_
    have e : hb set node = true := decide_eq_true ((lg_cmp_eq _ _).mp h)
    exact G_zret M hr dX6_holds_15 rfl rfl ⟨by rw [e]; rfl, rfl⟩
theorem c_keyOf (D : DD) (l : Launch) (ad : Nat → Nat) (x y : Int32) : Ct D l mi_X6_keyOf [.int x, .int y] ad [] (fun v c => v = some (.int (64 * x + y)) ∧ c = []) := by
  refine Ct.of (by decide +kernel) (Nat.le_of_ble_eq_true rfl) (fun X A hX M hr => ?_)
  subst hX
  refine G_bipush (pc := 0) (v := 64) M dX6_keyOf_0 (by decide +kernel) ?_
  refine G_iload_n (pc := 2) M dX6_keyOf_2 rfl ?_
  refine G_imul (pc := 3) M dX6_keyOf_3 ?_
  refine G_iload_n (pc := 4) M dX6_keyOf_4 rfl ?_
  refine G_iadd (pc := 5) M dX6_keyOf_5 ?_
  exact G_iret M hr dX6_keyOf_6 rfl ⟨rfl, rfl⟩
theorem c_lesserNode (D : DD) (l : Launch) (ad : Nat → Nat) (x : Int32) : Ct D l mi_X6_lesserNode [.int x] ad [] (fun v c => v = some (.int (x / 64)) ∧ c = []) := by
  refine Ct.of (by decide +kernel) (Nat.le_of_ble_eq_true rfl) (fun X A hX M hr => ?_)
  subst hX
  refine G_iload_n (pc := 0) M dX6_lesserNode_0 rfl ?_
  refine G_bipush (pc := 1) (v := 64) M dX6_lesserNode_1 (by decide +kernel) ?_
  refine G_idiv (pc := 3) M dX6_lesserNode_3 (by decide +kernel) ?_
  exact G_iret M hr dX6_lesserNode_4 rfl ⟨rfl, rfl⟩
theorem c_greaterNode (D : DD) (l : Launch) (ad : Nat → Nat) (x : Int32) : Ct D l mi_X6_greaterNode [.int x] ad [] (fun v c => v = some (.int (x - x / 64 * 64)) ∧ c = []) := by
  refine Ct.of (by decide +kernel) (Nat.le_of_ble_eq_true rfl) (fun X A hX M hr => ?_)
  subst hX
  refine G_iload_n (pc := 0) M dX6_greaterNode_0 rfl ?_
  refine G_bipush (pc := 1) (v := 64) M dX6_greaterNode_1 (by decide +kernel) ?_
  refine G_irem (pc := 3) M dX6_greaterNode_3 (by decide +kernel) ?_
  exact G_iret M hr dX6_greaterNode_4 rfl ⟨rfl, rfl⟩
theorem c_placeOf (D : DD) (l : Launch) (ad : Nat → Nat) (x y : Int32) : Ct D l mi_X3_placeOf [.int x, .int y] ad [] (fun v c => v = some (.int ((x * 10 + y) * 3)) ∧ c = []) := by
  refine Ct.of (by decide +kernel) (Nat.le_of_ble_eq_true rfl) (fun X A hX M hr => ?_)
  subst hX
  refine G_iload_n (pc := 0) M dX3_placeOf_0 rfl ?_
  refine G_bipush (pc := 1) (v := 10) M dX3_placeOf_1 (by decide +kernel) ?_
  refine G_imul (pc := 3) M dX3_placeOf_3 ?_
  refine G_iload_n (pc := 4) M dX3_placeOf_4 rfl ?_
  refine G_iadd (pc := 5) M dX3_placeOf_5 ?_
  refine G_iconst (pc := 6) (v := 3) M dX3_placeOf_6 (by decide +kernel) ?_
  refine G_imul (pc := 7) M dX3_placeOf_7 ?_
  exact G_iret M hr dX3_placeOf_8 rfl ⟨rfl, rfl⟩
