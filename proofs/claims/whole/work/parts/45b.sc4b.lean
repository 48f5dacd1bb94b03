--NORM
abbrev tkX (D : DD) (ad : Nat → Nat) (lev : Int32) (f : Nat → Option Nat) (P : SP) (a b : Nat) : List va_E := scX D ad lev f (sNn P) (sKk P) (sSt P) (sSd P) (sAg P) (sTk P) (sLo P) (sC P) (sTg P) (sFn P) (sFt P) (sFk P) (sLd P) (sZ P) (sTt P) (sTq P) (sNb P) (sPr P) (sMt P) (chgR (sS P) (min a b) (max a b) (arcKey (min a b) (max a b)) (-1) (lvK (sSd P) (arcKey (min a b) (max a b)) + 1))
theorem m1L : (-1 : Int32).toInt64 = -1 := by decide
theorem negm1 : (-(-1 : Int32)).toInt64 = -(-1 : Int32).toInt64 := by decide
theorem c_take (D : DD) (l : Launch) (ad : Nat → Nat) (lev : Int32) (f : Nat → Option Nat) (P : SP) (nd : Nat → Int32) (s a b : Int32) (hf : okS s = true → f s.toNatClampNeg = some (ad 2)) (hnd : nd s.toNatClampNeg = nI (sNn P)) (hn : sNn P ≤ 64) : Ct D l mi_X6_take [.ref (ad 0), .int s, .int a, .int b] ad (scW D ad lev f P) (fun v c => v = some (.int (bif arB nd s a b then nI (lvK (sSd P) (arcKey (min a.toNatClampNeg b.toNatClampNeg) (max a.toNatClampNeg b.toNatClampNeg))) else -1)) ∧ c = bif arB nd s a b then tkX D ad lev f P a.toNatClampNeg b.toNatClampNeg else scW D ad lev f P) := by
  refine Ct.of (by decide +kernel) (Nat.le_of_ble_eq_true rfl) (fun X A hX M hr => ?_)
  subst hX
  refine G_aload_n (pc := 0) M dX6_take_0 rfl ?_
  refine G_iload_n (pc := 1) M dX6_take_1 rfl ?_
  refine G_iload_n (pc := 2) M dX6_take_2 rfl ?_
  refine G_iload_n (pc := 3) M dX6_take_3 rfl ?_
  refine G_callv (pc := 4) M [0, 1, 2] dX6_take_4 mv_X6_34 (c_noArc D _ (fun j => ad (pn [0, 1, 2] j)) _ _ f nd s a b rfl hf (by rw [hnd]; rfl)) rfl ⟨rfl, rfl, rfl, trivial⟩ rfl rfl rfl rfl (Nat.le_of_ble_eq_true rfl) (Nat.le_of_ble_eq_true rfl) (Nat.le_of_ble_eq_true rfl) ⟨Nat.zero_le _, Nat.zero_le _⟩ (fun v c1 hq hlen => ?_)
  obtain ⟨rfl, rfl⟩ := hq
  try dsimp only [sall, List.set, Option.toList, List.cons_append, List.nil_append]
  refine G_if_eq (pc := 7) M 12 dX6_take_7 (by decide) (fun h7 => ?_) (fun h7 => ?_)
  · have e5 : arB nd s a b = true := by simpa using bz0 (b := !arB nd s a b) h7
    have h6b : okN nd s a = true := by have := e5; simp only [arB, Bool.and_eq_true] at this; exact this.1.1
    have h15b : okN nd s b = true := by have := e5; simp only [arB, Bool.and_eq_true] at this; exact this.1.2
    have hs := okN_s h6b
    rw [e5]
    obtain ⟨i, k, -, -, hk, rfl⟩ := okN_of h6b hnd hn
    obtain ⟨i2, k2, -, -, hk2, rfl⟩ := okN_of h15b hnd hn
    rw [cl_nI (n := k) (by omega), cl_nI (n := k2) (by omega)]
    simp only [cond_true, tkX]
    refine G_aload_n (pc := 12) M dX6_take_12 rfl ?_
    refine G_getf (pc := 13) M dX6_take_13 fl_X6_11 rfl (by first | rfl | assumption) ?_
    refine G_iload_n (pc := 16) M dX6_take_16 rfl ?_
    refine G_aaload (pc := 17) M dX6_take_17 rfl (vp3 hs) (hf hs) ?_
    refine G_getr (pc := 18) M dX6_take_18 fl_X6_42 rfl (by first | rfl | assumption) ?_
    refine G_iload_n (pc := 21) M dX6_take_21 rfl ?_
    refine G_iload_n (pc := 22) M dX6_take_22 rfl ?_
    refine G_mmin (pc := 23) M dX6_take_23 mm_X6_46 rfl (Nat.le_of_ble_eq_true rfl) (Nat.le_of_ble_eq_true rfl) (Nat.zero_le _) (Nat.zero_le _) ?_
    rw [mn_nI (by omega) (by omega)]
    refine G_iload_n (pc := 26) M dX6_take_26 rfl ?_
    refine G_iload_n (pc := 27) M dX6_take_27 rfl ?_
    refine G_mmax (pc := 28) M dX6_take_28 mm_X6_51 rfl (Nat.le_of_ble_eq_true rfl) (Nat.le_of_ble_eq_true rfl) (Nat.zero_le _) (Nat.zero_le _) ?_
    rw [mx_nI (by omega) (by omega)]
    refine G_iconst (pc := 31) (v := -1) M dX6_take_31 (by decide +kernel) ?_
    refine G_callv (pc := 32) M [16, 17] dX6_take_32 mv_X6_54 (c_changeC D _ (fun j => ad (pn [16, 17] j)) (sNn P) (sSd P) (sS P) (min k k2) (max k k2) (-1) negm1 (by omega) (by omega)) rfl ⟨rfl, rfl, trivial⟩ rfl rfl rfl rfl (Nat.le_of_ble_eq_true rfl) (Nat.le_of_ble_eq_true rfl) (Nat.le_of_ble_eq_true rfl) ⟨Nat.zero_le _, Nat.zero_le _⟩ (fun v c1 hq hlen => ?_)
    obtain ⟨rfl, rfl⟩ := hq
    try dsimp only [sall, List.set, Option.toList, List.cons_append, List.nil_append]
    rw [m1L]
    generalize lvK (sSd P) (arcKey (min k k2) (max k k2)) = L
    generalize chgR (sS P) (min k k2) (max k k2) (arcKey (min k k2) (max k k2)) (-1) (L + 1) = Z
    exact G_iret M hr dX6_take_35 (Eq.trans (b := 18) rfl rfl) ⟨rfl, rfl⟩
  · have e5 : arB nd s a b = false := by simpa only [Bool.not_eq_true'] using bz1 (b := !arB nd s a b) h7
    rw [e5]
    refine G_iconst (pc := 10) (v := -1) M dX6_take_10 (by decide +kernel) ?_
    exact G_iret M hr dX6_take_11 rfl ⟨rfl, rfl⟩
