--NORM
/-! StreamCounts: begin, add, take -/
abbrev bgX (D : DD) (ad : Nat → Nat) (lev : Int32) (f : Nat → Option Nat) (P : SP) (n k t : Int32) (sd : Int64) : List va_E := scX D ad lev f (n.toNatClampNeg) (k.toNatClampNeg) (t.toNatClampNeg) (sd) (0) (0) (0) (fun _ => 0) (sTg P) (0) (sFt P) (sFk P) (sLd P) (0) (sTt P) (sTq P) (fun _ => 0) (0) (fun _ => -2) (fun _ => 0)
def bgB (s n k t : Int32) : Bool := okS s && rng 2 64 n && rng 1 16 k && okT t
theorem okT_of {t : Int32} (h : okT t = true) : ∃ k : Nat, k < 8 ∧ t = nI k := by
  simp only [okT, Bool.or_eq_true, decide_eq_true_eq] at h
  rcases h with ((h | h) | h) | h
  · exact ⟨1, by omega, h⟩
  · exact ⟨3, by omega, h⟩
  · exact ⟨5, by omega, h⟩
  · exact ⟨7, by omega, h⟩
theorem rng_nat {lo hi x : Int32} {n : Nat} (hl : 0 ≤ lo.toInt) (hh : hi.toInt = n) (h : rng lo hi x = true) : ∃ k : Nat, k ≤ n ∧ x = nI k := by
  simp only [rng, Bool.and_eq_true, Bool.not_eq_true', decide_eq_false_iff_not] at h
  refine nI_of2 hh (fun q => h.1 ?_) (Int32.not_lt.mp h.2)
  have := Int32.lt_iff_toInt_lt.mp q
  rw [Int32.lt_iff_toInt_lt]
  have e0 : (0 : Int32).toInt = 0 := rfl
  omega
theorem c_begin (D : DD) (l : Launch) (ad : Nat → Nat) (lev : Int32) (f : Nat → Option Nat) (P : SP) (s n k t : Int32) (sd : Int64) (hf : okS s = true → f s.toNatClampNeg = some (ad 2)) : Ct D l mi_X6_begin [.ref (ad 0), .int s, .int n, .int k, .int t, .long sd] ad (scW D ad lev f P) (fun v c => v = some (.int (bif bgB s n k t then sAg P else -1)) ∧ c = bif bgB s n k t then bgX D ad lev f P n k t sd else scW D ad lev f P) := by
  refine Ct.of (by decide +kernel) (Nat.le_of_ble_eq_true rfl) (fun X A hX M hr => ?_)
  subst hX
  refine G_iload_n (pc := 0) M dX6_begin_0 rfl ?_
  refine G_calls (pc := 1) M [] dX6_begin_1 ms_X6_20 (c_noStream D _ (fun j => ad (pn [] j)) s) trivial rfl rfl rfl rfl (Nat.le_of_ble_eq_true rfl) (Nat.le_of_ble_eq_true rfl) (Nat.le_of_ble_eq_true rfl) ⟨Nat.zero_le _, Nat.zero_le _⟩ (fun v c1 hq hlen => ?_)
  obtain ⟨rfl, rfl⟩ := hq
  try dsimp only [sall, List.set, Option.toList, List.cons_append, List.nil_append]
  refine G_if_ne (pc := 4) M 18 dX6_begin_4 (by decide) (fun h4 => ?_) (fun h4 => ?_)
  · have hs : okS s = false := by simpa using bz1 h4
    have e5 : bgB s n k t = false := by simp [bgB, hs]
    refine G_iconst (pc := 18) (v := -1) M dX6_begin_18 (by decide +kernel) ?_
    exact G_iret M hr dX6_begin_19 rfl ⟨by rw [e5]; rfl, by rw [e5]; rfl⟩
  · have hs : okS s = true := by simpa using bz0 (b := !okS s) (by simpa using h4)
    refine G_iload_n (pc := 7) M dX6_begin_7 rfl ?_
    refine G_iconst (pc := 8) (v := 2) M dX6_begin_8 (by decide +kernel) ?_
    refine G_icmp_lt (pc := 9) M 18 dX6_begin_9 (by decide) (fun h9 => ?_) (fun h9 => ?_)
    · have e5 : bgB s n k t = false := by simp [bgB, rng_f1 (hi := 64) h9]
      refine G_iconst (pc := 18) (v := -1) M dX6_begin_18 (by decide +kernel) ?_
      exact G_iret M hr dX6_begin_19 rfl ⟨by rw [e5]; rfl, by rw [e5]; rfl⟩
    · refine G_iload_n (pc := 12) M dX6_begin_12 rfl ?_
      refine G_bipush (pc := 13) (v := 64) M dX6_begin_13 (by decide +kernel) ?_
      refine G_icmp_le (pc := 15) M 20 dX6_begin_15 (by decide) (fun h15 => ?_) (fun h15 => ?_)
      · have hn := rng_t h9 h15
        refine G_iload_n (pc := 20) M dX6_begin_20 rfl ?_
        refine G_iconst (pc := 21) (v := 1) M dX6_begin_21 (by decide +kernel) ?_
        refine G_icmp_lt (pc := 22) M 39 dX6_begin_22 (by decide) (fun h22 => ?_) (fun h22 => ?_)
        · have e5 : bgB s n k t = false := by simp [bgB, rng_f1 (hi := 16) h22]
          refine G_iconst (pc := 39) (v := -1) M dX6_begin_39 (by decide +kernel) ?_
          exact G_iret M hr dX6_begin_40 rfl ⟨by rw [e5]; rfl, by rw [e5]; rfl⟩
        · refine G_iload_n (pc := 25) M dX6_begin_25 rfl ?_
          refine G_bipush (pc := 26) (v := 16) M dX6_begin_26 (by decide +kernel) ?_
          refine G_icmp_gt (pc := 28) M 39 dX6_begin_28 (by decide) (fun h28 => ?_) (fun h28 => ?_)
          · have e5 : bgB s n k t = false := by simp [bgB, rng_f2 (lo := 1) (x := k) (Int32.not_le.mpr h28)]
            refine G_iconst (pc := 39) (v := -1) M dX6_begin_39 (by decide +kernel) ?_
            exact G_iret M hr dX6_begin_40 rfl ⟨by rw [e5]; rfl, by rw [e5]; rfl⟩
          · have hk := rng_t h22 (Int32.not_lt.mp h28)
            refine G_iload (pc := 31) M dX6_begin_31 rfl ?_
            refine G_calls (pc := 33) M [] dX6_begin_33 ms_X6_24 (c_isStretch D _ (fun j => ad (pn [] j)) t) trivial rfl rfl rfl rfl (Nat.le_of_ble_eq_true rfl) (Nat.le_of_ble_eq_true rfl) (Nat.le_of_ble_eq_true rfl) ⟨Nat.zero_le _, Nat.zero_le _⟩ (fun v c1 hq hlen => ?_)
            obtain ⟨rfl, rfl⟩ := hq
            try dsimp only [sall, List.set, Option.toList, List.cons_append, List.nil_append]
            refine G_if_ne (pc := 36) M 41 dX6_begin_36 (by decide) (fun h36 => ?_) (fun h36 => ?_)
            · have ht := bz1 h36
              have e5 : bgB s n k t = true := by simp [bgB, hs, hn, hk, ht]
              obtain ⟨n1, hn1, rfl⟩ := rng_nat (n := 64) (by decide) rfl hn
              obtain ⟨k1, hk1, rfl⟩ := rng_nat (n := 16) (by decide) rfl hk
              obtain ⟨t1, ht1, rfl⟩ := okT_of ht
              rw [e5, bgX, cl_nI (n := n1) (by omega), cl_nI (n := k1) (by omega), cl_nI (n := t1) (by omega)]
              refine G_aload_n (pc := 41) M dX6_begin_41 rfl ?_
              refine G_getf (pc := 42) M dX6_begin_42 fl_X6_11 rfl (by first | rfl | assumption) ?_
              refine G_iload_n (pc := 45) M dX6_begin_45 rfl ?_
              refine G_aaload (pc := 46) M dX6_begin_46 rfl (vp3 hs) (hf hs) ?_
              refine G_getf (pc := 47) M dX6_begin_47 fl_X6_27 rfl (by first | rfl | assumption) ?_
              refine G_istore (pc := 50) M dX6_begin_50 (Nat.le_of_ble_eq_true rfl) ?_
              refine G_aload_n (pc := 52) M dX6_begin_52 rfl ?_
              refine G_getf (pc := 53) M dX6_begin_53 fl_X6_11 rfl (by first | rfl | assumption) ?_
              refine G_iload_n (pc := 56) M dX6_begin_56 rfl ?_
              refine G_aaload (pc := 57) M dX6_begin_57 rfl (vp3 hs) (hf hs) ?_
              refine G_iload_n (pc := 58) M dX6_begin_58 rfl ?_
              refine G_iload_n (pc := 59) M dX6_begin_59 rfl ?_
              refine G_iload (pc := 60) M dX6_begin_60 rfl ?_
              refine G_lload (pc := 62) M dX6_begin_62 rfl ?_
              refine G_callv (pc := 64) M [2, 3, 4, 5, 6, 7, 8, 9, 10, 11, 12, 13, 14, 15, 16, 17] dX6_begin_64 mv_X6_30 (c_sRestart D _ (fun j => ad (pn [2, 3, 4, 5, 6, 7, 8, 9, 10, 11, 12, 13, 14, 15, 16, 17] j)) (sNn P) (sKk P) (sSt P) n1 k1 t1 (sSd P) sd (sAg P) (sTk P) (sLo P) (sC P) (sTg P) (sFn P) (sFt P) (sFk P) (sLd P) (sZ P) (sTt P) (sTq P) (sNb P) (sPr P) (sMt P) (sS P)) rfl ⟨rfl, rfl, rfl, rfl, rfl, rfl, rfl, rfl, rfl, rfl, rfl, rfl, rfl, rfl, rfl, rfl, trivial⟩ rfl rfl rfl rfl (Nat.le_of_ble_eq_true rfl) (Nat.le_of_ble_eq_true rfl) (Nat.le_of_ble_eq_true rfl) ⟨Nat.zero_le _, Nat.zero_le _⟩ (fun v c1 hq hlen => ?_)
              obtain ⟨rfl, rfl⟩ := hq
              try dsimp only [sall, List.set, Option.toList, List.cons_append, List.nil_append]
              refine G_iload (pc := 67) M dX6_begin_67 rfl ?_
              exact G_iret M hr dX6_begin_69 rfl ⟨rfl, rfl⟩
            · have e5 : bgB s n k t = false := by simp [bgB, bz0 (b := okT t) (by simpa using h36)]
              refine G_iconst (pc := 39) (v := -1) M dX6_begin_39 (by decide +kernel) ?_
              exact G_iret M hr dX6_begin_40 rfl ⟨by rw [e5]; rfl, by rw [e5]; rfl⟩
      · have e5 : bgB s n k t = false := by simp [bgB, rng_f2 (lo := 2) h15]
        refine G_iconst (pc := 18) (v := -1) M dX6_begin_18 (by decide +kernel) ?_
        exact G_iret M hr dX6_begin_19 rfl ⟨by rw [e5]; rfl, by rw [e5]; rfl⟩
abbrev adX1 (D : DD) (ad : Nat → Nat) (lev : Int32) (f : Nat → Option Nat) (P : SP) (fu fv : Nat → Nat) (a b : Nat) (ld : Nat → Int32) : List va_E := scX D ad lev f (sNn P) (sKk P) (sSt P) (sSd P) (sAg P + 1) (kT (kC (sC P) (sNn P) (sKk P) (sTk P) a) (sNn P) (sKk P) (kT (sC P) (sNn P) (sKk P) (sTk P) a) b) (kL (kC (sC P) (sNn P) (sKk P) (sTk P) a) (sKk P) (kT (sC P) (sNn P) (sKk P) (sTk P) a) (kL (sC P) (sKk P) (sTk P) (sLo P) a) b) (kC (kC (sC P) (sNn P) (sKk P) (sTk P) a) (sNn P) (sKk P) (kT (sC P) (sNn P) (sKk P) (sTk P) a) b) (sTg P) (facN (sFn P) (obt fu fv (sFn P) (min a b) (max a b) (sFn P))) (facF (sFt P) (sFn P) (obt fu fv (sFn P) (min a b) (max a b) (sFn P)) (sAg P + 1)) (facF (sFk P) (sFn P) (obt fu fv (sFn P) (min a b) (max a b) (sFn P)) (nI (64 * min a b + max a b))) (ld) (sZ P + 1) (upd (sTt P) (sZ P) (sAg P + 1)) (upd (sTq P) (sZ P) (nI (64 * min a b + max a b))) (nbA (sNb P) (min a b) (max a b)) ((bif mtB (sMt P) (min a b) (max a b) then sPr P + 1 else sPr P)) (mtF (sMt P) (min a b) (max a b)) (chgR (sS P) (min a b) (max a b) (arcKey (min a b) (max a b)) 1 (lvK (sSd P) (arcKey (min a b) (max a b)) + 1))
abbrev adX2 (D : DD) (ad : Nat → Nat) (lev : Int32) (f : Nat → Option Nat) (P : SP) (fu fv : Nat → Nat) (a b : Nat) (ld : Nat → Int32) : List va_E := scX D ad lev f (sNn P) (sKk P) (sSt P) (sSd P) (sAg P + 1) (kT (kC (sC P) (sNn P) (sKk P) (sTk P) a) (sNn P) (sKk P) (kT (sC P) (sNn P) (sKk P) (sTk P) a) b) (kL (kC (sC P) (sNn P) (sKk P) (sTk P) a) (sKk P) (kT (sC P) (sNn P) (sKk P) (sTk P) a) (kL (sC P) (sKk P) (sTk P) (sLo P) a) b) (kC (kC (sC P) (sNn P) (sKk P) (sTk P) a) (sNn P) (sKk P) (kT (sC P) (sNn P) (sKk P) (sTk P) a) b) (sTg P) (facN (sFn P) (obt fu fv (sFn P) (min a b) (max a b) (sFn P))) (facF (sFt P) (sFn P) (obt fu fv (sFn P) (min a b) (max a b) (sFn P)) (sAg P + 1)) (facF (sFk P) (sFn P) (obt fu fv (sFn P) (min a b) (max a b) (sFn P)) (nI (64 * min a b + max a b))) (ld) (sZ P) (sTt P) (sTq P) (sNb P) ((bif mtB (sMt P) (min a b) (max a b) then sPr P + 1 else sPr P)) (mtF (sMt P) (min a b) (max a b)) (chgR (sS P) (min a b) (max a b) (arcKey (min a b) (max a b)) 1 (lvK (sSd P) (arcKey (min a b) (max a b)) + 1))
def adB (P : SP) (a b : Nat) : Prop := dst (sNb P) (sNn P) (max a b) (sSt P + 1) 0 (one (min a b)) (one (min a b)) = -2
abbrev arB (nd : Nat → Int32) (s a b : Int32) : Bool := okN nd s a && okN nd s b && !decide (a = b)
theorem c_add (D : DD) (l : Launch) (ad : Nat → Nat) (lev : Int32) (f : Nat → Option Nat) (P : SP) (nd : Nat → Int32) (s a b : Int32) (fu fv : Nat → Nat) (hf : okS s = true → f s.toNatClampNeg = some (ad 2)) (hnd : nd s.toNatClampNeg = nI (sNn P)) (hn : sNn P ≤ 64) (hst : sSt P ≤ 64) (hfn : sFn P < 64) (hz : sZ P < 512) (hK : fArc (sFn P) (sFk P) fu fv) : Ct D l mi_X6_add [.ref (ad 0), .int s, .int a, .int b] ad (scW D ad lev f P) (fun v c => v = some (.int (bif arB nd s a b then sAg P + 1 else -1)) ∧ ∃ ld, (arB nd s a b = false ∧ c = scW D ad lev f P) ∨ (arB nd s a b = true ∧ adB P a.toNatClampNeg b.toNatClampNeg ∧ c = adX1 D ad lev f P fu fv a.toNatClampNeg b.toNatClampNeg ld) ∨ (arB nd s a b = true ∧ ¬ adB P a.toNatClampNeg b.toNatClampNeg ∧ c = adX2 D ad lev f P fu fv a.toNatClampNeg b.toNatClampNeg ld)) := by
  refine Ct.of (by decide +kernel) (Nat.le_of_ble_eq_true rfl) (fun X A hX M hr => ?_)
  subst hX
  refine G_aload_n (pc := 0) M dX6_add_0 rfl ?_
  refine G_iload_n (pc := 1) M dX6_add_1 rfl ?_
  refine G_iload_n (pc := 2) M dX6_add_2 rfl ?_
  refine G_iload_n (pc := 3) M dX6_add_3 rfl ?_
  refine G_callv (pc := 4) M [0, 1, 2] dX6_add_4 mv_X6_34 (c_noArc D _ (fun j => ad (pn [0, 1, 2] j)) _ _ f nd s a b rfl hf (by rw [hnd]; rfl)) rfl ⟨rfl, rfl, rfl, trivial⟩ rfl rfl rfl rfl (Nat.le_of_ble_eq_true rfl) (Nat.le_of_ble_eq_true rfl) (Nat.le_of_ble_eq_true rfl) ⟨Nat.zero_le _, Nat.zero_le _⟩ (fun v c1 hq hlen => ?_)
  obtain ⟨rfl, rfl⟩ := hq
  try dsimp only [sall, List.set, Option.toList, List.cons_append, List.nil_append]
  refine G_if_eq (pc := 7) M 12 dX6_add_7 (by decide) (fun h7 => ?_) (fun h7 => ?_)
  · have e5 : arB nd s a b = true := by simpa using bz0 (b := !arB nd s a b) h7
    have h6b : okN nd s a = true := by have := e5; simp only [arB, Bool.and_eq_true] at this; exact this.1.1
    have h15b : okN nd s b = true := by have := e5; simp only [arB, Bool.and_eq_true] at this; exact this.1.2
    have hs := okN_s h6b
    rw [e5]
    obtain ⟨i, k, -, -, hk, rfl⟩ := okN_of h6b hnd hn
    obtain ⟨i2, k2, -, -, hk2, rfl⟩ := okN_of h15b hnd hn
    rw [cl_nI (n := k) (by omega), cl_nI (n := k2) (by omega)]
    refine G_aload_n (pc := 12) M dX6_add_12 rfl ?_
    refine G_getf (pc := 13) M dX6_add_13 fl_X6_11 rfl (by first | rfl | assumption) ?_
    refine G_iload_n (pc := 16) M dX6_add_16 rfl ?_
    refine G_aaload (pc := 17) M dX6_add_17 rfl (vp3 hs) (hf hs) ?_
    refine G_iload_n (pc := 18) M dX6_add_18 rfl ?_
    refine G_iload_n (pc := 19) M dX6_add_19 rfl ?_
    refine G_callv (pc := 20) M [2, 3, 4, 5, 6, 7, 8, 9, 10, 11, 12, 13, 14, 15, 16, 17] dX6_add_20 mv_X6_38 (c_sAccept D _ (fun j => ad (pn [2, 3, 4, 5, 6, 7, 8, 9, 10, 11, 12, 13, 14, 15, 16, 17] j)) (sNn P) (sKk P) (sSt P) (sSd P) (sAg P) (sTk P) (sLo P) (sC P) (sTg P) (sFn P) (sFt P) (sFk P) (sLd P) (sZ P) (sTt P) (sTq P) (sNb P) (sPr P) (sMt P) (sS P) k k2 fu fv hn hst (by omega) (by omega) hfn hz hK) rfl ⟨rfl, rfl, rfl, rfl, rfl, rfl, rfl, rfl, rfl, rfl, rfl, rfl, rfl, rfl, rfl, rfl, trivial⟩ rfl rfl rfl rfl (Nat.le_of_ble_eq_true rfl) (Nat.le_of_ble_eq_true rfl) (Nat.le_of_ble_eq_true rfl) ⟨Nat.zero_le _, Nat.zero_le _⟩ (fun v c1 hq hlen => ?_)
    obtain ⟨rfl, ld, rfl⟩ := hq
    try dsimp only [sall, List.set, Option.toList, List.cons_append, List.nil_append]
    by_cases hd : dst (sNb P) (sNn P) (max k k2) (sSt P + 1) 0 (one (min k k2)) (one (min k k2)) = -2
    · rw [if_pos hd]
      try dsimp only [sall, List.set]
      exact G_iret M hr dX6_add_23 rfl ⟨rfl, ld, Or.inr (Or.inl ⟨rfl, hd, rfl⟩)⟩
    rw [if_neg hd]
    try dsimp only [sall, List.set]
    exact G_iret M hr dX6_add_23 rfl ⟨rfl, ld, Or.inr (Or.inr ⟨rfl, hd, rfl⟩)⟩
  · have e5 : arB nd s a b = false := by simpa only [Bool.not_eq_true'] using bz1 (b := !arB nd s a b) h7
    rw [e5]
    refine G_iconst (pc := 10) (v := -1) M dX6_add_10 (by decide +kernel) ?_
    exact G_iret M hr dX6_add_11 rfl ⟨rfl, sLd P, Or.inl ⟨rfl, rfl⟩⟩
