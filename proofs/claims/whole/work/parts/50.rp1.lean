--NORM
/-! the reference's calls that only read -/
abbrev rfO (ad : Nat → Nat) (lev : Int32) : va_E := ob 7 [.ref (ad 1), .ref (ad 2), .ref (ad 3), .ref (ad 4), .ref (ad 5), .ref (ad 6), .ref (ad 7), .ref (ad 8), .ref (ad 9), .ref (ad 10), .ref (ad 11), .ref (ad 12), .ref (ad 13), .int lev, .ref (ad 14), .ref (ad 15), .ref (ad 16)]
abbrev rfW (D : DD) (ad : Nat → Nat) (nd : Nat → Int32) (sl : Nat → Int32) (sr : Nat → Int32) (sd : Nat → Int64) (ag : Nat → Int32) (lo : Nat → Int32) (lw : Nat → Int32) (hg : Nat → Int32) (ct : Nat → Int32) (mt : Nat → Int32) (sm : Nat → Int64) (th : Nat → Int32) (tn : Nat → Int32) (lev : Int32) (le : Nat → Int32) (jo : Nat → Int32) (wy : Nat → Int32) : List va_E := [rfO ad lev, ia D 3 nd, ia D 3 sl, ia D 3 sr, la D 3 sd, ia D 3 ag, ia D 3 lo, ia D 12600 lw, ia D 12600 hg, ia D 192 ct, ia D 192 mt, la D 5760 sm, ia D 12600 th, ia D 3 tn, ia D 64 le, za D 4200 jo, ia D 64 wy]
theorem r_mate (D : DD) (l : Launch) (ad : Nat → Nat) (nd : Nat → Int32) (sl : Nat → Int32) (sr : Nat → Int32) (sd : Nat → Int64) (ag : Nat → Int32) (lo : Nat → Int32) (lw : Nat → Int32) (hg : Nat → Int32) (ct : Nat → Int32) (mt : Nat → Int32) (sm : Nat → Int64) (th : Nat → Int32) (tn : Nat → Int32) (lev : Int32) (le : Nat → Int32) (jo : Nat → Int32) (wy : Nat → Int32) (s a : Int32) (nn : Nat) (hnd : okS s = true → nd s.toNatClampNeg = nI nn) (hn : nn ≤ 64) : Ct D l mi_X7_mate [.ref (ad 0), .int s, .int a] ad (rfW D ad nd sl sr sd ag lo lw hg ct mt sm th tn lev le jo wy) (fun v c => v = some (.int (bif okN nd s a then (if mt (64 * s.toNatClampNeg + a.toNatClampNeg) = 0 then -2 else mt (64 * s.toNatClampNeg + a.toNatClampNeg) - 1) else -1)) ∧ c = rfW D ad nd sl sr sd ag lo lw hg ct mt sm th tn lev le jo wy) := by
  refine Ct.of (by decide +kernel) (Nat.le_of_ble_eq_true rfl) (fun X A hX M hr => ?_)
  subst hX
  refine G_aload_n (pc := 0) M dX7_mate_0 rfl ?_
  refine G_iload_n (pc := 1) M dX7_mate_1 rfl ?_
  refine G_iload_n (pc := 2) M dX7_mate_2 rfl ?_
  refine G_callv (pc := 3) M [0, 1] dX7_mate_3 mv_X7_76 (c_isNode D _ (fun j => ad (pn [0, 1] j)) _ nd s a rfl) rfl ⟨rfl, rfl, trivial⟩ rfl rfl rfl rfl (Nat.le_of_ble_eq_true rfl) (Nat.le_of_ble_eq_true rfl) (Nat.le_of_ble_eq_true rfl) ⟨Nat.zero_le _, Nat.zero_le _⟩ (fun v c1 hq hlen => ?_)
  obtain ⟨rfl, rfl⟩ := hq
  try dsimp only [sall, List.set, Option.toList, List.cons_append, List.nil_append]
  refine G_if_ne (pc := 6) M 11 dX7_mate_6 (by decide) (fun h6 => ?_) (fun h6 => ?_)
  · have h6b := bz1 h6
    obtain ⟨i, k, hi, rfl, hk, rfl⟩ := okN_of h6b (hnd (okN_s h6b)) hn
    rw [h6b, cl_nI (n := i) (by omega), cl_nI (n := k) (by omega)]
    refine G_aload_n (pc := 11) M dX7_mate_11 rfl ?_
    refine G_getf (pc := 12) M dX7_mate_12 fl_X7_38 rfl (by first | rfl | assumption) ?_
    refine G_bipush (pc := 15) (v := 64) M dX7_mate_15 (by decide +kernel) ?_
    refine G_iload_n (pc := 17) M dX7_mate_17 rfl ?_
    refine G_imul (pc := 18) M dX7_mate_18 ?_
    refine G_iload_n (pc := 19) M dX7_mate_19 rfl ?_
    refine G_iadd (pc := 20) M dX7_mate_20 ?_
    rw [ixA]
    refine G_iaload (pc := 21) M dX7_mate_21 rfl (by first | assumption | exact vp_in_nI (by omega) (by omega)) ?_
    rw [cl_nI (by omega)]
    refine G_if_ne (pc := 22) M 30 dX7_mate_22 (by decide) (fun h22 => ?_) (fun h22 => ?_)
    · have e5 : (if mt (64 * i + k) = 0 then (-2 : Int32) else mt (64 * i + k) - 1) = mt (64 * i + k) - 1 := if_neg h22
      refine G_aload_n (pc := 30) M dX7_mate_30 rfl ?_
      refine G_getf (pc := 31) M dX7_mate_31 fl_X7_38 rfl (by first | rfl | assumption) ?_
      refine G_bipush (pc := 34) (v := 64) M dX7_mate_34 (by decide +kernel) ?_
      refine G_iload_n (pc := 36) M dX7_mate_36 rfl ?_
      refine G_imul (pc := 37) M dX7_mate_37 ?_
      refine G_iload_n (pc := 38) M dX7_mate_38 rfl ?_
      refine G_iadd (pc := 39) M dX7_mate_39 ?_
      rw [ixA]
      refine G_iaload (pc := 40) M dX7_mate_40 rfl (by first | assumption | exact vp_in_nI (by omega) (by omega)) ?_
      rw [cl_nI (by omega)]
      refine G_iconst (pc := 41) (v := 1) M dX7_mate_41 (by decide +kernel) ?_
      refine G_isub (pc := 42) M dX7_mate_42 ?_
      exact G_iret M hr dX7_mate_43 rfl ⟨by rw [cond_true, e5], rfl⟩
    · have e5 : (if mt (64 * i + k) = 0 then (-2 : Int32) else mt (64 * i + k) - 1) = -2 := if_pos (by simpa using h22)
      refine G_bipush (pc := 25) (v := -2) M dX7_mate_25 (by decide +kernel) ?_
      refine G_goto (pc := 27) M 43 dX7_mate_27 (by decide) ?_
      exact G_iret M hr dX7_mate_43 rfl ⟨by rw [cond_true, e5], rfl⟩
  · have h6b := bz0 (b := okN nd s a) (by simpa using h6)
    rw [h6b]
    refine G_iconst (pc := 9) (v := -1) M dX7_mate_9 (by decide +kernel) ?_
    exact G_iret M hr dX7_mate_10 rfl ⟨rfl, rfl⟩
theorem r_span (D : DD) (l : Launch) (ad : Nat → Nat) (nd : Nat → Int32) (sl : Nat → Int32) (sr : Nat → Int32) (sd : Nat → Int64) (ag : Nat → Int32) (lo : Nat → Int32) (lw : Nat → Int32) (hg : Nat → Int32) (ct : Nat → Int32) (mt : Nat → Int32) (sm : Nat → Int64) (th : Nat → Int32) (tn : Nat → Int32) (lev : Int32) (le : Nat → Int32) (jo : Nat → Int32) (wy : Nat → Int32) (s a e : Int32) (nn : Nat) (hnd : okS s = true → nd s.toNatClampNeg = nI nn) (hn : nn ≤ 64) : Ct D l mi_X7_span [.ref (ad 0), .int s, .int a, .int e] ad (rfW D ad nd sl sr sd ag lo lw hg ct mt sm th tn lev le jo wy) (fun v c => v = some (.int (bif okN nd s a && rng 0 1 e then ct (64 * s.toNatClampNeg + a.toNatClampNeg) + (if e = 1 then lo s.toNatClampNeg else 0) else -1)) ∧ c = rfW D ad nd sl sr sd ag lo lw hg ct mt sm th tn lev le jo wy) := by
  refine Ct.of (by decide +kernel) (Nat.le_of_ble_eq_true rfl) (fun X A hX M hr => ?_)
  subst hX
  refine G_aload_n (pc := 0) M dX7_span_0 rfl ?_
  refine G_iload_n (pc := 1) M dX7_span_1 rfl ?_
  refine G_iload_n (pc := 2) M dX7_span_2 rfl ?_
  refine G_callv (pc := 3) M [0, 1] dX7_span_3 mv_X7_76 (c_isNode D _ (fun j => ad (pn [0, 1] j)) _ nd s a rfl) rfl ⟨rfl, rfl, trivial⟩ rfl rfl rfl rfl (Nat.le_of_ble_eq_true rfl) (Nat.le_of_ble_eq_true rfl) (Nat.le_of_ble_eq_true rfl) ⟨Nat.zero_le _, Nat.zero_le _⟩ (fun v c1 hq hlen => ?_)
  obtain ⟨rfl, rfl⟩ := hq
  try dsimp only [sall, List.set, Option.toList, List.cons_append, List.nil_append]
  refine G_if_eq (pc := 6) M 18 dX7_span_6 (by decide) (fun h6 => ?_) (fun h6 => ?_)
  · have h6b := bz0 h6
    rw [h6b]
    refine G_iconst (pc := 18) (v := -1) M dX7_span_18 (by decide +kernel) ?_
    exact G_iret M hr dX7_span_19 rfl ⟨rfl, rfl⟩
  · have h6b := bz1 h6
    obtain ⟨i, k, hi, rfl, hk, rfl⟩ := okN_of h6b (hnd (okN_s h6b)) hn
    rw [h6b, cl_nI (n := i) (by omega), cl_nI (n := k) (by omega)]
    refine G_iload_n (pc := 9) M dX7_span_9 rfl ?_
    refine G_if_lt (pc := 10) M 18 dX7_span_10 (by decide) (fun h10 => ?_) (fun h10 => ?_)
    · rw [rng_f1 h10]
      refine G_iconst (pc := 18) (v := -1) M dX7_span_18 (by decide +kernel) ?_
      exact G_iret M hr dX7_span_19 rfl ⟨rfl, rfl⟩
    · refine G_iload_n (pc := 13) M dX7_span_13 rfl ?_
      refine G_iconst (pc := 14) (v := 1) M dX7_span_14 (by decide +kernel) ?_
      refine G_icmp_le (pc := 15) M 20 dX7_span_15 (by decide) (fun h15 => ?_) (fun h15 => ?_)
      · rw [rng_t h10 h15]
        refine G_aload_n (pc := 20) M dX7_span_20 rfl ?_
        refine G_getf (pc := 21) M dX7_span_21 fl_X7_35 rfl (by first | rfl | assumption) ?_
        refine G_bipush (pc := 24) (v := 64) M dX7_span_24 (by decide +kernel) ?_
        refine G_iload_n (pc := 26) M dX7_span_26 rfl ?_
        refine G_imul (pc := 27) M dX7_span_27 ?_
        refine G_iload_n (pc := 28) M dX7_span_28 rfl ?_
        refine G_iadd (pc := 29) M dX7_span_29 ?_
        rw [ixA]
        refine G_iaload (pc := 30) M dX7_span_30 rfl (by first | assumption | exact vp_in_nI (by omega) (by omega)) ?_
        rw [cl_nI (by omega)]
        refine G_iload_n (pc := 31) M dX7_span_31 rfl ?_
        refine G_iconst (pc := 32) (v := 1) M dX7_span_32 (by decide +kernel) ?_
        refine G_icmp_ne (pc := 33) M 45 dX7_span_33 (by decide) (fun h33 => ?_) (fun h33 => ?_)
        · rw [if_neg h33]
          refine G_iconst (pc := 45) (v := 0) M dX7_span_45 (by decide +kernel) ?_
          refine G_iadd (pc := 46) M dX7_span_46 ?_
          exact G_iret M hr dX7_span_47 rfl ⟨rfl, rfl⟩
        · rw [if_pos (by simpa using h33)]
          refine G_aload_n (pc := 36) M dX7_span_36 rfl ?_
          refine G_getf (pc := 37) M dX7_span_37 fl_X7_26 rfl (by first | rfl | assumption) ?_
          refine G_iload_n (pc := 40) M dX7_span_40 rfl ?_
          refine G_iaload (pc := 41) M dX7_span_41 rfl (by first | assumption | exact vp_in_nI (by omega) (by omega)) ?_
          rw [cl_nI (by omega)]
          refine G_goto (pc := 42) M 46 dX7_span_42 (by decide) ?_
          refine G_iadd (pc := 46) M dX7_span_46 ?_
          exact G_iret M hr dX7_span_47 rfl ⟨rfl, rfl⟩
      · rw [rng_f2 h15]
        refine G_iconst (pc := 18) (v := -1) M dX7_span_18 (by decide +kernel) ?_
        exact G_iret M hr dX7_span_19 rfl ⟨rfl, rfl⟩
def slotR (f : Nat → Int32) (i w : Int32) : Int32 := if rng 0 1 w = true ∧ ¬ i < 0 ∧ i < nI (cntP f 64) then (if w = 0 then nI (rnk f i.toNatClampNeg 64) else f (rnk f i.toNatClampNeg 64)) else -1
theorem rnk_lt (f : Nat → Int32) (p : Nat) : ∀ m, m ≤ 64 → rnk f p m < 64
  | 0, _ => by simp [rnk]
  | m + 1, h => by
    have := rnk_lt f p m (by omega)
    simp only [rnk]
    split <;> omega
theorem r_slot (D : DD) (l : Launch) (ad : Nat → Nat) (nd : Nat → Int32) (sl : Nat → Int32) (sr : Nat → Int32) (sd : Nat → Int64) (ag : Nat → Int32) (lo : Nat → Int32) (lw : Nat → Int32) (hg : Nat → Int32) (ct : Nat → Int32) (mt : Nat → Int32) (sm : Nat → Int64) (th : Nat → Int32) (tn : Nat → Int32) (lev : Int32) (le : Nat → Int32) (jo : Nat → Int32) (wy : Nat → Int32) (s i w : Int32) : Ct D l mi_X7_slot [.ref (ad 0), .int s, .int i, .int w] ad (rfW D ad nd sl sr sd ag lo lw hg ct mt sm th tn lev le jo wy) (fun v c => v = some (.int (bif okS s then slotR (fun a => ct (64 * s.toNatClampNeg + a)) i w else -1)) ∧ c = rfW D ad nd sl sr sd ag lo lw hg ct mt sm th tn lev le jo wy) := by
  refine Ct.of (by decide +kernel) (Nat.le_of_ble_eq_true rfl) (fun X A hX M hr => ?_)
  subst hX
  refine G_iload_n (pc := 0) M dX7_slot_0 rfl ?_
  refine G_calls (pc := 1) M [] dX7_slot_1 ms_X7_64 (c_isStream D _ (fun j => ad (pn [] j)) s) trivial rfl rfl rfl rfl (Nat.le_of_ble_eq_true rfl) (Nat.le_of_ble_eq_true rfl) (Nat.le_of_ble_eq_true rfl) ⟨Nat.zero_le _, Nat.zero_le _⟩ (fun v c1 hq hlen => ?_)
  obtain ⟨rfl, rfl⟩ := hq
  try dsimp only [sall, List.set, Option.toList, List.cons_append, List.nil_append]
  refine G_if_eq (pc := 4) M 29 dX7_slot_4 (by decide) (fun h4 => ?_) (fun h4 => ?_)
  · rw [bz0 h4]
    refine G_iconst (pc := 29) (v := -1) M dX7_slot_29 (by decide +kernel) ?_
    exact G_iret M hr dX7_slot_30 rfl ⟨by first | rfl | rw [e5]; rfl, rfl⟩
  · have hs := bz1 h4
    rw [hs]
    obtain ⟨si, hsi, rfl⟩ := okS_of hs
    rw [cl_nI (n := si) (by omega)]
    have hcn := cntP_le (fun a => ct (64 * si + a)) 64
    refine G_iload_n (pc := 7) M dX7_slot_7 rfl ?_
    refine G_if_lt (pc := 8) M 29 dX7_slot_8 (by decide) (fun h8 => ?_) (fun h8 => ?_)
    · have e5 : slotR (fun a => ct (64 * si + a)) i w = -1 := if_neg (fun q => by rw [rng_f1 h8] at q; cases q.1)
      refine G_iconst (pc := 29) (v := -1) M dX7_slot_29 (by decide +kernel) ?_
      exact G_iret M hr dX7_slot_30 rfl ⟨by first | rfl | rw [e5]; rfl, rfl⟩
    · refine G_iload_n (pc := 11) M dX7_slot_11 rfl ?_
      refine G_iconst (pc := 12) (v := 1) M dX7_slot_12 (by decide +kernel) ?_
      refine G_icmp_gt (pc := 13) M 29 dX7_slot_13 (by decide) (fun h13 => ?_) (fun h13 => ?_)
      · have e5 : slotR (fun a => ct (64 * si + a)) i w = -1 := if_neg (fun q => by rw [rng_f2 (Int32.not_le.mpr h13)] at q; cases q.1)
        refine G_iconst (pc := 29) (v := -1) M dX7_slot_29 (by decide +kernel) ?_
        exact G_iret M hr dX7_slot_30 rfl ⟨by first | rfl | rw [e5]; rfl, rfl⟩
      · have hw := rng_t h8 (Int32.not_lt.mp h13)
        refine G_iload_n (pc := 16) M dX7_slot_16 rfl ?_
        refine G_if_lt (pc := 17) M 29 dX7_slot_17 (by decide) (fun h17 => ?_) (fun h17 => ?_)
        · have e5 : slotR (fun a => ct (64 * si + a)) i w = -1 := if_neg (fun q => q.2.1 h17)
          refine G_iconst (pc := 29) (v := -1) M dX7_slot_29 (by decide +kernel) ?_
          exact G_iret M hr dX7_slot_30 rfl ⟨by first | rfl | rw [e5]; rfl, rfl⟩
        · refine G_iload_n (pc := 20) M dX7_slot_20 rfl ?_
          refine G_aload_n (pc := 21) M dX7_slot_21 rfl ?_
          refine G_iload_n (pc := 22) M dX7_slot_22 rfl ?_
          refine G_callv (pc := 23) M [0, 9] dX7_slot_23 mv_X7_68 (c_taken D _ (fun j => ad (pn [0, 9] j)) _ ct si hsi rfl) rfl ⟨rfl, rfl, trivial⟩ rfl rfl rfl rfl (Nat.le_of_ble_eq_true rfl) (Nat.le_of_ble_eq_true rfl) (Nat.le_of_ble_eq_true rfl) ⟨Nat.zero_le _, Nat.zero_le _⟩ (fun v c1 hq hlen => ?_)
          obtain ⟨rfl, rfl⟩ := hq
          try dsimp only [sall, List.set, Option.toList, List.cons_append, List.nil_append]
          refine G_icmp_lt (pc := 26) M 31 dX7_slot_26 (by decide) (fun h26 => ?_) (fun h26 => ?_)
          · obtain ⟨p, hp, rfl⟩ := nI_of h17
            have e6 : slotR (fun a => ct (64 * si + a)) (nI p) w = (if w = 0 then nI (rnk (fun a => ct (64 * si + a)) p 64) else ct (64 * si + rnk (fun a => ct (64 * si + a)) p 64)) := by rw [slotR, if_pos ⟨hw, h17, h26⟩, cl_nI hp]
            have hrk := rnk_lt (fun a => ct (64 * si + a)) p 64 (by omega)
            refine G_aload_n (pc := 31) M dX7_slot_31 rfl ?_
            refine G_iload_n (pc := 32) M dX7_slot_32 rfl ?_
            refine G_iload_n (pc := 33) M dX7_slot_33 rfl ?_
            refine G_callv (pc := 34) M [0, 9] dX7_slot_34 mv_X7_109 (c_ranked D _ (fun j => ad (pn [0, 9] j)) _ ct si p hsi hp rfl) rfl ⟨rfl, rfl, trivial⟩ rfl rfl rfl rfl (Nat.le_of_ble_eq_true rfl) (Nat.le_of_ble_eq_true rfl) (Nat.le_of_ble_eq_true rfl) ⟨Nat.zero_le _, Nat.zero_le _⟩ (fun v c1 hq hlen => ?_)
            obtain ⟨rfl, rfl⟩ := hq
            try dsimp only [sall, List.set, Option.toList, List.cons_append, List.nil_append]
            refine G_istore (pc := 37) M dX7_slot_37 (Nat.le_of_ble_eq_true rfl) ?_
            refine G_iload_n (pc := 39) M dX7_slot_39 rfl ?_
            refine G_if_ne (pc := 40) M 48 dX7_slot_40 (by decide) (fun h40 => ?_) (fun h40 => ?_)
            · rw [if_neg h40] at e6
              refine G_aload_n (pc := 48) M dX7_slot_48 rfl ?_
              refine G_getf (pc := 49) M dX7_slot_49 fl_X7_35 rfl (by first | rfl | assumption) ?_
              refine G_bipush (pc := 52) (v := 64) M dX7_slot_52 (by decide +kernel) ?_
              refine G_iload_n (pc := 54) M dX7_slot_54 rfl ?_
              refine G_imul (pc := 55) M dX7_slot_55 ?_
              refine G_iload (pc := 56) M dX7_slot_56 rfl ?_
              refine G_iadd (pc := 58) M dX7_slot_58 ?_
              rw [ixA]
              refine G_iaload (pc := 59) M dX7_slot_59 rfl (by first | assumption | exact vp_in_nI (by omega) (by omega)) ?_
              rw [cl_nI (by omega)]
              exact G_iret M hr dX7_slot_60 rfl ⟨by rw [e6]; rfl, rfl⟩
            · rw [if_pos (by simpa using h40)] at e6
              refine G_iload (pc := 43) M dX7_slot_43 rfl ?_
              refine G_goto (pc := 45) M 60 dX7_slot_45 (by decide) ?_
              exact G_iret M hr dX7_slot_60 rfl ⟨by rw [e6]; rfl, rfl⟩
          · have e5 : slotR (fun a => ct (64 * si + a)) i w = -1 := if_neg (fun q => h26 q.2.2)
            refine G_iconst (pc := 29) (v := -1) M dX7_slot_29 (by decide +kernel) ?_
            exact G_iret M hr dX7_slot_30 rfl ⟨by first | rfl | rw [e5]; rfl, rfl⟩
theorem r_sum (D : DD) (l : Launch) (ad : Nat → Nat) (nd : Nat → Int32) (sl : Nat → Int32) (sr : Nat → Int32) (sd : Nat → Int64) (ag : Nat → Int32) (lo : Nat → Int32) (lw : Nat → Int32) (hg : Nat → Int32) (ct : Nat → Int32) (mt : Nat → Int32) (sm : Nat → Int64) (th : Nat → Int32) (tn : Nat → Int32) (lev : Int32) (le : Nat → Int32) (jo : Nat → Int32) (wy : Nat → Int32) (s a lv w : Int32) (nn : Nat) (hnd : okS s = true → nd s.toNatClampNeg = nI nn) (hn : nn ≤ 64) : Ct D l mi_X7_sum [.ref (ad 0), .int s, .int a, .int lv, .int w] ad (rfW D ad nd sl sr sd ag lo lw hg ct mt sm th tn lev le jo wy) (fun v c => v = some (.long (bif okN nd s a && (rng 0 9 lv && rng 0 2 w) then sm (1920 * s.toNatClampNeg + (30 * a.toNatClampNeg + (3 * lv.toNatClampNeg + w.toNatClampNeg))) else 0)) ∧ c = rfW D ad nd sl sr sd ag lo lw hg ct mt sm th tn lev le jo wy) := by
  refine Ct.of (by decide +kernel) (Nat.le_of_ble_eq_true rfl) (fun X A hX M hr => ?_)
  subst hX
  have fin : ∀ (x : Int64) (z : Option Value), (bif okN nd s a && (rng 0 9 lv && rng 0 2 w) then sm (1920 * s.toNatClampNeg + (30 * a.toNatClampNeg + (3 * lv.toNatClampNeg + w.toNatClampNeg))) else 0) = x → (okN nd s a && (rng 0 9 lv && rng 0 2 w)) = false → G D X A 0 0 (GQ D X A ad 17 (fun v c => v = some (.long x) ∧ c = rfW D ad nd sl sr sd ag lo lw hg ct mt sm th tn lev le jo wy)) ad 34 [some (.ref (ad 0)), some (.int s), some (.int a), some (.int lv), some (.int w), z] [] (rfW D ad nd sl sr sd ag lo lw hg ct mt sm th tn lev le jo wy) := by
    intro x z hx hb
    rw [hb, cond_false] at hx
    subst hx
    refine G_iconst (pc := 34) (v := 0) M dX7_sum_34 (by decide +kernel) ?_
    refine G_istore (pc := 35) M dX7_sum_35 (Nat.le_of_ble_eq_true rfl) ?_
    refine G_iload (pc := 37) M dX7_sum_37 rfl ?_
    refine G_if_eq (pc := 39) M 67 dX7_sum_39 (by decide) (fun h39 => ?_) (fun h39 => ?_)
    · refine G_lconst (pc := 67) (v := 0) M dX7_sum_67 (by decide +kernel) ?_
      exact G_lret M hr dX7_sum_68 rfl ⟨rfl, rfl⟩
    · exact absurd rfl h39
  refine G_aload_n (pc := 0) M dX7_sum_0 rfl ?_
  refine G_iload_n (pc := 1) M dX7_sum_1 rfl ?_
  refine G_iload_n (pc := 2) M dX7_sum_2 rfl ?_
  refine G_callv (pc := 3) M [0, 1] dX7_sum_3 mv_X7_76 (c_isNode D _ (fun j => ad (pn [0, 1] j)) _ nd s a rfl) rfl ⟨rfl, rfl, trivial⟩ rfl rfl rfl rfl (Nat.le_of_ble_eq_true rfl) (Nat.le_of_ble_eq_true rfl) (Nat.le_of_ble_eq_true rfl) ⟨Nat.zero_le _, Nat.zero_le _⟩ (fun v c1 hq hlen => ?_)
  obtain ⟨rfl, rfl⟩ := hq
  try dsimp only [sall, List.set, Option.toList, List.cons_append, List.nil_append]
  refine G_if_eq (pc := 6) M 34 dX7_sum_6 (by decide) (fun h6 => ?_) (fun h6 => ?_)
  · have hb : (okN nd s a && (rng 0 9 lv && rng 0 2 w)) = false := by rw [bz0 h6]; rfl
    exact fin _ _ rfl hb
  · have h6b := bz1 h6
    refine G_iload_n (pc := 9) M dX7_sum_9 rfl ?_
    refine G_if_lt (pc := 10) M 34 dX7_sum_10 (by decide) (fun h10 => ?_) (fun h10 => ?_)
    · have hb : (okN nd s a && (rng 0 9 lv && rng 0 2 w)) = false := by rw [rng_f1 h10]; simp
      exact fin _ _ rfl hb
    · refine G_iload_n (pc := 13) M dX7_sum_13 rfl ?_
      refine G_bipush (pc := 14) (v := 9) M dX7_sum_14 (by decide +kernel) ?_
      refine G_icmp_gt (pc := 16) M 34 dX7_sum_16 (by decide) (fun h16 => ?_) (fun h16 => ?_)
      · have hb : (okN nd s a && (rng 0 9 lv && rng 0 2 w)) = false := by rw [rng_f2 (x := lv) (Int32.not_le.mpr h16)]; simp
        exact fin _ _ rfl hb
      · have hlv := rng_t h10 (Int32.not_lt.mp h16)
        refine G_iload (pc := 19) M dX7_sum_19 rfl ?_
        refine G_if_lt (pc := 21) M 34 dX7_sum_21 (by decide) (fun h21 => ?_) (fun h21 => ?_)
        · have hb : (okN nd s a && (rng 0 9 lv && rng 0 2 w)) = false := by rw [rng_f1 (x := w) h21]; simp
          exact fin _ _ rfl hb
        · refine G_iload (pc := 24) M dX7_sum_24 rfl ?_
          refine G_iconst (pc := 26) (v := 2) M dX7_sum_26 (by decide +kernel) ?_
          refine G_icmp_gt (pc := 27) M 34 dX7_sum_27 (by decide) (fun h27 => ?_) (fun h27 => ?_)
          · have hb : (okN nd s a && (rng 0 9 lv && rng 0 2 w)) = false := by rw [rng_f2 (x := w) (Int32.not_le.mpr h27)]; simp
            exact fin _ _ rfl hb
          · have hw := rng_t h21 (Int32.not_lt.mp h27)
            have hb : (okN nd s a && (rng 0 9 lv && rng 0 2 w)) = true := by rw [h6b, hlv, hw]; rfl
            rw [hb, cond_true]
            obtain ⟨i, k, hi, rfl, hk, rfl⟩ := okN_of h6b (hnd (okN_s h6b)) hn
            obtain ⟨v2, hv2, rfl⟩ := rng_of (n := 9) rfl hlv
            obtain ⟨w2, hw2, rfl⟩ := rng_of (n := 2) rfl hw
            rw [cl_nI (n := i) (by omega), cl_nI (n := k) (by omega), cl_nI (n := v2) (by omega), cl_nI (n := w2) (by omega)]
            refine G_iconst (pc := 30) (v := 1) M dX7_sum_30 (by decide +kernel) ?_
            refine G_goto (pc := 31) M 35 dX7_sum_31 (by decide) ?_
            refine G_istore (pc := 35) M dX7_sum_35 (Nat.le_of_ble_eq_true rfl) ?_
            refine G_iload (pc := 37) M dX7_sum_37 rfl ?_
            refine G_if_eq (pc := 39) M 67 dX7_sum_39 (by decide) (fun h39 => ?_) (fun h39 => ?_)
            · exact absurd h39 (by decide)
            · refine G_aload_n (pc := 42) M dX7_sum_42 rfl ?_
              refine G_getf (pc := 43) M dX7_sum_43 fl_X7_41 rfl (by first | rfl | assumption) ?_
              refine G_sipush (pc := 46) (v := 1920) M dX7_sum_46 (by decide +kernel) ?_
              refine G_iload_n (pc := 49) M dX7_sum_49 rfl ?_
              refine G_imul (pc := 50) M dX7_sum_50 ?_
              refine G_bipush (pc := 51) (v := 30) M dX7_sum_51 (by decide +kernel) ?_
              refine G_iload_n (pc := 53) M dX7_sum_53 rfl ?_
              refine G_imul (pc := 54) M dX7_sum_54 ?_
              refine G_iadd (pc := 55) M dX7_sum_55 ?_
              refine G_iconst (pc := 56) (v := 3) M dX7_sum_56 (by decide +kernel) ?_
              refine G_iload_n (pc := 57) M dX7_sum_57 rfl ?_
              refine G_imul (pc := 58) M dX7_sum_58 ?_
              refine G_iadd (pc := 59) M dX7_sum_59 ?_
              refine G_iload (pc := 60) M dX7_sum_60 rfl ?_
              refine G_iadd (pc := 62) M dX7_sum_62 ?_
              rw [ixD]
              refine G_laload (pc := 63) M dX7_sum_63 rfl (by first | assumption | exact vp_in_nI (by omega) (by omega)) ?_
              rw [cl_nI (by omega)]
              refine G_goto (pc := 64) M 68 dX7_sum_64 (by decide) ?_
              exact G_lret M hr dX7_sum_68 rfl ⟨rfl, rfl⟩
theorem r_level (D : DD) (l : Launch) (ad : Nat → Nat) (nd : Nat → Int32) (sl : Nat → Int32) (sr : Nat → Int32) (sd : Nat → Int64) (ag : Nat → Int32) (lo : Nat → Int32) (lw : Nat → Int32) (hg : Nat → Int32) (ct : Nat → Int32) (mt : Nat → Int32) (sm : Nat → Int64) (th : Nat → Int32) (tn : Nat → Int32) (lev : Int32) (le : Nat → Int32) (jo : Nat → Int32) (wy : Nat → Int32) : Ct D l mi_X7_level [.ref (ad 0)] ad (rfW D ad nd sl sr sd ag lo lw hg ct mt sm th tn lev le jo wy) (fun v c => v = some (.int lev) ∧ c = rfW D ad nd sl sr sd ag lo lw hg ct mt sm th tn lev le jo wy) := by
  refine Ct.of (by decide +kernel) (Nat.le_of_ble_eq_true rfl) (fun X A hX M hr => ?_)
  subst hX
  refine G_aload_n (pc := 0) M dX7_level_0 rfl ?_
  refine G_getf (pc := 1) M dX7_level_1 fl_X7_50 rfl (by first | rfl | assumption) ?_
  exact G_iret M hr dX7_level_4 rfl ⟨rfl, rfl⟩
def keptR (th lw hg : Nat → Int32) (s ts : Nat) (i w : Int32) : Int32 := if rng 0 2 w = true ∧ ¬ i < 0 ∧ i < nI ts then (if w = 0 then lw (th (4200 * s + i.toNatClampNeg)).toNatClampNeg else if w = 1 then hg (th (4200 * s + i.toNatClampNeg)).toNatClampNeg else th (4200 * s + i.toNatClampNeg) - nI (4200 * s) + 1) else -1
theorem r_kept (D : DD) (l : Launch) (ad : Nat → Nat) (nd : Nat → Int32) (sl : Nat → Int32) (sr : Nat → Int32) (sd : Nat → Int64) (ag : Nat → Int32) (lo : Nat → Int32) (lw : Nat → Int32) (hg : Nat → Int32) (ct : Nat → Int32) (mt : Nat → Int32) (sm : Nat → Int64) (th : Nat → Int32) (tn : Nat → Int32) (lev : Int32) (le : Nat → Int32) (jo : Nat → Int32) (wy : Nat → Int32) (s i w : Int32) (ts : Nat) (hts : ts ≤ 4200) (htn : okS s = true → tn s.toNatClampNeg = nI ts ∧ ∀ j, j < ts → vp_in (th (4200 * s.toNatClampNeg + j)) 12600) : Ct D l mi_X7_kept [.ref (ad 0), .int s, .int i, .int w] ad (rfW D ad nd sl sr sd ag lo lw hg ct mt sm th tn lev le jo wy) (fun v c => v = some (.int (bif okS s then keptR th lw hg s.toNatClampNeg ts i w else -1)) ∧ c = rfW D ad nd sl sr sd ag lo lw hg ct mt sm th tn lev le jo wy) := by
  refine Ct.of (by decide +kernel) (Nat.le_of_ble_eq_true rfl) (fun X A hX M hr => ?_)
  subst hX
  refine G_iload_n (pc := 0) M dX7_kept_0 rfl ?_
  refine G_calls (pc := 1) M [] dX7_kept_1 ms_X7_64 (c_isStream D _ (fun j => ad (pn [] j)) s) trivial rfl rfl rfl rfl (Nat.le_of_ble_eq_true rfl) (Nat.le_of_ble_eq_true rfl) (Nat.le_of_ble_eq_true rfl) ⟨Nat.zero_le _, Nat.zero_le _⟩ (fun v c1 hq hlen => ?_)
  obtain ⟨rfl, rfl⟩ := hq
  try dsimp only [sall, List.set, Option.toList, List.cons_append, List.nil_append]
  refine G_if_eq (pc := 4) M 30 dX7_kept_4 (by decide) (fun h4 => ?_) (fun h4 => ?_)
  · rw [bz0 h4]
    refine G_iconst (pc := 30) (v := -1) M dX7_kept_30 (by decide +kernel) ?_
    exact G_iret M hr dX7_kept_31 rfl ⟨by first | rfl | rw [e5]; rfl, rfl⟩
  · have hs := bz1 h4
    rw [hs]
    obtain ⟨ht1, ht2⟩ := htn hs
    obtain ⟨si, hsi, rfl⟩ := okS_of hs
    rw [cl_nI (n := si) (by omega)] at ht1 ht2
    rw [cl_nI (n := si) (by omega)]
    refine G_iload_n (pc := 7) M dX7_kept_7 rfl ?_
    refine G_if_lt (pc := 8) M 30 dX7_kept_8 (by decide) (fun h8 => ?_) (fun h8 => ?_)
    · have e5 : keptR th lw hg si ts i w = -1 := if_neg (fun q => by rw [rng_f1 h8] at q; cases q.1)
      refine G_iconst (pc := 30) (v := -1) M dX7_kept_30 (by decide +kernel) ?_
      exact G_iret M hr dX7_kept_31 rfl ⟨by first | rfl | rw [e5]; rfl, rfl⟩
    · refine G_iload_n (pc := 11) M dX7_kept_11 rfl ?_
      refine G_iconst (pc := 12) (v := 2) M dX7_kept_12 (by decide +kernel) ?_
      refine G_icmp_gt (pc := 13) M 30 dX7_kept_13 (by decide) (fun h13 => ?_) (fun h13 => ?_)
      · have e5 : keptR th lw hg si ts i w = -1 := if_neg (fun q => by rw [rng_f2 (Int32.not_le.mpr h13)] at q; cases q.1)
        refine G_iconst (pc := 30) (v := -1) M dX7_kept_30 (by decide +kernel) ?_
        exact G_iret M hr dX7_kept_31 rfl ⟨by first | rfl | rw [e5]; rfl, rfl⟩
      · have hw := rng_t h8 (Int32.not_lt.mp h13)
        refine G_iload_n (pc := 16) M dX7_kept_16 rfl ?_
        refine G_if_lt (pc := 17) M 30 dX7_kept_17 (by decide) (fun h17 => ?_) (fun h17 => ?_)
        · have e5 : keptR th lw hg si ts i w = -1 := if_neg (fun q => q.2.1 h17)
          refine G_iconst (pc := 30) (v := -1) M dX7_kept_30 (by decide +kernel) ?_
          exact G_iret M hr dX7_kept_31 rfl ⟨by first | rfl | rw [e5]; rfl, rfl⟩
        · refine G_iload_n (pc := 20) M dX7_kept_20 rfl ?_
          refine G_aload_n (pc := 21) M dX7_kept_21 rfl ?_
          refine G_getf (pc := 22) M dX7_kept_22 fl_X7_47 rfl (by first | rfl | assumption) ?_
          refine G_iload_n (pc := 25) M dX7_kept_25 rfl ?_
          refine G_iaload (pc := 26) M dX7_kept_26 rfl (by first | assumption | exact vp_in_nI (by omega) (by omega)) ?_
          rw [cl_nI (by omega), ht1]
          refine G_icmp_lt (pc := 27) M 32 dX7_kept_27 (by decide) (fun h27 => ?_) (fun h27 => ?_)
          · obtain ⟨p, hp, rfl⟩ := nI_of h17
            have hpt := (nI_ltI hp (by omega)).mp h27
            have hin := ht2 p hpt
            have e6 : keptR th lw hg si ts (nI p) w = (if w = 0 then lw (th (4200 * si + p)).toNatClampNeg else if w = 1 then hg (th (4200 * si + p)).toNatClampNeg else th (4200 * si + p) - nI (4200 * si) + 1) := by rw [keptR, if_pos ⟨hw, h17, h27⟩, cl_nI hp]
            refine G_aload_n (pc := 32) M dX7_kept_32 rfl ?_
            refine G_getf (pc := 33) M dX7_kept_33 fl_X7_44 rfl (by first | rfl | assumption) ?_
            refine G_sipush (pc := 36) (v := 4200) M dX7_kept_36 (by decide +kernel) ?_
            refine G_iload_n (pc := 39) M dX7_kept_39 rfl ?_
            refine G_imul (pc := 40) M dX7_kept_40 ?_
            refine G_iload_n (pc := 41) M dX7_kept_41 rfl ?_
            refine G_iadd (pc := 42) M dX7_kept_42 ?_
            rw [ixC]
            refine G_iaload (pc := 43) M dX7_kept_43 rfl (by first | assumption | exact vp_in_nI (by omega) (by omega)) ?_
            rw [cl_nI (by omega)]
            refine G_istore (pc := 44) M dX7_kept_44 (Nat.le_of_ble_eq_true rfl) ?_
            refine G_iload_n (pc := 46) M dX7_kept_46 rfl ?_
            refine G_if_ne (pc := 47) M 60 dX7_kept_47 (by decide) (fun h47 => ?_) (fun h47 => ?_)
            · rw [if_neg h47] at e6
              refine G_iload_n (pc := 60) M dX7_kept_60 rfl ?_
              refine G_iconst (pc := 61) (v := 1) M dX7_kept_61 (by decide +kernel) ?_
              refine G_icmp_ne (pc := 62) M 75 dX7_kept_62 (by decide) (fun h62 => ?_) (fun h62 => ?_)
              · rw [if_neg h62] at e6
                refine G_iload (pc := 75) M dX7_kept_75 rfl ?_
                refine G_sipush (pc := 77) (v := 4200) M dX7_kept_77 (by decide +kernel) ?_
                refine G_iload_n (pc := 80) M dX7_kept_80 rfl ?_
                refine G_imul (pc := 81) M dX7_kept_81 ?_
                rw [show (4200 : Int32) * nI si = nI (4200 * si) by rw [show (4200 : Int32) = nI 4200 from rfl, pk_mul]]
                refine G_isub (pc := 82) M dX7_kept_82 ?_
                refine G_iconst (pc := 83) (v := 1) M dX7_kept_83 (by decide +kernel) ?_
                refine G_iadd (pc := 84) M dX7_kept_84 ?_
                exact G_iret M hr dX7_kept_85 rfl ⟨by rw [e6]; rfl, rfl⟩
              · rw [if_pos (by simpa using h62)] at e6
                refine G_aload_n (pc := 65) M dX7_kept_65 rfl ?_
                refine G_getf (pc := 66) M dX7_kept_66 fl_X7_32 rfl (by first | rfl | assumption) ?_
                refine G_iload (pc := 69) M dX7_kept_69 rfl ?_
                refine G_iaload (pc := 71) M dX7_kept_71 rfl (hin) ?_
                refine G_goto (pc := 72) M 85 dX7_kept_72 (by decide) ?_
                exact G_iret M hr dX7_kept_85 rfl ⟨by rw [e6]; rfl, rfl⟩
            · rw [if_pos (by simpa using h47)] at e6
              refine G_aload_n (pc := 50) M dX7_kept_50 rfl ?_
              refine G_getf (pc := 51) M dX7_kept_51 fl_X7_29 rfl (by first | rfl | assumption) ?_
              refine G_iload (pc := 54) M dX7_kept_54 rfl ?_
              refine G_iaload (pc := 56) M dX7_kept_56 rfl (hin) ?_
              refine G_goto (pc := 57) M 85 dX7_kept_57 (by decide) ?_
              exact G_iret M hr dX7_kept_85 rfl ⟨by rw [e6]; rfl, rfl⟩
          · have e5 : keptR th lw hg si ts i w = -1 := if_neg (fun q => h27 q.2.2)
            refine G_iconst (pc := 30) (v := -1) M dX7_kept_30 (by decide +kernel) ?_
            exact G_iret M hr dX7_kept_31 rfl ⟨by first | rfl | rw [e5]; rfl, rfl⟩
