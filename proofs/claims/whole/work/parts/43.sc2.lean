--NORM
/-! StreamCounts: more calls that only read (the leaders' row is scratch) -/
abbrev sSetLd (P : SP) (x : Nat → Int32) : SP := (sNn P, sKk P, sSt P, sSd P, sAg P, sTk P, sLo P, sC P, sTg P, sFn P, sFt P, sFk P, x, sZ P, sTt P, sTq P, sNb P, sPr P, sMt P, sS P)
theorem okN_in {nd : Nat → Int32} {s a : Int32} {nn : Nat} (h : okN nd s a = true) (hnd : nd s.toNatClampNeg = nI nn) (hn : nn ≤ 64) : vp_in a 64 := by
  obtain ⟨i, k, -, -, hk, rfl⟩ := okN_of h hnd hn
  exact vp_in_nI (by omega) (by omega)
theorem okN_s {nd : Nat → Int32} {s a : Int32} (h : okN nd s a = true) : okS s = true := by
  simp only [okN, Bool.and_eq_true] at h
  exact h.1.1
def rng (lo hi x : Int32) : Bool := !decide (x < lo) && !decide (hi < x)
theorem rng_f1 {lo hi x : Int32} (h : x < lo) : rng lo hi x = false := by simp [rng, h]
theorem rng_f2 {lo hi x : Int32} (h : ¬ x ≤ hi) : rng lo hi x = false := by simp [rng, Int32.not_le.mp h]
theorem rng_t {lo hi x : Int32} (h1 : ¬ x < lo) (h2 : x ≤ hi) : rng lo hi x = true := by simp [rng, h1, Int32.not_lt.mpr h2]
def spanC (P : SP) (a e : Int32) : Int32 := if e = 0 then sC P a.toNatClampNeg else sC P a.toNatClampNeg + sLo P
theorem c_span (D : DD) (l : Launch) (ad : Nat → Nat) (lev : Int32) (f : Nat → Option Nat) (P : SP) (nd : Nat → Int32) (s a e : Int32) (hf : okS s = true → f s.toNatClampNeg = some (ad 2)) (hnd : nd s.toNatClampNeg = nI (sNn P)) (hn : sNn P ≤ 64) : Ct D l mi_X6_span [.ref (ad 0), .int s, .int a, .int e] ad (scW D ad lev f P) (scQ D ad lev f P (bif okN nd s a && rng 0 1 e then spanC P a e else -1)) := by
  refine Ct.of (by decide +kernel) (Nat.le_of_ble_eq_true rfl) (fun X A hX M hr => ?_)
  subst hX
  refine G_aload_n (pc := 0) M dX6_span_0 rfl ?_
  refine G_iload_n (pc := 1) M dX6_span_1 rfl ?_
  refine G_iload_n (pc := 2) M dX6_span_2 rfl ?_
  refine G_callv (pc := 3) M [0, 1, 2] dX6_span_3 mv_X6_117 (c_noNode D _ (fun j => ad (pn [0, 1, 2] j)) _ _ f nd s a rfl hf (by rw [hnd]; rfl)) rfl ⟨rfl, rfl, rfl, trivial⟩ rfl rfl rfl rfl (Nat.le_of_ble_eq_true rfl) (Nat.le_of_ble_eq_true rfl) (Nat.le_of_ble_eq_true rfl) ⟨Nat.zero_le _, Nat.zero_le _⟩ (fun v c1 hq hlen => ?_)
  obtain ⟨rfl, rfl⟩ := hq
  try dsimp only [sall, List.set, Option.toList, List.cons_append, List.nil_append]
  refine G_if_ne (pc := 6) M 18 dX6_span_6 (by decide) (fun h6 => ?_) (fun h6 => ?_)
  · have h6b : okN nd s a = false := by simpa using bz1 h6
    rw [h6b]
    refine G_iconst (pc := 18) (v := -1) M dX6_span_18 (by decide +kernel) ?_
    exact G_iret M hr dX6_span_19 rfl ⟨rfl, rfl⟩
  · have h6b : okN nd s a = true := by simpa using bz0 (b := !okN nd s a) (by simpa using h6)
    have hs := okN_s h6b
    have ha := okN_in h6b hnd hn
    rw [h6b]
    refine G_iload_n (pc := 9) M dX6_span_9 rfl ?_
    refine G_if_lt (pc := 10) M 18 dX6_span_10 (by decide) (fun h10 => ?_) (fun h10 => ?_)
    · rw [rng_f1 h10]
      refine G_iconst (pc := 18) (v := -1) M dX6_span_18 (by decide +kernel) ?_
      exact G_iret M hr dX6_span_19 rfl ⟨rfl, rfl⟩
    · refine G_iload_n (pc := 13) M dX6_span_13 rfl ?_
      refine G_iconst (pc := 14) (v := 1) M dX6_span_14 (by decide +kernel) ?_
      refine G_icmp_le (pc := 15) M 20 dX6_span_15 (by decide) (fun h15 => ?_) (fun h15 => ?_)
      · rw [rng_t h10 h15]
        refine G_aload_n (pc := 20) M dX6_span_20 rfl ?_
        refine G_getf (pc := 21) M dX6_span_21 fl_X6_11 rfl (by first | rfl | assumption) ?_
        refine G_iload_n (pc := 24) M dX6_span_24 rfl ?_
        refine G_aaload (pc := 25) M dX6_span_25 rfl (vp3 hs) (hf hs) ?_
        refine G_getr (pc := 26) M dX6_span_26 fl_X6_64 rfl (by first | rfl | assumption) ?_
        refine G_astore (pc := 29) M dX6_span_29 (Nat.le_of_ble_eq_true rfl) ?_
        refine G_iload_n (pc := 31) M dX6_span_31 rfl ?_
        refine G_if_ne (pc := 32) M 45 dX6_span_32 (by decide) (fun h32 => ?_) (fun h32 => ?_)
        · have e5 : spanC P a e = sC P a.toNatClampNeg + sLo P := if_neg h32
          refine G_aload (pc := 45) M dX6_span_45 rfl ?_
          refine G_getr (pc := 47) M dX6_span_47 fl_X6_121 rfl (by first | rfl | assumption) ?_
          refine G_iload_n (pc := 50) M dX6_span_50 rfl ?_
          refine G_iaload (pc := 51) M dX6_span_51 rfl (ha) ?_
          refine G_aload (pc := 52) M dX6_span_52 rfl ?_
          refine G_getf (pc := 54) M dX6_span_54 fl_X6_80 rfl (by first | rfl | assumption) ?_
          refine G_iadd (pc := 57) M dX6_span_57 ?_
          exact G_iret M hr dX6_span_58 rfl ⟨by rw [show (bif true && true then spanC P a e else -1) = spanC P a e from rfl, e5], rfl⟩
        · have e5 : spanC P a e = sC P a.toNatClampNeg := if_pos (by simpa using h32)
          refine G_aload (pc := 35) M dX6_span_35 rfl ?_
          refine G_getr (pc := 37) M dX6_span_37 fl_X6_121 rfl (by first | rfl | assumption) ?_
          refine G_iload_n (pc := 40) M dX6_span_40 rfl ?_
          refine G_iaload (pc := 41) M dX6_span_41 rfl (ha) ?_
          refine G_goto (pc := 42) M 58 dX6_span_42 (by decide) ?_
          exact G_iret M hr dX6_span_58 rfl ⟨by rw [show (bif true && true then spanC P a e else -1) = spanC P a e from rfl, e5], rfl⟩
      · rw [rng_f2 h15]
        refine G_iconst (pc := 18) (v := -1) M dX6_span_18 (by decide +kernel) ?_
        exact G_iret M hr dX6_span_19 rfl ⟨rfl, rfl⟩
def slotC (P : SP) (i w : Int32) : Int32 := if rng 0 1 w = true ∧ ¬ i < 0 ∧ i < sTk P then (if nap (sC P) (sNn P) i.toNatClampNeg 0 = -2 then -1 else if w = 0 then nap (sC P) (sNn P) i.toNatClampNeg 0 else sC P (nap (sC P) (sNn P) i.toNatClampNeg 0).toNatClampNeg) else -1
theorem c_slot (D : DD) (l : Launch) (ad : Nat → Nat) (lev : Int32) (f : Nat → Option Nat) (P : SP) (s i w : Int32) (hf : okS s = true → f s.toNatClampNeg = some (ad 2)) (hn : sNn P ≤ 64) (tk : Nat) (htk : sTk P = nI tk) (htk6 : tk ≤ 64) : Ct D l mi_X6_slot [.ref (ad 0), .int s, .int i, .int w] ad (scW D ad lev f P) (scQ D ad lev f P (bif okS s then slotC P i w else -1)) := by
  refine Ct.of (by decide +kernel) (Nat.le_of_ble_eq_true rfl) (fun X A hX M hr => ?_)
  subst hX
  refine G_iload_n (pc := 0) M dX6_slot_0 rfl ?_
  refine G_calls (pc := 1) M [] dX6_slot_1 ms_X6_20 (c_noStream D _ (fun j => ad (pn [] j)) s) trivial rfl rfl rfl rfl (Nat.le_of_ble_eq_true rfl) (Nat.le_of_ble_eq_true rfl) (Nat.le_of_ble_eq_true rfl) ⟨Nat.zero_le _, Nat.zero_le _⟩ (fun v c1 hq hlen => ?_)
  obtain ⟨rfl, rfl⟩ := hq
  try dsimp only [sall, List.set, Option.toList, List.cons_append, List.nil_append]
  refine G_if_ne (pc := 4) M 16 dX6_slot_4 (by decide) (fun h4 => ?_) (fun h4 => ?_)
  · have hs : okS s = false := by simpa using bz1 h4
    rw [hs]
    refine G_iconst (pc := 16) (v := -1) M dX6_slot_16 (by decide +kernel) ?_
    exact G_iret M hr dX6_slot_17 rfl ⟨by first | rfl | rw [e5]; rfl, rfl⟩
  · have hs : okS s = true := by simpa using bz0 (b := !okS s) (by simpa using h4)
    rw [hs]
    refine G_iload_n (pc := 7) M dX6_slot_7 rfl ?_
    refine G_if_lt (pc := 8) M 16 dX6_slot_8 (by decide) (fun h8 => ?_) (fun h8 => ?_)
    · have e5 : slotC P i w = -1 := if_neg (fun q => by rw [rng_f1 h8] at q; cases q.1)
      refine G_iconst (pc := 16) (v := -1) M dX6_slot_16 (by decide +kernel) ?_
      exact G_iret M hr dX6_slot_17 rfl ⟨by first | rfl | rw [e5]; rfl, rfl⟩
    · refine G_iload_n (pc := 11) M dX6_slot_11 rfl ?_
      refine G_iconst (pc := 12) (v := 1) M dX6_slot_12 (by decide +kernel) ?_
      refine G_icmp_le (pc := 13) M 18 dX6_slot_13 (by decide) (fun h13 => ?_) (fun h13 => ?_)
      · have hw := rng_t h8 h13
        refine G_aload_n (pc := 18) M dX6_slot_18 rfl ?_
        refine G_getf (pc := 19) M dX6_slot_19 fl_X6_11 rfl (by first | rfl | assumption) ?_
        refine G_iload_n (pc := 22) M dX6_slot_22 rfl ?_
        refine G_aaload (pc := 23) M dX6_slot_23 rfl (vp3 hs) (hf hs) ?_
        refine G_getr (pc := 24) M dX6_slot_24 fl_X6_64 rfl (by first | rfl | assumption) ?_
        refine G_astore (pc := 27) M dX6_slot_27 (Nat.le_of_ble_eq_true rfl) ?_
        refine G_iload_n (pc := 29) M dX6_slot_29 rfl ?_
        refine G_if_lt (pc := 30) M 42 dX6_slot_30 (by decide) (fun h30 => ?_) (fun h30 => ?_)
        · have e5 : slotC P i w = -1 := if_neg (fun q => q.2.1 h30)
          refine G_iconst (pc := 42) (v := -1) M dX6_slot_42 (by decide +kernel) ?_
          exact G_iret M hr dX6_slot_43 rfl ⟨by rw [e5]; rfl, rfl⟩
        · refine G_iload_n (pc := 33) M dX6_slot_33 rfl ?_
          refine G_aload (pc := 34) M dX6_slot_34 rfl ?_
          refine G_getf (pc := 36) M dX6_slot_36 fl_X6_77 rfl (by first | rfl | assumption) ?_
          refine G_icmp_lt (pc := 39) M 44 dX6_slot_39 (by decide) (fun h39 => ?_) (fun h39 => ?_)
          · obtain ⟨p, hp, rfl⟩ : ∃ p : Nat, p < 64 ∧ i = nI p := by
              obtain ⟨p, hp, rfl⟩ := nI_of h30
              rw [htk] at h39
              exact ⟨p, by have := (nI_ltI hp (by omega)).mp h39; omega, rfl⟩
            have e6 : slotC P (nI p) w = (if nap (sC P) (sNn P) p 0 = -2 then -1 else if w = 0 then nap (sC P) (sNn P) p 0 else sC P (nap (sC P) (sNn P) p 0).toNatClampNeg) := by rw [slotC, if_pos ⟨hw, h30, h39⟩, cl_nI (by omega)]
            refine G_aload (pc := 44) M dX6_slot_44 rfl ?_
            refine G_aload (pc := 46) M dX6_slot_46 rfl ?_
            refine G_getr (pc := 48) M dX6_slot_48 fl_X6_121 rfl (by first | rfl | assumption) ?_
            refine G_iload_n (pc := 51) M dX6_slot_51 rfl ?_
            refine G_callv (pc := 52) M [3, 4] dX6_slot_52 mv_X6_125 (c_nodeAtPlace D _ (fun j => ad (pn [3, 4] j)) _ (sNn P) p (sC P) hn (by omega) rfl) rfl ⟨rfl, rfl, trivial⟩ rfl rfl rfl rfl (Nat.le_of_ble_eq_true rfl) (Nat.le_of_ble_eq_true rfl) (Nat.le_of_ble_eq_true rfl) ⟨Nat.zero_le _, Nat.zero_le _⟩ (fun v c1 hq hlen => ?_)
            obtain ⟨rfl, rfl⟩ := hq
            try dsimp only [sall, List.set, Option.toList, List.cons_append, List.nil_append]
            refine G_istore (pc := 55) M dX6_slot_55 (Nat.le_of_ble_eq_true rfl) ?_
            refine G_iload (pc := 57) M dX6_slot_57 rfl ?_
            refine G_bipush (pc := 59) (v := -2) M dX6_slot_59 (by decide +kernel) ?_
            refine G_icmp_ne (pc := 61) M 66 dX6_slot_61 (by decide) (fun h61 => ?_) (fun h61 => ?_)
            · obtain ⟨a, ha, ea⟩ := (nap_rng (sC P) (sNn P) p 0).resolve_left h61
              rw [if_neg h61] at e6
              refine G_iload_n (pc := 66) M dX6_slot_66 rfl ?_
              refine G_if_ne (pc := 67) M 75 dX6_slot_67 (by decide) (fun h67 => ?_) (fun h67 => ?_)
              · rw [if_neg h67] at e6
                refine G_aload (pc := 75) M dX6_slot_75 rfl ?_
                refine G_getr (pc := 77) M dX6_slot_77 fl_X6_121 rfl (by first | rfl | assumption) ?_
                refine G_iload (pc := 80) M dX6_slot_80 rfl ?_
                refine G_iaload (pc := 82) M dX6_slot_82 rfl (by rw [ea]; exact vp_in_nI (by omega) (by omega)) ?_
                exact G_iret M hr dX6_slot_83 rfl ⟨by rw [e6]; rfl, rfl⟩
              · rw [if_pos (by simpa using h67)] at e6
                refine G_iload (pc := 70) M dX6_slot_70 rfl ?_
                refine G_goto (pc := 72) M 83 dX6_slot_72 (by decide) ?_
                exact G_iret M hr dX6_slot_83 rfl ⟨by rw [e6]; rfl, rfl⟩
            · rw [if_pos (by simpa using h61)] at e6
              refine G_iconst (pc := 64) (v := -1) M dX6_slot_64 (by decide +kernel) ?_
              exact G_iret M hr dX6_slot_65 rfl ⟨by rw [e6]; rfl, rfl⟩
          · have e5 : slotC P i w = -1 := if_neg (fun q => h39 q.2.2)
            refine G_iconst (pc := 42) (v := -1) M dX6_slot_42 (by decide +kernel) ?_
            exact G_iret M hr dX6_slot_43 rfl ⟨by rw [e5]; rfl, rfl⟩
      · have e5 : slotC P i w = -1 := if_neg (fun q => by rw [rng_f2 h13] at q; cases q.1)
        refine G_iconst (pc := 16) (v := -1) M dX6_slot_16 (by decide +kernel) ?_
        exact G_iret M hr dX6_slot_17 rfl ⟨by first | rfl | rw [e5]; rfl, rfl⟩
theorem c_parts (D : DD) (l : Launch) (ad : Nat → Nat) (lev : Int32) (f : Nat → Option Nat) (P : SP) (s n : Int32) (hf : okS s = true → f s.toNatClampNeg = some (ad 2)) (hfn : sFn P ≤ 64) : Ct D l mi_X6_parts [.ref (ad 0), .int s, .int n] ad (scW D ad lev f P) (scQ D ad lev f P (bif okS s && !decide (n < 0) then nI (sNn P) - nI (afr (sFt P) (sAg P - n) (sFn P)) else -1)) := by
  refine Ct.of (by decide +kernel) (Nat.le_of_ble_eq_true rfl) (fun X A hX M hr => ?_)
  subst hX
  refine G_iload_n (pc := 0) M dX6_parts_0 rfl ?_
  refine G_calls (pc := 1) M [] dX6_parts_1 ms_X6_20 (c_noStream D _ (fun j => ad (pn [] j)) s) trivial rfl rfl rfl rfl (Nat.le_of_ble_eq_true rfl) (Nat.le_of_ble_eq_true rfl) (Nat.le_of_ble_eq_true rfl) ⟨Nat.zero_le _, Nat.zero_le _⟩ (fun v c1 hq hlen => ?_)
  obtain ⟨rfl, rfl⟩ := hq
  try dsimp only [sall, List.set, Option.toList, List.cons_append, List.nil_append]
  refine G_if_ne (pc := 4) M 11 dX6_parts_4 (by decide) (fun h4 => ?_) (fun h4 => ?_)
  · have hs : okS s = false := by simpa using bz1 h4
    rw [hs]
    refine G_iconst (pc := 11) (v := -1) M dX6_parts_11 (by decide +kernel) ?_
    exact G_iret M hr dX6_parts_12 rfl ⟨rfl, rfl⟩
  · have hs : okS s = true := by simpa using bz0 (b := !okS s) (by simpa using h4)
    rw [hs]
    refine G_iload_n (pc := 7) M dX6_parts_7 rfl ?_
    refine G_if_ge (pc := 8) M 13 dX6_parts_8 (by decide) (fun h8 => ?_) (fun h8 => ?_)
    · rw [decide_eq_false (Int32.not_lt.mpr h8)]
      refine G_aload_n (pc := 13) M dX6_parts_13 rfl ?_
      refine G_getf (pc := 14) M dX6_parts_14 fl_X6_11 rfl (by first | rfl | assumption) ?_
      refine G_iload_n (pc := 17) M dX6_parts_17 rfl ?_
      refine G_aaload (pc := 18) M dX6_parts_18 rfl (vp3 hs) (hf hs) ?_
      refine G_astore_n (pc := 19) M dX6_parts_19 (Nat.le_of_ble_eq_true rfl) ?_
      refine G_aload_n (pc := 20) M dX6_parts_20 rfl ?_
      refine G_getf (pc := 21) M dX6_parts_21 fl_X6_108 rfl (by first | rfl | assumption) ?_
      refine G_aload_n (pc := 24) M dX6_parts_24 rfl ?_
      refine G_getr (pc := 25) M dX6_parts_25 fl_X6_83 rfl (by first | rfl | assumption) ?_
      refine G_aload_n (pc := 28) M dX6_parts_28 rfl ?_
      refine G_getf (pc := 29) M dX6_parts_29 fl_X6_27 rfl (by first | rfl | assumption) ?_
      refine G_iload_n (pc := 32) M dX6_parts_32 rfl ?_
      refine G_isub (pc := 33) M dX6_parts_33 ?_
      refine G_callv (pc := 34) M [6, 7] dX6_parts_34 mv_X6_129 (c_arcsAfter D _ (fun j => ad (pn [6, 7] j)) (sFn P) (sFt P) (sAg P - n) _ hfn rfl rfl) rfl ⟨rfl, rfl, trivial⟩ rfl rfl rfl rfl (Nat.le_of_ble_eq_true rfl) (Nat.le_of_ble_eq_true rfl) (Nat.le_of_ble_eq_true rfl) ⟨Nat.zero_le _, Nat.zero_le _⟩ (fun v c1 hq hlen => ?_)
      obtain ⟨rfl, rfl⟩ := hq
      try dsimp only [sall, List.set, Option.toList, List.cons_append, List.nil_append]
      refine G_isub (pc := 37) M dX6_parts_37 ?_
      exact G_iret M hr dX6_parts_38 rfl ⟨rfl, rfl⟩
    · rw [decide_eq_true (Int32.not_le.mp h8)]
      refine G_iconst (pc := 11) (v := -1) M dX6_parts_11 (by decide +kernel) ?_
      exact G_iret M hr dX6_parts_12 rfl ⟨rfl, rfl⟩
theorem c_part (D : DD) (l : Launch) (ad : Nat → Nat) (lev : Int32) (f : Nat → Option Nat) (P : SP) (nd : Nat → Int32) (s n a : Int32) (fu fv : Nat → Nat) (hf : okS s = true → f s.toNatClampNeg = some (ad 2)) (hnd : nd s.toNatClampNeg = nI (sNn P)) (hn : sNn P ≤ 64) (hfn : sFn P ≤ 64) (hK : fArc (sFn P) (sFk P) fu fv) : Ct D l mi_X6_part [.ref (ad 0), .int s, .int n, .int a] ad (scW D ad lev f P) (fun v c => v = some (.int (bif okN nd s a && !decide (n < 0) then nI (lab fu fv (sFn P) (afr (sFt P) (sAg P - n) (sFn P)) a.toNatClampNeg) else -1)) ∧ ∃ ld, c = scW D ad lev f (sSetLd P ld)) := by
  refine Ct.of (by decide +kernel) (Nat.le_of_ble_eq_true rfl) (fun X A hX M hr => ?_)
  subst hX
  refine G_aload_n (pc := 0) M dX6_part_0 rfl ?_
  refine G_iload_n (pc := 1) M dX6_part_1 rfl ?_
  refine G_iload_n (pc := 2) M dX6_part_2 rfl ?_
  refine G_callv (pc := 3) M [0, 1, 2] dX6_part_3 mv_X6_117 (c_noNode D _ (fun j => ad (pn [0, 1, 2] j)) _ _ f nd s a rfl hf (by rw [hnd]; rfl)) rfl ⟨rfl, rfl, rfl, trivial⟩ rfl rfl rfl rfl (Nat.le_of_ble_eq_true rfl) (Nat.le_of_ble_eq_true rfl) (Nat.le_of_ble_eq_true rfl) ⟨Nat.zero_le _, Nat.zero_le _⟩ (fun v c1 hq hlen => ?_)
  obtain ⟨rfl, rfl⟩ := hq
  try dsimp only [sall, List.set, Option.toList, List.cons_append, List.nil_append]
  refine G_if_ne (pc := 6) M 13 dX6_part_6 (by decide) (fun h6 => ?_) (fun h6 => ?_)
  · have h6b : okN nd s a = false := by simpa using bz1 h6
    rw [h6b]
    refine G_iconst (pc := 13) (v := -1) M dX6_part_13 (by decide +kernel) ?_
    exact G_iret M hr dX6_part_14 rfl ⟨rfl, sLd P, rfl⟩
  · have h6b : okN nd s a = true := by simpa using bz0 (b := !okN nd s a) (by simpa using h6)
    have hs := okN_s h6b
    rw [h6b]
    refine G_iload_n (pc := 9) M dX6_part_9 rfl ?_
    refine G_if_ge (pc := 10) M 15 dX6_part_10 (by decide) (fun h10 => ?_) (fun h10 => ?_)
    · rw [decide_eq_false (Int32.not_lt.mpr h10)]
      obtain ⟨i, k, -, -, hk, rfl⟩ := okN_of h6b hnd hn
      rw [cl_nI (n := k) (by omega)]
      refine G_aload_n (pc := 15) M dX6_part_15 rfl ?_
      refine G_getf (pc := 16) M dX6_part_16 fl_X6_11 rfl (by first | rfl | assumption) ?_
      refine G_iload_n (pc := 19) M dX6_part_19 rfl ?_
      refine G_aaload (pc := 20) M dX6_part_20 rfl (vp3 hs) (hf hs) ?_
      refine G_astore (pc := 21) M dX6_part_21 (Nat.le_of_ble_eq_true rfl) ?_
      refine G_aload (pc := 23) M dX6_part_23 rfl ?_
      refine G_getr (pc := 25) M dX6_part_25 fl_X6_83 rfl (by first | rfl | assumption) ?_
      refine G_aload (pc := 28) M dX6_part_28 rfl ?_
      refine G_getf (pc := 30) M dX6_part_30 fl_X6_27 rfl (by first | rfl | assumption) ?_
      refine G_iload_n (pc := 33) M dX6_part_33 rfl ?_
      refine G_isub (pc := 34) M dX6_part_34 ?_
      refine G_iload_n (pc := 35) M dX6_part_35 rfl ?_
      refine G_callv (pc := 36) M [6, 7, 8, 9] dX6_part_36 mv_X6_133 (c_leastOfPart D _ (fun j => ad (pn [6, 7, 8, 9] j)) (sFn P) k (sFt P) (sFk P) (sLd P) (sAg P - n) fu fv hfn (by omega) hK) rfl ⟨rfl, rfl, rfl, rfl, trivial⟩ rfl rfl rfl rfl (Nat.le_of_ble_eq_true rfl) (Nat.le_of_ble_eq_true rfl) (Nat.le_of_ble_eq_true rfl) ⟨Nat.zero_le _, Nat.zero_le _⟩ (fun v c1 hq hlen => ?_)
      obtain ⟨rfl, ld2, rfl⟩ := hq
      try dsimp only [sall, List.set, Option.toList, List.cons_append, List.nil_append]
      exact G_iret M hr dX6_part_39 rfl ⟨rfl, ld2, rfl⟩
    · rw [decide_eq_true (Int32.not_le.mp h10)]
      refine G_iconst (pc := 13) (v := -1) M dX6_part_13 (by decide +kernel) ?_
      exact G_iret M hr dX6_part_14 rfl ⟨rfl, sLd P, rfl⟩
def treeC (P : SP) (fu fv : Nat → Nat) (i w : Int32) : Int32 := if rng 0 2 w = true ∧ ¬ i < 0 ∧ i < nI (sFn P) then (if w = 0 then sFt P i.toNatClampNeg else if w = 1 then nI (fu i.toNatClampNeg) else nI (fv i.toNatClampNeg)) else -1
theorem c_tree (D : DD) (l : Launch) (ad : Nat → Nat) (lev : Int32) (f : Nat → Option Nat) (P : SP) (s i w : Int32) (fu fv : Nat → Nat) (hf : okS s = true → f s.toNatClampNeg = some (ad 2)) (hfn : sFn P ≤ 64) (hK : fArc (sFn P) (sFk P) fu fv) : Ct D l mi_X6_tree [.ref (ad 0), .int s, .int i, .int w] ad (scW D ad lev f P) (scQ D ad lev f P (bif okS s then treeC P fu fv i w else -1)) := by
  refine Ct.of (by decide +kernel) (Nat.le_of_ble_eq_true rfl) (fun X A hX M hr => ?_)
  subst hX
  refine G_iload_n (pc := 0) M dX6_tree_0 rfl ?_
  refine G_calls (pc := 1) M [] dX6_tree_1 ms_X6_20 (c_noStream D _ (fun j => ad (pn [] j)) s) trivial rfl rfl rfl rfl (Nat.le_of_ble_eq_true rfl) (Nat.le_of_ble_eq_true rfl) (Nat.le_of_ble_eq_true rfl) ⟨Nat.zero_le _, Nat.zero_le _⟩ (fun v c1 hq hlen => ?_)
  obtain ⟨rfl, rfl⟩ := hq
  try dsimp only [sall, List.set, Option.toList, List.cons_append, List.nil_append]
  refine G_if_ne (pc := 4) M 16 dX6_tree_4 (by decide) (fun h4 => ?_) (fun h4 => ?_)
  · have hs : okS s = false := by simpa using bz1 h4
    rw [hs]
    refine G_iconst (pc := 16) (v := -1) M dX6_tree_16 (by decide +kernel) ?_
    exact G_iret M hr dX6_tree_17 rfl ⟨by first | rfl | rw [e5]; rfl, rfl⟩
  · have hs : okS s = true := by simpa using bz0 (b := !okS s) (by simpa using h4)
    rw [hs]
    refine G_iload_n (pc := 7) M dX6_tree_7 rfl ?_
    refine G_if_lt (pc := 8) M 16 dX6_tree_8 (by decide) (fun h8 => ?_) (fun h8 => ?_)
    · have e5 : treeC P fu fv i w = -1 := if_neg (fun q => by rw [rng_f1 h8] at q; cases q.1)
      refine G_iconst (pc := 16) (v := -1) M dX6_tree_16 (by decide +kernel) ?_
      exact G_iret M hr dX6_tree_17 rfl ⟨by first | rfl | rw [e5]; rfl, rfl⟩
    · refine G_iload_n (pc := 11) M dX6_tree_11 rfl ?_
      refine G_iconst (pc := 12) (v := 2) M dX6_tree_12 (by decide +kernel) ?_
      refine G_icmp_le (pc := 13) M 18 dX6_tree_13 (by decide) (fun h13 => ?_) (fun h13 => ?_)
      · have hw := rng_t h8 h13
        refine G_aload_n (pc := 18) M dX6_tree_18 rfl ?_
        refine G_getf (pc := 19) M dX6_tree_19 fl_X6_11 rfl (by first | rfl | assumption) ?_
        refine G_iload_n (pc := 22) M dX6_tree_22 rfl ?_
        refine G_aaload (pc := 23) M dX6_tree_23 rfl (vp3 hs) (hf hs) ?_
        refine G_getr (pc := 24) M dX6_tree_24 fl_X6_83 rfl (by first | rfl | assumption) ?_
        refine G_astore (pc := 27) M dX6_tree_27 (Nat.le_of_ble_eq_true rfl) ?_
        refine G_iload_n (pc := 29) M dX6_tree_29 rfl ?_
        refine G_if_lt (pc := 30) M 42 dX6_tree_30 (by decide) (fun h30 => ?_) (fun h30 => ?_)
        · have e5 : treeC P fu fv i w = -1 := if_neg (fun q => q.2.1 h30)
          refine G_iconst (pc := 42) (v := -1) M dX6_tree_42 (by decide +kernel) ?_
          exact G_iret M hr dX6_tree_43 rfl ⟨by rw [e5]; rfl, rfl⟩
        · refine G_iload_n (pc := 33) M dX6_tree_33 rfl ?_
          refine G_aload (pc := 34) M dX6_tree_34 rfl ?_
          refine G_getf (pc := 36) M dX6_tree_36 fl_X6_87 rfl (by first | rfl | assumption) ?_
          refine G_icmp_lt (pc := 39) M 44 dX6_tree_39 (by decide) (fun h39 => ?_) (fun h39 => ?_)
          · obtain ⟨p, hp, rfl⟩ : ∃ p : Nat, p < sFn P ∧ i = nI p := by
              obtain ⟨p, hp, rfl⟩ := nI_of h30
              exact ⟨p, (nI_ltI hp (by omega)).mp h39, rfl⟩
            obtain ⟨k1, k2, k3⟩ := hK p hp
            have e6 : treeC P fu fv (nI p) w = (if w = 0 then sFt P p else if w = 1 then nI (fu p) else nI (fv p)) := by rw [treeC, if_pos ⟨hw, h30, h39⟩, cl_nI (by omega)]
            refine G_iload_n (pc := 44) M dX6_tree_44 rfl ?_
            refine G_if_ne (pc := 45) M 56 dX6_tree_45 (by decide) (fun h45 => ?_) (fun h45 => ?_)
            · rw [if_neg h45] at e6
              refine G_iload_n (pc := 56) M dX6_tree_56 rfl ?_
              refine G_iconst (pc := 57) (v := 1) M dX6_tree_57 (by decide +kernel) ?_
              refine G_icmp_ne (pc := 58) M 74 dX6_tree_58 (by decide) (fun h58 => ?_) (fun h58 => ?_)
              · rw [if_neg h58] at e6
                refine G_aload (pc := 74) M dX6_tree_74 rfl ?_
                refine G_getr (pc := 76) M dX6_tree_76 fl_X6_139 rfl (by first | rfl | assumption) ?_
                refine G_iload_n (pc := 79) M dX6_tree_79 rfl ?_
                refine G_iaload (pc := 80) M dX6_tree_80 rfl (by first | assumption | exact vp_in_nI (by omega) (by omega)) ?_
                rw [cl_nI (by omega), k1]
                refine G_calls (pc := 81) M [] dX6_tree_81 ms_X6_145 (c_greaterNode D _ (fun j => ad (pn [] j)) (nI (64 * fu p + fv p))) trivial rfl rfl rfl rfl (Nat.le_of_ble_eq_true rfl) (Nat.le_of_ble_eq_true rfl) (Nat.le_of_ble_eq_true rfl) ⟨Nat.zero_le _, Nat.zero_le _⟩ (fun v c1 hq hlen => ?_)
                obtain ⟨rfl, rfl⟩ := hq
                try dsimp only [sall, List.set, Option.toList, List.cons_append, List.nil_append]
                exact G_iret M hr dX6_tree_84 rfl ⟨by first | (rw [e6]; rfl) | (rw [key_rem k2 k3, e6]; rfl), rfl⟩
              · rw [if_pos (by simpa using h58)] at e6
                refine G_aload (pc := 61) M dX6_tree_61 rfl ?_
                refine G_getr (pc := 63) M dX6_tree_63 fl_X6_139 rfl (by first | rfl | assumption) ?_
                refine G_iload_n (pc := 66) M dX6_tree_66 rfl ?_
                refine G_iaload (pc := 67) M dX6_tree_67 rfl (by first | assumption | exact vp_in_nI (by omega) (by omega)) ?_
                rw [cl_nI (by omega), k1]
                refine G_calls (pc := 68) M [] dX6_tree_68 ms_X6_142 (c_lesserNode D _ (fun j => ad (pn [] j)) (nI (64 * fu p + fv p))) trivial rfl rfl rfl rfl (Nat.le_of_ble_eq_true rfl) (Nat.le_of_ble_eq_true rfl) (Nat.le_of_ble_eq_true rfl) ⟨Nat.zero_le _, Nat.zero_le _⟩ (fun v c1 hq hlen => ?_)
                obtain ⟨rfl, rfl⟩ := hq
                try dsimp only [sall, List.set, Option.toList, List.cons_append, List.nil_append]
                rw [key_div k2 k3]
                refine G_goto (pc := 71) M 84 dX6_tree_71 (by decide) ?_
                exact G_iret M hr dX6_tree_84 rfl ⟨by first | (rw [e6]; rfl) | (rw [key_rem k2 k3, e6]; rfl), rfl⟩
            · rw [if_pos (by simpa using h45)] at e6
              refine G_aload (pc := 48) M dX6_tree_48 rfl ?_
              refine G_getr (pc := 50) M dX6_tree_50 fl_X6_136 rfl (by first | rfl | assumption) ?_
              refine G_iload_n (pc := 53) M dX6_tree_53 rfl ?_
              refine G_iaload (pc := 54) M dX6_tree_54 rfl (by first | assumption | exact vp_in_nI (by omega) (by omega)) ?_
              rw [cl_nI (by omega)]
              exact G_iret M hr dX6_tree_55 rfl ⟨by first | (rw [e6]; rfl) | (rw [key_rem k2 k3, e6]; rfl), rfl⟩
          · have e5 : treeC P fu fv i w = -1 := if_neg (fun q => h39 q.2.2)
            refine G_iconst (pc := 42) (v := -1) M dX6_tree_42 (by decide +kernel) ?_
            exact G_iret M hr dX6_tree_43 rfl ⟨by rw [e5]; rfl, rfl⟩
      · have e5 : treeC P fu fv i w = -1 := if_neg (fun q => by rw [rng_f2 h13] at q; cases q.1)
        refine G_iconst (pc := 16) (v := -1) M dX6_tree_16 (by decide +kernel) ?_
        exact G_iret M hr dX6_tree_17 rfl ⟨by first | rfl | rw [e5]; rfl, rfl⟩
def sinceC (P : SP) (fu fv : Nat → Nat) (a b : Int32) : Int32 := if a = b then 0 else match obt fu fv (sFn P) a.toNatClampNeg b.toNatClampNeg (sFn P) with
  | none => -2
  | some r => sAg P - sFt P r + 1
theorem c_since (D : DD) (l : Launch) (ad : Nat → Nat) (lev : Int32) (f : Nat → Option Nat) (P : SP) (nd : Nat → Int32) (s a b : Int32) (fu fv : Nat → Nat) (hf : okS s = true → f s.toNatClampNeg = some (ad 2)) (hnd : nd s.toNatClampNeg = nI (sNn P)) (hn : sNn P ≤ 64) (hfn : sFn P ≤ 64) (hK : fArc (sFn P) (sFk P) fu fv) : Ct D l mi_X6_since [.ref (ad 0), .int s, .int a, .int b] ad (scW D ad lev f P) (fun v c => v = some (.int (bif okN nd s a && okN nd s b then sinceC P fu fv a b else -1)) ∧ ∃ ld, c = scW D ad lev f (sSetLd P ld)) := by
  refine Ct.of (by decide +kernel) (Nat.le_of_ble_eq_true rfl) (fun X A hX M hr => ?_)
  subst hX
  refine G_aload_n (pc := 0) M dX6_since_0 rfl ?_
  refine G_iload_n (pc := 1) M dX6_since_1 rfl ?_
  refine G_iload_n (pc := 2) M dX6_since_2 rfl ?_
  refine G_callv (pc := 3) M [0, 1, 2] dX6_since_3 mv_X6_117 (c_noNode D _ (fun j => ad (pn [0, 1, 2] j)) _ _ f nd s a rfl hf (by rw [hnd]; rfl)) rfl ⟨rfl, rfl, rfl, trivial⟩ rfl rfl rfl rfl (Nat.le_of_ble_eq_true rfl) (Nat.le_of_ble_eq_true rfl) (Nat.le_of_ble_eq_true rfl) ⟨Nat.zero_le _, Nat.zero_le _⟩ (fun v c1 hq hlen => ?_)
  obtain ⟨rfl, rfl⟩ := hq
  try dsimp only [sall, List.set, Option.toList, List.cons_append, List.nil_append]
  refine G_if_ne (pc := 6) M 18 dX6_since_6 (by decide) (fun h6 => ?_) (fun h6 => ?_)
  · have h6b : okN nd s a = false := by simpa using bz1 h6
    rw [h6b]
    refine G_iconst (pc := 18) (v := -1) M dX6_since_18 (by decide +kernel) ?_
    exact G_iret M hr dX6_since_19 rfl ⟨rfl, sLd P, rfl⟩
  · have h6b : okN nd s a = true := by simpa using bz0 (b := !okN nd s a) (by simpa using h6)
    have hs := okN_s h6b
    rw [h6b]
    refine G_aload_n (pc := 9) M dX6_since_9 rfl ?_
    refine G_iload_n (pc := 10) M dX6_since_10 rfl ?_
    refine G_iload_n (pc := 11) M dX6_since_11 rfl ?_
    refine G_callv (pc := 12) M [0, 1, 2] dX6_since_12 mv_X6_117 (c_noNode D _ (fun j => ad (pn [0, 1, 2] j)) _ _ f nd s b rfl hf (by rw [hnd]; rfl)) rfl ⟨rfl, rfl, rfl, trivial⟩ rfl rfl rfl rfl (Nat.le_of_ble_eq_true rfl) (Nat.le_of_ble_eq_true rfl) (Nat.le_of_ble_eq_true rfl) ⟨Nat.zero_le _, Nat.zero_le _⟩ (fun v c1 hq hlen => ?_)
    obtain ⟨rfl, rfl⟩ := hq
    try dsimp only [sall, List.set, Option.toList, List.cons_append, List.nil_append]
    refine G_if_eq (pc := 15) M 20 dX6_since_15 (by decide) (fun h15 => ?_) (fun h15 => ?_)
    · have h15b : okN nd s b = true := by simpa using bz0 (b := !okN nd s b) h15
      obtain ⟨i, k, -, -, hk, rfl⟩ := okN_of h6b hnd hn
      obtain ⟨i2, k2, -, -, hk2, rfl⟩ := okN_of h15b hnd hn
      rw [h15b]
      refine G_iload_n (pc := 20) M dX6_since_20 rfl ?_
      refine G_iload_n (pc := 21) M dX6_since_21 rfl ?_
      refine G_icmp_ne (pc := 22) M 27 dX6_since_22 (by decide) (fun h22 => ?_) (fun h22 => ?_)
      · have e6 : sinceC P fu fv (nI k) (nI k2) = match obt fu fv (sFn P) k k2 (sFn P) with
            | none => -2
            | some r => sAg P - sFt P r + 1 := by rw [sinceC, if_neg h22, cl_nI (n := k) (by omega), cl_nI (n := k2) (by omega)]
        refine G_aload_n (pc := 27) M dX6_since_27 rfl ?_
        refine G_getf (pc := 28) M dX6_since_28 fl_X6_11 rfl (by first | rfl | assumption) ?_
        refine G_iload_n (pc := 31) M dX6_since_31 rfl ?_
        refine G_aaload (pc := 32) M dX6_since_32 rfl (vp3 hs) (hf hs) ?_
        refine G_astore (pc := 33) M dX6_since_33 (Nat.le_of_ble_eq_true rfl) ?_
        refine G_aload (pc := 35) M dX6_since_35 rfl ?_
        refine G_getr (pc := 37) M dX6_since_37 fl_X6_83 rfl (by first | rfl | assumption) ?_
        refine G_iload_n (pc := 40) M dX6_since_40 rfl ?_
        refine G_iload_n (pc := 41) M dX6_since_41 rfl ?_
        refine G_callv (pc := 42) M [6, 7, 8, 9] dX6_since_42 mv_X6_148 (c_oldest D _ (fun j => ad (pn [6, 7, 8, 9] j)) (sFn P) k k2 (sFt P) (sFk P) (sLd P) fu fv hfn (by omega) (by omega) hK) rfl ⟨rfl, rfl, rfl, rfl, trivial⟩ rfl rfl rfl rfl (Nat.le_of_ble_eq_true rfl) (Nat.le_of_ble_eq_true rfl) (Nat.le_of_ble_eq_true rfl) ⟨Nat.zero_le _, Nat.zero_le _⟩ (fun v c1 hq hlen => ?_)
        obtain ⟨rfl, ld2, rfl⟩ := hq
        try dsimp only [sall, List.set, Option.toList, List.cons_append, List.nil_append]
        refine G_istore (pc := 45) M dX6_since_45 (Nat.le_of_ble_eq_true rfl) ?_
        refine G_iload (pc := 47) M dX6_since_47 rfl ?_
        refine G_bipush (pc := 49) (v := -2) M dX6_since_49 (by decide +kernel) ?_
        have hlt := obt_lt fu fv (sFn P) k k2 (sFn P)
        generalize obt fu fv (sFn P) k k2 (sFn P) = oo at *
        refine G_icmp_ne (pc := 51) M 57 dX6_since_51 (by decide) (fun h51 => ?_) (fun h51 => ?_)
        · obtain ⟨r, rfl⟩ : ∃ r, oo = some r := by
            cases oo with
            | none => exact absurd rfl h51
            | some r => exact ⟨r, rfl⟩
          have hr5 := hlt r rfl
          refine G_aload (pc := 57) M dX6_since_57 rfl ?_
          refine G_getf (pc := 59) M dX6_since_59 fl_X6_27 rfl (by first | rfl | assumption) ?_
          refine G_aload (pc := 62) M dX6_since_62 rfl ?_
          refine G_getr (pc := 64) M dX6_since_64 fl_X6_83 rfl (by first | rfl | assumption) ?_
          refine G_getr (pc := 67) M dX6_since_67 fl_X6_136 rfl (by first | rfl | assumption) ?_
          refine G_iload (pc := 70) M dX6_since_70 rfl ?_
          refine G_iaload (pc := 72) M dX6_since_72 rfl (by show vp_in (nI r) 64; exact vp_in_nI (by omega) (by omega)) ?_
          rw [show (oI (some r)).toNatClampNeg = r from cl_nI (by omega)]
          refine G_isub (pc := 73) M dX6_since_73 ?_
          refine G_iconst (pc := 74) (v := 1) M dX6_since_74 (by decide +kernel) ?_
          refine G_iadd (pc := 75) M dX6_since_75 ?_
          exact G_iret M hr dX6_since_76 rfl ⟨by rw [show (bif true && true then sinceC P fu fv (nI k) (nI k2) else -1) = sinceC P fu fv (nI k) (nI k2) from rfl, e6], ld2, rfl⟩
        · obtain rfl : oo = none := by
            cases oo with
            | none => rfl
            | some r =>
              have q : nI r = -2 := by simpa [oI] using h51
              have := nI_pos (n := r) (by have := hlt r rfl; omega)
              rw [q] at this
              exact absurd (by decide) this
          refine G_bipush (pc := 54) (v := -2) M dX6_since_54 (by decide +kernel) ?_
          exact G_iret M hr dX6_since_56 rfl ⟨by rw [show (bif true && true then sinceC P fu fv (nI k) (nI k2) else -1) = sinceC P fu fv (nI k) (nI k2) from rfl, e6], ld2, rfl⟩
      · have e5 : sinceC P fu fv (nI k) (nI k2) = 0 := if_pos (by simpa using h22)
        refine G_iconst (pc := 25) (v := 0) M dX6_since_25 (by decide +kernel) ?_
        exact G_iret M hr dX6_since_26 rfl ⟨by rw [show (bif true && true then sinceC P fu fv (nI k) (nI k2) else -1) = sinceC P fu fv (nI k) (nI k2) from rfl, e5], sLd P, rfl⟩
    · have h15b : okN nd s b = false := by simpa using bz1 h15
      rw [h15b]
      refine G_iconst (pc := 18) (v := -1) M dX6_since_18 (by decide +kernel) ?_
      exact G_iret M hr dX6_since_19 rfl ⟨rfl, sLd P, rfl⟩
