--NORM
/-! StreamCounts: far, kept, mate, sum, level, out -/
theorem c_far (D : DD) (l : Launch) (ad : Nat → Nat) (lev : Int32) (f : Nat → Option Nat) (P : SP) (nd : Nat → Int32) (s a b : Int32) (hf : okS s = true → f s.toNatClampNeg = some (ad 2)) (hnd : nd s.toNatClampNeg = nI (sNn P)) (hn : sNn P ≤ 64) : Ct D l mi_X6_far [.ref (ad 0), .int s, .int a, .int b] ad (scW D ad lev f P) (scQ D ad lev f P (bif okN nd s a && okN nd s b then dst (sNb P) (sNn P) b.toNatClampNeg 65 0 (one a.toNatClampNeg) (one a.toNatClampNeg) else -1)) := by
  refine Ct.of (by decide +kernel) (Nat.le_of_ble_eq_true rfl) (fun X A hX M hr => ?_)
  subst hX
  refine G_aload_n (pc := 0) M dX6_far_0 rfl ?_
  refine G_iload_n (pc := 1) M dX6_far_1 rfl ?_
  refine G_iload_n (pc := 2) M dX6_far_2 rfl ?_
  refine G_callv (pc := 3) M [0, 1, 2] dX6_far_3 mv_X6_117 (c_noNode D _ (fun j => ad (pn [0, 1, 2] j)) _ _ f nd s a rfl hf (by rw [hnd]; rfl)) rfl ⟨rfl, rfl, rfl, trivial⟩ rfl rfl rfl rfl (Nat.le_of_ble_eq_true rfl) (Nat.le_of_ble_eq_true rfl) (Nat.le_of_ble_eq_true rfl) ⟨Nat.zero_le _, Nat.zero_le _⟩ (fun v c1 hq hlen => ?_)
  obtain ⟨rfl, rfl⟩ := hq
  try dsimp only [sall, List.set, Option.toList, List.cons_append, List.nil_append]
  refine G_if_ne (pc := 6) M 18 dX6_far_6 (by decide) (fun h6 => ?_) (fun h6 => ?_)
  · have h6b : okN nd s a = false := by simpa using bz1 h6
    rw [h6b]
    refine G_iconst (pc := 18) (v := -1) M dX6_far_18 (by decide +kernel) ?_
    exact G_iret M hr dX6_far_19 rfl ⟨rfl, rfl⟩
  · have h6b : okN nd s a = true := by simpa using bz0 (b := !okN nd s a) (by simpa using h6)
    have hs := okN_s h6b
    rw [h6b]
    refine G_aload_n (pc := 9) M dX6_far_9 rfl ?_
    refine G_iload_n (pc := 10) M dX6_far_10 rfl ?_
    refine G_iload_n (pc := 11) M dX6_far_11 rfl ?_
    refine G_callv (pc := 12) M [0, 1, 2] dX6_far_12 mv_X6_117 (c_noNode D _ (fun j => ad (pn [0, 1, 2] j)) _ _ f nd s b rfl hf (by rw [hnd]; rfl)) rfl ⟨rfl, rfl, rfl, trivial⟩ rfl rfl rfl rfl (Nat.le_of_ble_eq_true rfl) (Nat.le_of_ble_eq_true rfl) (Nat.le_of_ble_eq_true rfl) ⟨Nat.zero_le _, Nat.zero_le _⟩ (fun v c1 hq hlen => ?_)
    obtain ⟨rfl, rfl⟩ := hq
    try dsimp only [sall, List.set, Option.toList, List.cons_append, List.nil_append]
    refine G_if_eq (pc := 15) M 20 dX6_far_15 (by decide) (fun h15 => ?_) (fun h15 => ?_)
    · have h15b : okN nd s b = true := by simpa using bz0 (b := !okN nd s b) h15
      obtain ⟨i, k, -, -, hk, rfl⟩ := okN_of h6b hnd hn
      obtain ⟨i2, k2, -, -, hk2, rfl⟩ := okN_of h15b hnd hn
      rw [h15b, cl_nI (n := k) (by omega), cl_nI (n := k2) (by omega)]
      refine G_aload_n (pc := 20) M dX6_far_20 rfl ?_
      refine G_getf (pc := 21) M dX6_far_21 fl_X6_11 rfl (by first | rfl | assumption) ?_
      refine G_iload_n (pc := 24) M dX6_far_24 rfl ?_
      refine G_aaload (pc := 25) M dX6_far_25 rfl (vp3 hs) (hf hs) ?_
      refine G_getr (pc := 26) M dX6_far_26 fl_X6_92 rfl (by first | rfl | assumption) ?_
      refine G_iload_n (pc := 29) M dX6_far_29 rfl ?_
      refine G_iload_n (pc := 30) M dX6_far_30 rfl ?_
      refine G_bipush (pc := 31) (v := 64) M dX6_far_31 (by decide +kernel) ?_
      refine G_callv (pc := 33) M [10, 13] dX6_far_33 mv_X6_151 (c_distance D _ (fun j => ad (pn [10, 13] j)) _ (sNn P) k k2 64 (sNb P) hn (by omega) (by omega) rfl rfl) rfl ⟨rfl, rfl, trivial⟩ rfl rfl rfl rfl (Nat.le_of_ble_eq_true rfl) (Nat.le_of_ble_eq_true rfl) (Nat.le_of_ble_eq_true rfl) ⟨Nat.zero_le _, Nat.zero_le _⟩ (fun v c1 hq hlen => ?_)
      obtain ⟨rfl, rfl⟩ := hq
      try dsimp only [sall, List.set, Option.toList, List.cons_append, List.nil_append]
      exact G_iret M hr dX6_far_36 rfl ⟨rfl, rfl⟩
    · have h15b : okN nd s b = false := by simpa using bz1 h15
      rw [h15b]
      refine G_iconst (pc := 18) (v := -1) M dX6_far_18 (by decide +kernel) ?_
      exact G_iret M hr dX6_far_19 rfl ⟨rfl, rfl⟩
def tArc (n : Nat) (ky : Nat → Int32) (fu fv : Nat → Nat) : Prop := ∀ i, i < n → ky i = nI (64 * fu i + fv i) ∧ fu i < 64 ∧ fv i < 64
def keptC (P : SP) (fu fv : Nat → Nat) (i w : Int32) : Int32 := if rng 0 2 w = true ∧ ¬ i < 0 ∧ i < nI (sZ P) then (if w = 2 then sTt P i.toNatClampNeg else if w = 0 then nI (fu i.toNatClampNeg) else nI (fv i.toNatClampNeg)) else -1
theorem c_kept (D : DD) (l : Launch) (ad : Nat → Nat) (lev : Int32) (f : Nat → Option Nat) (P : SP) (s i w : Int32) (fu fv : Nat → Nat) (hf : okS s = true → f s.toNatClampNeg = some (ad 2)) (hz : sZ P ≤ 512) (hK : tArc (sZ P) (sTq P) fu fv) : Ct D l mi_X6_kept [.ref (ad 0), .int s, .int i, .int w] ad (scW D ad lev f P) (scQ D ad lev f P (bif okS s then keptC P fu fv i w else -1)) := by
  refine Ct.of (by decide +kernel) (Nat.le_of_ble_eq_true rfl) (fun X A hX M hr => ?_)
  subst hX
  refine G_iload_n (pc := 0) M dX6_kept_0 rfl ?_
  refine G_calls (pc := 1) M [] dX6_kept_1 ms_X6_20 (c_noStream D _ (fun j => ad (pn [] j)) s) trivial rfl rfl rfl rfl (Nat.le_of_ble_eq_true rfl) (Nat.le_of_ble_eq_true rfl) (Nat.le_of_ble_eq_true rfl) ⟨Nat.zero_le _, Nat.zero_le _⟩ (fun v c1 hq hlen => ?_)
  obtain ⟨rfl, rfl⟩ := hq
  try dsimp only [sall, List.set, Option.toList, List.cons_append, List.nil_append]
  refine G_if_ne (pc := 4) M 16 dX6_kept_4 (by decide) (fun h4 => ?_) (fun h4 => ?_)
  · have hs : okS s = false := by simpa using bz1 h4
    rw [hs]
    refine G_iconst (pc := 16) (v := -1) M dX6_kept_16 (by decide +kernel) ?_
    exact G_iret M hr dX6_kept_17 rfl ⟨by first | rfl | rw [e5]; rfl, rfl⟩
  · have hs : okS s = true := by simpa using bz0 (b := !okS s) (by simpa using h4)
    rw [hs]
    refine G_iload_n (pc := 7) M dX6_kept_7 rfl ?_
    refine G_if_lt (pc := 8) M 16 dX6_kept_8 (by decide) (fun h8 => ?_) (fun h8 => ?_)
    · have e5 : keptC P fu fv i w = -1 := if_neg (fun q => by rw [rng_f1 h8] at q; cases q.1)
      refine G_iconst (pc := 16) (v := -1) M dX6_kept_16 (by decide +kernel) ?_
      exact G_iret M hr dX6_kept_17 rfl ⟨by first | rfl | rw [e5]; rfl, rfl⟩
    · refine G_iload_n (pc := 11) M dX6_kept_11 rfl ?_
      refine G_iconst (pc := 12) (v := 2) M dX6_kept_12 (by decide +kernel) ?_
      refine G_icmp_le (pc := 13) M 18 dX6_kept_13 (by decide) (fun h13 => ?_) (fun h13 => ?_)
      · have hw := rng_t h8 h13
        refine G_aload_n (pc := 18) M dX6_kept_18 rfl ?_
        refine G_getf (pc := 19) M dX6_kept_19 fl_X6_11 rfl (by first | rfl | assumption) ?_
        refine G_iload_n (pc := 22) M dX6_kept_22 rfl ?_
        refine G_aaload (pc := 23) M dX6_kept_23 rfl (vp3 hs) (hf hs) ?_
        refine G_getr (pc := 24) M dX6_kept_24 fl_X6_92 rfl (by first | rfl | assumption) ?_
        refine G_astore (pc := 27) M dX6_kept_27 (Nat.le_of_ble_eq_true rfl) ?_
        refine G_iload_n (pc := 29) M dX6_kept_29 rfl ?_
        refine G_if_lt (pc := 30) M 42 dX6_kept_30 (by decide) (fun h30 => ?_) (fun h30 => ?_)
        · have e5 : keptC P fu fv i w = -1 := if_neg (fun q => q.2.1 h30)
          refine G_iconst (pc := 42) (v := -1) M dX6_kept_42 (by decide +kernel) ?_
          exact G_iret M hr dX6_kept_43 rfl ⟨by rw [e5]; rfl, rfl⟩
        · refine G_iload_n (pc := 33) M dX6_kept_33 rfl ?_
          refine G_aload (pc := 34) M dX6_kept_34 rfl ?_
          refine G_getf (pc := 36) M dX6_kept_36 fl_X6_96 rfl (by first | rfl | assumption) ?_
          refine G_icmp_lt (pc := 39) M 44 dX6_kept_39 (by decide) (fun h39 => ?_) (fun h39 => ?_)
          · obtain ⟨p, hp, rfl⟩ : ∃ p : Nat, p < sZ P ∧ i = nI p := by
              obtain ⟨p, hp, rfl⟩ := nI_of h30
              exact ⟨p, (nI_ltI hp (by omega)).mp h39, rfl⟩
            obtain ⟨k1, k2, k3⟩ := hK p hp
            have e6 : keptC P fu fv (nI p) w = (if w = 2 then sTt P p else if w = 0 then nI (fu p) else nI (fv p)) := by rw [keptC, if_pos ⟨hw, h30, h39⟩, cl_nI (by omega)]
            refine G_iload_n (pc := 44) M dX6_kept_44 rfl ?_
            refine G_iconst (pc := 45) (v := 2) M dX6_kept_45 (by decide +kernel) ?_
            refine G_icmp_ne (pc := 46) M 57 dX6_kept_46 (by decide) (fun h46 => ?_) (fun h46 => ?_)
            · rw [if_neg h46] at e6
              refine G_iload_n (pc := 57) M dX6_kept_57 rfl ?_
              refine G_if_ne (pc := 58) M 74 dX6_kept_58 (by decide) (fun h58 => ?_) (fun h58 => ?_)
              · rw [if_neg h58] at e6
                refine G_aload (pc := 74) M dX6_kept_74 rfl ?_
                refine G_getr (pc := 76) M dX6_kept_76 fl_X6_155 rfl (by first | rfl | assumption) ?_
                refine G_iload_n (pc := 79) M dX6_kept_79 rfl ?_
                refine G_iaload (pc := 80) M dX6_kept_80 rfl (by first | assumption | exact vp_in_nI (by omega) (by omega)) ?_
                rw [cl_nI (by omega), k1]
                refine G_calls (pc := 81) M [] dX6_kept_81 ms_X6_145 (c_greaterNode D _ (fun j => ad (pn [] j)) (nI (64 * fu p + fv p))) trivial rfl rfl rfl rfl (Nat.le_of_ble_eq_true rfl) (Nat.le_of_ble_eq_true rfl) (Nat.le_of_ble_eq_true rfl) ⟨Nat.zero_le _, Nat.zero_le _⟩ (fun v c1 hq hlen => ?_)
                obtain ⟨rfl, rfl⟩ := hq
                try dsimp only [sall, List.set, Option.toList, List.cons_append, List.nil_append]
                exact G_iret M hr dX6_kept_84 rfl ⟨by first | (rw [e6]; rfl) | (rw [key_rem k2 k3, e6]; rfl), rfl⟩
              · rw [if_pos (by simpa using h58)] at e6
                refine G_aload (pc := 61) M dX6_kept_61 rfl ?_
                refine G_getr (pc := 63) M dX6_kept_63 fl_X6_155 rfl (by first | rfl | assumption) ?_
                refine G_iload_n (pc := 66) M dX6_kept_66 rfl ?_
                refine G_iaload (pc := 67) M dX6_kept_67 rfl (by first | assumption | exact vp_in_nI (by omega) (by omega)) ?_
                rw [cl_nI (by omega), k1]
                refine G_calls (pc := 68) M [] dX6_kept_68 ms_X6_142 (c_lesserNode D _ (fun j => ad (pn [] j)) (nI (64 * fu p + fv p))) trivial rfl rfl rfl rfl (Nat.le_of_ble_eq_true rfl) (Nat.le_of_ble_eq_true rfl) (Nat.le_of_ble_eq_true rfl) ⟨Nat.zero_le _, Nat.zero_le _⟩ (fun v c1 hq hlen => ?_)
                obtain ⟨rfl, rfl⟩ := hq
                try dsimp only [sall, List.set, Option.toList, List.cons_append, List.nil_append]
                rw [key_div k2 k3]
                refine G_goto (pc := 71) M 84 dX6_kept_71 (by decide) ?_
                exact G_iret M hr dX6_kept_84 rfl ⟨by first | (rw [e6]; rfl) | (rw [key_rem k2 k3, e6]; rfl), rfl⟩
            · rw [if_pos (by simpa using h46)] at e6
              refine G_aload (pc := 49) M dX6_kept_49 rfl ?_
              refine G_getr (pc := 51) M dX6_kept_51 fl_X6_154 rfl (by first | rfl | assumption) ?_
              refine G_iload_n (pc := 54) M dX6_kept_54 rfl ?_
              refine G_iaload (pc := 55) M dX6_kept_55 rfl (by first | assumption | exact vp_in_nI (by omega) (by omega)) ?_
              rw [cl_nI (by omega)]
              exact G_iret M hr dX6_kept_56 rfl ⟨by first | (rw [e6]; rfl) | (rw [key_rem k2 k3, e6]; rfl), rfl⟩
          · have e5 : keptC P fu fv i w = -1 := if_neg (fun q => h39 q.2.2)
            refine G_iconst (pc := 42) (v := -1) M dX6_kept_42 (by decide +kernel) ?_
            exact G_iret M hr dX6_kept_43 rfl ⟨by rw [e5]; rfl, rfl⟩
      · have e5 : keptC P fu fv i w = -1 := if_neg (fun q => by rw [rng_f2 h13] at q; cases q.1)
        refine G_iconst (pc := 16) (v := -1) M dX6_kept_16 (by decide +kernel) ?_
        exact G_iret M hr dX6_kept_17 rfl ⟨by first | rfl | rw [e5]; rfl, rfl⟩
theorem c_mate (D : DD) (l : Launch) (ad : Nat → Nat) (lev : Int32) (f : Nat → Option Nat) (P : SP) (nd : Nat → Int32) (s a : Int32) (hf : okS s = true → f s.toNatClampNeg = some (ad 2)) (hnd : nd s.toNatClampNeg = nI (sNn P)) (hn : sNn P ≤ 64) : Ct D l mi_X6_mate [.ref (ad 0), .int s, .int a] ad (scW D ad lev f P) (scQ D ad lev f P (bif okN nd s a then sMt P a.toNatClampNeg else -1)) := by
  refine Ct.of (by decide +kernel) (Nat.le_of_ble_eq_true rfl) (fun X A hX M hr => ?_)
  subst hX
  refine G_aload_n (pc := 0) M dX6_mate_0 rfl ?_
  refine G_iload_n (pc := 1) M dX6_mate_1 rfl ?_
  refine G_iload_n (pc := 2) M dX6_mate_2 rfl ?_
  refine G_callv (pc := 3) M [0, 1, 2] dX6_mate_3 mv_X6_117 (c_noNode D _ (fun j => ad (pn [0, 1, 2] j)) _ _ f nd s a rfl hf (by rw [hnd]; rfl)) rfl ⟨rfl, rfl, rfl, trivial⟩ rfl rfl rfl rfl (Nat.le_of_ble_eq_true rfl) (Nat.le_of_ble_eq_true rfl) (Nat.le_of_ble_eq_true rfl) ⟨Nat.zero_le _, Nat.zero_le _⟩ (fun v c1 hq hlen => ?_)
  obtain ⟨rfl, rfl⟩ := hq
  try dsimp only [sall, List.set, Option.toList, List.cons_append, List.nil_append]
  refine G_if_eq (pc := 6) M 11 dX6_mate_6 (by decide) (fun h6 => ?_) (fun h6 => ?_)
  · have h6b : okN nd s a = true := by simpa using bz0 (b := !okN nd s a) h6
    have hs := okN_s h6b
    have ha := okN_in h6b hnd hn
    rw [h6b]
    refine G_aload_n (pc := 11) M dX6_mate_11 rfl ?_
    refine G_getf (pc := 12) M dX6_mate_12 fl_X6_11 rfl (by first | rfl | assumption) ?_
    refine G_iload_n (pc := 15) M dX6_mate_15 rfl ?_
    refine G_aaload (pc := 16) M dX6_mate_16 rfl (vp3 hs) (hf hs) ?_
    refine G_getr (pc := 17) M dX6_mate_17 fl_X6_99 rfl (by first | rfl | assumption) ?_
    refine G_getr (pc := 20) M dX6_mate_20 fl_X6_156 rfl (by first | rfl | assumption) ?_
    refine G_iload_n (pc := 23) M dX6_mate_23 rfl ?_
    refine G_iaload (pc := 24) M dX6_mate_24 rfl (ha) ?_
    exact G_iret M hr dX6_mate_25 rfl ⟨rfl, rfl⟩
  · have h6b : okN nd s a = false := by simpa using bz1 h6
    rw [h6b]
    refine G_iconst (pc := 9) (v := -1) M dX6_mate_9 (by decide +kernel) ?_
    exact G_iret M hr dX6_mate_10 rfl ⟨rfl, rfl⟩
def sumC (P : SP) (a lv w : Int32) : Int64 := bif rng 0 9 lv && rng 0 2 w then sS P (30 * a.toNatClampNeg + (3 * lv.toNatClampNeg + w.toNatClampNeg)) else 0
theorem rng_of {hi x : Int32} {n : Nat} (hh : hi.toInt = n) (h : rng 0 hi x = true) : ∃ k : Nat, k ≤ n ∧ x = nI k := by
  simp only [rng, Bool.and_eq_true, Bool.not_eq_true', decide_eq_false_iff_not] at h
  exact nI_of2 hh h.1 (Int32.not_lt.mp h.2)
theorem lt_le1 {x : Int32} {a b : Int32} (h : b.toInt = a.toInt + 1) : x < b ↔ x ≤ a := by
  rw [Int32.lt_iff_toInt_lt, Int32.le_iff_toInt_le, h]
  omega
theorem c_sum (D : DD) (l : Launch) (ad : Nat → Nat) (lev : Int32) (f : Nat → Option Nat) (P : SP) (nd : Nat → Int32) (s a lv w : Int32) (hf : okS s = true → f s.toNatClampNeg = some (ad 2)) (hnd : nd s.toNatClampNeg = nI (sNn P)) (hn : sNn P ≤ 64) : Ct D l mi_X6_sum [.ref (ad 0), .int s, .int a, .int lv, .int w] ad (scW D ad lev f P) (fun v c => v = some (.long (bif okN nd s a then sumC P a lv w else 0)) ∧ c = scW D ad lev f P) := by
  refine Ct.of (by decide +kernel) (Nat.le_of_ble_eq_true rfl) (fun X A hX M hr => ?_)
  subst hX
  refine G_aload_n (pc := 0) M dX6_sum_0 rfl ?_
  refine G_iload_n (pc := 1) M dX6_sum_1 rfl ?_
  refine G_iload_n (pc := 2) M dX6_sum_2 rfl ?_
  refine G_callv (pc := 3) M [0, 1, 2] dX6_sum_3 mv_X6_117 (c_noNode D _ (fun j => ad (pn [0, 1, 2] j)) _ _ f nd s a rfl hf (by rw [hnd]; rfl)) rfl ⟨rfl, rfl, rfl, trivial⟩ rfl rfl rfl rfl (Nat.le_of_ble_eq_true rfl) (Nat.le_of_ble_eq_true rfl) (Nat.le_of_ble_eq_true rfl) ⟨Nat.zero_le _, Nat.zero_le _⟩ (fun v c1 hq hlen => ?_)
  obtain ⟨rfl, rfl⟩ := hq
  try dsimp only [sall, List.set, Option.toList, List.cons_append, List.nil_append]
  refine G_if_ne (pc := 6) M 30 dX6_sum_6 (by decide) (fun h6 => ?_) (fun h6 => ?_)
  · have h6b : okN nd s a = false := by simpa using bz1 h6
    rw [h6b]
    refine G_lconst (pc := 30) (v := 0) M dX6_sum_30 (by decide +kernel) ?_
    exact G_lret M hr dX6_sum_31 rfl ⟨by first | rfl | (rw [e5]; rfl), rfl⟩
  · have h6b : okN nd s a = true := by simpa using bz0 (b := !okN nd s a) (by simpa using h6)
    have hs := okN_s h6b
    rw [h6b]
    refine G_iload_n (pc := 9) M dX6_sum_9 rfl ?_
    refine G_if_lt (pc := 10) M 30 dX6_sum_10 (by decide) (fun h10 => ?_) (fun h10 => ?_)
    · have e5 : sumC P a lv w = 0 := by rw [sumC, rng_f1 h10]; rfl
      refine G_lconst (pc := 30) (v := 0) M dX6_sum_30 (by decide +kernel) ?_
      exact G_lret M hr dX6_sum_31 rfl ⟨by first | rfl | (rw [e5]; rfl), rfl⟩
    · refine G_iload_n (pc := 13) M dX6_sum_13 rfl ?_
      refine G_bipush (pc := 14) (v := 10) M dX6_sum_14 (by decide +kernel) ?_
      refine G_icmp_ge (pc := 16) M 30 dX6_sum_16 (by decide) (fun h16 => ?_) (fun h16 => ?_)
      · have e5 : sumC P a lv w = 0 := by rw [sumC, rng_f2 (fun q => Int32.not_lt.mpr h16 ((lt_le1 (a := 9) (b := 10) rfl).mpr q))]; rfl
        refine G_lconst (pc := 30) (v := 0) M dX6_sum_30 (by decide +kernel) ?_
        exact G_lret M hr dX6_sum_31 rfl ⟨by first | rfl | (rw [e5]; rfl), rfl⟩
      · have hlv : rng 0 9 lv = true := rng_t h10 ((lt_le1 (a := 9) (b := 10) rfl).mp (Int32.not_le.mp h16))
        refine G_iload (pc := 19) M dX6_sum_19 rfl ?_
        refine G_if_lt (pc := 21) M 30 dX6_sum_21 (by decide) (fun h21 => ?_) (fun h21 => ?_)
        · have e5 : sumC P a lv w = 0 := by rw [sumC, rng_f1 h21, Bool.and_false]; rfl
          refine G_lconst (pc := 30) (v := 0) M dX6_sum_30 (by decide +kernel) ?_
          exact G_lret M hr dX6_sum_31 rfl ⟨by first | rfl | (rw [e5]; rfl), rfl⟩
        · refine G_iload (pc := 24) M dX6_sum_24 rfl ?_
          refine G_iconst (pc := 26) (v := 3) M dX6_sum_26 (by decide +kernel) ?_
          refine G_icmp_lt (pc := 27) M 32 dX6_sum_27 (by decide) (fun h27 => ?_) (fun h27 => ?_)
          · have hw : rng 0 2 w = true := rng_t h21 ((lt_le1 (a := 2) (b := 3) rfl).mp h27)
            have e6 : sumC P a lv w = sS P (30 * a.toNatClampNeg + (3 * lv.toNatClampNeg + w.toNatClampNeg)) := by rw [sumC, hlv, hw]; rfl
            obtain ⟨i, k, -, -, hk, rfl⟩ := okN_of h6b hnd hn
            obtain ⟨v2, hv2, rfl⟩ := rng_of (n := 9) rfl hlv
            obtain ⟨w2, hw2, rfl⟩ := rng_of (n := 2) rfl hw
            rw [cl_nI (n := k) (by omega), cl_nI (n := v2) (by omega), cl_nI (n := w2) (by omega)] at e6
            refine G_aload_n (pc := 32) M dX6_sum_32 rfl ?_
            refine G_getf (pc := 33) M dX6_sum_33 fl_X6_11 rfl (by first | rfl | assumption) ?_
            refine G_iload_n (pc := 36) M dX6_sum_36 rfl ?_
            refine G_aaload (pc := 37) M dX6_sum_37 rfl (vp3 hs) (hf hs) ?_
            refine G_getr (pc := 38) M dX6_sum_38 fl_X6_42 rfl (by first | rfl | assumption) ?_
            refine G_getr (pc := 41) M dX6_sum_41 fl_X6_159 rfl (by first | rfl | assumption) ?_
            refine G_iload_n (pc := 44) M dX6_sum_44 rfl ?_
            refine G_iload_n (pc := 45) M dX6_sum_45 rfl ?_
            refine G_calls (pc := 46) M [] dX6_sum_46 ms_X6_163 (c_placeOf D _ (fun j => ad (pn [] j)) (nI k) (nI v2)) trivial rfl rfl rfl rfl (Nat.le_of_ble_eq_true rfl) (Nat.le_of_ble_eq_true rfl) (Nat.le_of_ble_eq_true rfl) ⟨Nat.zero_le _, Nat.zero_le _⟩ (fun v c1 hq hlen => ?_)
            obtain ⟨rfl, rfl⟩ := hq
            try dsimp only [sall, List.set, Option.toList, List.cons_append, List.nil_append]
            rw [plc]
            refine G_iload (pc := 49) M dX6_sum_49 rfl ?_
            refine G_iadd (pc := 51) M dX6_sum_51 ?_
            rw [nI_add, Nat.add_assoc]
            refine G_laload (pc := 52) M dX6_sum_52 rfl (by first | assumption | exact vp_in_nI (by omega) (by omega)) ?_
            rw [cl_nI (by omega)]
            exact G_lret M hr dX6_sum_53 rfl ⟨by rw [e6]; rfl, rfl⟩
          · have e5 : sumC P a lv w = 0 := by rw [sumC, rng_f2 (x := w) (fun q => h27 ((lt_le1 (a := 2) (b := 3) rfl).mpr q)), Bool.and_false]; rfl
            refine G_lconst (pc := 30) (v := 0) M dX6_sum_30 (by decide +kernel) ?_
            exact G_lret M hr dX6_sum_31 rfl ⟨by first | rfl | (rw [e5]; rfl), rfl⟩
theorem c_level (D : DD) (l : Launch) (ad : Nat → Nat) (x : Value) (lev : Int32) : Ct D l mi_X6_level [.ref (ad 0)] ad [ob 6 [x, .int lev]] (fun v c => v = some (.int lev) ∧ c = [ob 6 [x, .int lev]]) := by
  refine Ct.of (by decide +kernel) (Nat.le_of_ble_eq_true rfl) (fun X A hX M hr => ?_)
  subst hX
  refine G_aload_n (pc := 0) M dX6_level_0 rfl ?_
  refine G_getf (pc := 1) M dX6_level_1 fl_X6_16 rfl (by first | rfl | assumption) ?_
  exact G_iret M hr dX6_level_4 rfl ⟨rfl, rfl⟩
/-- the greatest level below m at which a key leads out -/
def oS (S : Nat → Int64) (set : Int64) (nn : Nat) : Nat → Option (Nat × Nat)
  | 0 => none
  | m + 1 => match oK S set m nn with
    | some k => some (m, k)
    | none => oS S set nn m
def oA (S : Nat → Int64) (set : Int64) (nn : Nat) : Option (Nat × Nat) → Int32
  | none => bif notB S set nn then -4 else -5
  | some q => nI q.2
def oL : Option (Nat × Nat) → Int32
  | none => -2
  | some q => nI q.1
theorem oI_ne (o : Option Nat) (h : ∀ k, o = some k → k < 2 ^ 30) : oI o = -2 ↔ o = none := by
  cases o with
  | none => exact ⟨fun _ => rfl, fun _ => rfl⟩
  | some k =>
    refine ⟨fun q => ?_, fun q => by cases q⟩
    have := nI_pos (n := k) (by have := h k rfl; omega)
    rw [show nI k = -2 from q] at this
    exact absurd (by decide) this
theorem oK_lt {S : Nat → Int64} {set : Int64} {lv nn k : Nat} (h : oK S set lv nn = some k) : k < 4096 := by
  unfold oK at h
  split at h
  · next hh =>
    obtain ⟨-, kk, h1, h2, -⟩ := hh
    rw [h2, lN_toNat h1] at h
    cases h
    exact h1
  · cases h
theorem out_loop {D : DD} {X : MX} {A : Nat → Prop} (M : CX D X A mi_X6_out.1.cls mi_X6_out.2.1 mi_X6_out.2.2.1 (miR mi_X6_out)) (hr : RT X mi_X6_out.2.2.2.1) {ad : Nat → Nat} {f : Nat → Option Nat} {P : SP} {s : Int32} {set : Int64} (hn : sNn P ≤ 64) : ∀ m : Nat, m ≤ 10 → ∀ z : Option Value,
    G D X A 0 0 (GQ D X A ad 18 (fun v c => v = some (.int (oA (sS P) set (sNn P) (oS (sS P) set (sNn P) m))) ∧ c = scW D ad (oL (oS (sS P) set (sNn P) m)) f P)) ad 30 [some (.ref (ad 0)), some (.int s), some (.long set), none, some (.ref (ad 16)), some (.int (nI m - 1)), z] [] (scW D ad (-2) f P) := by
  intro m
  induction m with
  | zero =>
    intro _ z
    refine G_iload (pc := 30) M dX6_out_30 rfl ?_
    refine G_if_lt (pc := 32) M 67 dX6_out_32 (by decide) (fun h32 => ?_) (fun h32 => ?_)
    · refine G_aload (pc := 67) M dX6_out_67 rfl ?_
      refine G_lload_n (pc := 69) M dX6_out_69 rfl ?_
      refine G_callv (pc := 70) M [16, 17] dX6_out_70 mv_X6_170 (c_isNothing D _ (fun j => ad (pn [16, 17] j)) (sNn P) (sSd P) set (sS P) hn) rfl ⟨rfl, rfl, trivial⟩ rfl rfl rfl rfl (Nat.le_of_ble_eq_true rfl) (Nat.le_of_ble_eq_true rfl) (Nat.le_of_ble_eq_true rfl) ⟨Nat.zero_le _, Nat.zero_le _⟩ (fun v c1 hq hlen => ?_)
      obtain ⟨rfl, rfl⟩ := hq
      try dsimp only [sall, List.set, Option.toList, List.cons_append, List.nil_append]
      refine G_if_eq (pc := 73) M 81 dX6_out_73 (by decide) (fun h73 => ?_) (fun h73 => ?_)
      · have e := bz0 h73
        refine G_bipush (pc := 81) (v := -5) M dX6_out_81 (by decide +kernel) ?_
        exact G_iret M hr dX6_out_83 rfl ⟨by simp only [oS, oA, e]; rfl, rfl⟩
      · have e := bz1 h73
        refine G_bipush (pc := 76) (v := -4) M dX6_out_76 (by decide +kernel) ?_
        refine G_goto (pc := 78) M 83 dX6_out_78 (by decide) ?_
        exact G_iret M hr dX6_out_83 rfl ⟨by simp only [oS, oA, e]; rfl, rfl⟩
    · exact absurd ((dec_neg (by omega)).mpr rfl) h32
  | succ m ih =>
    intro hm z
    rw [nI_pred]
    have hlt : ∀ k, oK (sS P) set m (sNn P) = some k → k < 2 ^ 30 := fun k h => by have := oK_lt h; omega
    refine G_iload (pc := 30) M dX6_out_30 rfl ?_
    refine G_if_lt (pc := 32) M 67 dX6_out_32 (by decide) (fun h32 => ?_) (fun h32 => ?_)
    · exact absurd h32 (nI_pos (by omega))
    · refine G_aload (pc := 35) M dX6_out_35 rfl ?_
      refine G_lload_n (pc := 37) M dX6_out_37 rfl ?_
      refine G_iload (pc := 38) M dX6_out_38 rfl ?_
      refine G_callv (pc := 40) M [16, 17] dX6_out_40 mv_X6_166 (c_keyOutOf D _ (fun j => ad (pn [16, 17] j)) (sNn P) m (sSd P) set (sS P) hn (by omega)) rfl ⟨rfl, rfl, trivial⟩ rfl rfl rfl rfl (Nat.le_of_ble_eq_true rfl) (Nat.le_of_ble_eq_true rfl) (Nat.le_of_ble_eq_true rfl) ⟨Nat.zero_le _, Nat.zero_le _⟩ (fun v c1 hq hlen => ?_)
      obtain ⟨rfl, rfl⟩ := hq
      try dsimp only [sall, List.set, Option.toList, List.cons_append, List.nil_append]
      refine G_istore (pc := 43) M dX6_out_43 (Nat.le_of_ble_eq_true rfl) ?_
      refine G_iload (pc := 45) M dX6_out_45 rfl ?_
      refine G_bipush (pc := 47) (v := -2) M dX6_out_47 (by decide +kernel) ?_
      refine G_icmp_eq (pc := 49) M 61 dX6_out_49 (by decide) (fun h49 => ?_) (fun h49 => ?_)
      · have e := (oI_ne _ hlt).mp h49
        refine G_iinc (pc := 61) (v := -1) M dX6_out_61 rfl (by decide +kernel) (Nat.le_of_ble_eq_true rfl) ?_
        refine G_goto (pc := 64) M 30 dX6_out_64 (by decide) ?_
        have := ih (by omega)
        rw [m1_sub]
        simp only [oS, e]
        exact this _
      · obtain ⟨k, e⟩ : ∃ k, oK (sS P) set m (sNn P) = some k := by
          cases hq : oK (sS P) set m (sNn P) with
          | none => rw [hq] at h49; exact absurd rfl h49
          | some k => exact ⟨k, rfl⟩
        refine G_aload_n (pc := 52) M dX6_out_52 rfl ?_
        refine G_iload (pc := 53) M dX6_out_53 rfl ?_
        refine G_putfi (pc := 55) M dX6_out_55 fl_X6_16 rfl (Nat.le_of_ble_eq_true rfl) ?_
        try dsimp only [List.set]
        refine G_iload (pc := 58) M dX6_out_58 rfl ?_
        exact G_iret M hr dX6_out_60 rfl ⟨by simp only [oS, oA, e]; rfl, by simp only [oS, oL, e]; rfl⟩
theorem c_out (D : DD) (l : Launch) (ad : Nat → Nat) (lev : Int32) (f : Nat → Option Nat) (P : SP) (s : Int32) (set : Int64) (hf : okS s = true → f s.toNatClampNeg = some (ad 2)) (hn : sNn P ≤ 64) : Ct D l mi_X6_out [.ref (ad 0), .int s, .long set] ad (scW D ad lev f P) (fun v c => v = some (.int (bif okS s then oA (sS P) set (sNn P) (oS (sS P) set (sNn P) 10) else -1)) ∧ c = scW D ad (bif okS s then oL (oS (sS P) set (sNn P) 10) else lev) f P) := by
  refine Ct.of (by decide +kernel) (Nat.le_of_ble_eq_true rfl) (fun X A hX M hr => ?_)
  subst hX
  refine G_iload_n (pc := 0) M dX6_out_0 rfl ?_
  refine G_calls (pc := 1) M [] dX6_out_1 ms_X6_20 (c_noStream D _ (fun j => ad (pn [] j)) s) trivial rfl rfl rfl rfl (Nat.le_of_ble_eq_true rfl) (Nat.le_of_ble_eq_true rfl) (Nat.le_of_ble_eq_true rfl) ⟨Nat.zero_le _, Nat.zero_le _⟩ (fun v c1 hq hlen => ?_)
  obtain ⟨rfl, rfl⟩ := hq
  try dsimp only [sall, List.set, Option.toList, List.cons_append, List.nil_append]
  refine G_if_eq (pc := 4) M 9 dX6_out_4 (by decide) (fun h4 => ?_) (fun h4 => ?_)
  · have hs : okS s = true := by simpa using bz0 h4
    rw [hs]
    refine G_aload_n (pc := 9) M dX6_out_9 rfl ?_
    refine G_getf (pc := 10) M dX6_out_10 fl_X6_11 rfl (by first | rfl | assumption) ?_
    refine G_iload_n (pc := 13) M dX6_out_13 rfl ?_
    refine G_aaload (pc := 14) M dX6_out_14 rfl (vp3 hs) (hf hs) ?_
    refine G_getr (pc := 15) M dX6_out_15 fl_X6_42 rfl (by first | rfl | assumption) ?_
    refine G_astore (pc := 18) M dX6_out_18 (Nat.le_of_ble_eq_true rfl) ?_
    refine G_aload_n (pc := 20) M dX6_out_20 rfl ?_
    refine G_bipush (pc := 21) (v := -2) M dX6_out_21 (by decide +kernel) ?_
    refine G_putfi (pc := 23) M dX6_out_23 fl_X6_16 rfl (Nat.le_of_ble_eq_true rfl) ?_
    try dsimp only [List.set]
    refine G_bipush (pc := 26) (v := 9) M dX6_out_26 (by decide +kernel) ?_
    refine G_istore (pc := 28) M dX6_out_28 (Nat.le_of_ble_eq_true rfl) ?_
    exact out_loop M hr hn 10 (by omega) _
  · have hs : okS s = false := by simpa using bz1 h4
    rw [hs]
    refine G_iconst (pc := 7) (v := -1) M dX6_out_7 (by decide +kernel) ?_
    exact G_iret M hr dX6_out_8 rfl ⟨rfl, rfl⟩
