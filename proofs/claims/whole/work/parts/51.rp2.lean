--NORM
/-! the reference's calls that only read: those over the arcs -/
theorem r_parts (D : DD) (l : Launch) (ad : Nat → Nat) (nd : Nat → Int32) (sl : Nat → Int32) (sr : Nat → Int32) (sd : Nat → Int64) (ag : Nat → Int32) (lo : Nat → Int32) (lw : Nat → Int32) (hg : Nat → Int32) (ct : Nat → Int32) (mt : Nat → Int32) (sm : Nat → Int64) (th : Nat → Int32) (tn : Nat → Int32) (lev : Int32) (le : Nat → Int32) (jo : Nat → Int32) (wy : Nat → Int32) (s n : Int32) (g : Nat) (u v : Nat → Nat) (hg4 : g ≤ 4200) (hag : okS s = true → ag s.toNatClampNeg = nI g) (hu : okS s = true → ∀ t, t < g → lw (4200 * s.toNatClampNeg + t) = nI (u t) ∧ u t < 64) (hv : okS s = true → ∀ t, t < g → hg (4200 * s.toNatClampNeg + t) = nI (v t) ∧ v t < 64) : Ct D l mi_X7_parts [.ref (ad 0), .int s, .int n] ad (rfW D ad nd sl sr sd ag lo lw hg ct mt sm th tn lev le jo wy) (fun r c => r = some (.int (bif okS s && !decide (n < 0) then nd s.toNatClampNeg - nI (cj u v g (min n.toNatClampNeg g)) else -1)) ∧ ∃ le2 jo2, c = rfW D ad nd sl sr sd ag lo lw hg ct mt sm th tn lev (le2) (jo2) wy) := by
  refine Ct.of (by decide +kernel) (Nat.le_of_ble_eq_true rfl) (fun X A hX M hr => ?_)
  subst hX
  refine G_iload_n (pc := 0) M dX7_parts_0 rfl ?_
  refine G_calls (pc := 1) M [] dX7_parts_1 ms_X7_64 (c_isStream D _ (fun j => ad (pn [] j)) s) trivial rfl rfl rfl rfl (Nat.le_of_ble_eq_true rfl) (Nat.le_of_ble_eq_true rfl) (Nat.le_of_ble_eq_true rfl) ⟨Nat.zero_le _, Nat.zero_le _⟩ (fun v c1 hq hlen => ?_)
  obtain ⟨rfl, rfl⟩ := hq
  try dsimp only [sall, List.set, Option.toList, List.cons_append, List.nil_append]
  refine G_if_eq (pc := 4) M 11 dX7_parts_4 (by decide) (fun h4 => ?_) (fun h4 => ?_)
  · rw [bz0 h4]
    refine G_iconst (pc := 11) (v := -1) M dX7_parts_11 (by decide +kernel) ?_
    refine G_goto (pc := 12) M 21 dX7_parts_12 (by decide) ?_
    first | exact G_iret M hr dX7_parts_21 rfl ⟨rfl, _, _, rfl⟩ | exact G_iret M hr dX7_parts_21 rfl ⟨rfl, le, jo, rfl⟩
  · have hs := bz1 h4
    have hag := hag hs
    have hu := hu hs
    have hv := hv hs
    rw [hs]
    obtain ⟨si, hsi, rfl⟩ := okS_of hs
    rw [cl_nI (n := si) (by omega)] at hag hu hv
    rw [cl_nI (n := si) (by omega)]
    refine G_iload_n (pc := 7) M dX7_parts_7 rfl ?_
    refine G_if_ge (pc := 8) M 15 dX7_parts_8 (by decide) (fun h8 => ?_) (fun h8 => ?_)
    · rw [decide_eq_false (Int32.not_lt.mpr h8)]
      obtain ⟨n1, hn1, rfl⟩ := nI_of (Int32.not_lt.mpr h8)
      rw [cl_nI hn1]
      refine G_aload_n (pc := 15) M dX7_parts_15 rfl ?_
      refine G_iload_n (pc := 16) M dX7_parts_16 rfl ?_
      refine G_iload_n (pc := 17) M dX7_parts_17 rfl ?_
      refine G_callv (pc := 18) M [0, 1, 5, 7, 8, 14, 15] dX7_parts_18 mv_X7_115 (c_join D _ (fun j => ad (pn [0, 1, 5, 7, 8, 14, 15] j)) _ nd ag lw hg le jo si g n1 u v hsi hg4 hn1 hag hu hv rfl rfl rfl rfl rfl rfl) rfl ⟨rfl, rfl, rfl, rfl, rfl, rfl, rfl, trivial⟩ rfl rfl rfl rfl (Nat.le_of_ble_eq_true rfl) (Nat.le_of_ble_eq_true rfl) (Nat.le_of_ble_eq_true rfl) ⟨Nat.zero_le _, Nat.zero_le _⟩ (fun v c1 hq hlen => ?_)
      obtain ⟨rfl, rfl⟩ := hq
      try dsimp only [sall, List.set, Option.toList, List.cons_append, List.nil_append]
      first | exact G_iret M hr dX7_parts_21 rfl ⟨rfl, _, _, rfl⟩ | exact G_iret M hr dX7_parts_21 rfl ⟨rfl, le, jo, rfl⟩
    · rw [decide_eq_true (Int32.not_le.mp h8)]
      refine G_iconst (pc := 11) (v := -1) M dX7_parts_11 (by decide +kernel) ?_
      refine G_goto (pc := 12) M 21 dX7_parts_12 (by decide) ?_
      first | exact G_iret M hr dX7_parts_21 rfl ⟨rfl, _, _, rfl⟩ | exact G_iret M hr dX7_parts_21 rfl ⟨rfl, le, jo, rfl⟩
theorem r_part (D : DD) (l : Launch) (ad : Nat → Nat) (nd : Nat → Int32) (sl : Nat → Int32) (sr : Nat → Int32) (sd : Nat → Int64) (ag : Nat → Int32) (lo : Nat → Int32) (lw : Nat → Int32) (hg : Nat → Int32) (ct : Nat → Int32) (mt : Nat → Int32) (sm : Nat → Int64) (th : Nat → Int32) (tn : Nat → Int32) (lev : Int32) (le : Nat → Int32) (jo : Nat → Int32) (wy : Nat → Int32) (s n a : Int32) (nn : Nat) (hnd : okS s = true → nd s.toNatClampNeg = nI nn) (hn : nn ≤ 64) (g : Nat) (u v : Nat → Nat) (hg4 : g ≤ 4200) (hag : okS s = true → ag s.toNatClampNeg = nI g) (hu : okS s = true → ∀ t, t < g → lw (4200 * s.toNatClampNeg + t) = nI (u t) ∧ u t < 64) (hv : okS s = true → ∀ t, t < g → hg (4200 * s.toNatClampNeg + t) = nI (v t) ∧ v t < 64) : Ct D l mi_X7_part [.ref (ad 0), .int s, .int n, .int a] ad (rfW D ad nd sl sr sd ag lo lw hg ct mt sm th tn lev le jo wy) (fun r c => r = some (.int (bif okN nd s a && !decide (n < 0) then nI (lab u v g (min n.toNatClampNeg g) a.toNatClampNeg) else -1)) ∧ ∃ le2 jo2, c = rfW D ad nd sl sr sd ag lo lw hg ct mt sm th tn lev (le2) (jo2) wy) := by
  refine Ct.of (by decide +kernel) (Nat.le_of_ble_eq_true rfl) (fun X A hX M hr => ?_)
  subst hX
  refine G_aload_n (pc := 0) M dX7_part_0 rfl ?_
  refine G_iload_n (pc := 1) M dX7_part_1 rfl ?_
  refine G_iload_n (pc := 2) M dX7_part_2 rfl ?_
  refine G_callv (pc := 3) M [0, 1] dX7_part_3 mv_X7_76 (c_isNode D _ (fun j => ad (pn [0, 1] j)) _ nd s a rfl) rfl ⟨rfl, rfl, trivial⟩ rfl rfl rfl rfl (Nat.le_of_ble_eq_true rfl) (Nat.le_of_ble_eq_true rfl) (Nat.le_of_ble_eq_true rfl) ⟨Nat.zero_le _, Nat.zero_le _⟩ (fun v c1 hq hlen => ?_)
  obtain ⟨rfl, rfl⟩ := hq
  try dsimp only [sall, List.set, Option.toList, List.cons_append, List.nil_append]
  refine G_if_eq (pc := 6) M 13 dX7_part_6 (by decide) (fun h6 => ?_) (fun h6 => ?_)
  · rw [bz0 h6]
    refine G_iconst (pc := 13) (v := -1) M dX7_part_13 (by decide +kernel) ?_
    exact G_iret M hr dX7_part_14 rfl ⟨rfl, le, jo, rfl⟩
  · have h6b := bz1 h6
    have hs := okN_s h6b
    have hag := hag hs
    have hu := hu hs
    have hv := hv hs
    rw [h6b]
    obtain ⟨si, k, hsi, rfl, hk, rfl⟩ := okN_of h6b (hnd hs) hn
    rw [cl_nI (n := si) (by omega)] at hag hu hv
    rw [cl_nI (n := k) (by omega)]
    refine G_iload_n (pc := 9) M dX7_part_9 rfl ?_
    refine G_if_ge (pc := 10) M 15 dX7_part_10 (by decide) (fun h10 => ?_) (fun h10 => ?_)
    · rw [decide_eq_false (Int32.not_lt.mpr h10)]
      obtain ⟨n1, hn1, rfl⟩ := nI_of (Int32.not_lt.mpr h10)
      rw [cl_nI hn1]
      refine G_aload_n (pc := 15) M dX7_part_15 rfl ?_
      refine G_iload_n (pc := 16) M dX7_part_16 rfl ?_
      refine G_iload_n (pc := 17) M dX7_part_17 rfl ?_
      refine G_callv (pc := 18) M [0, 1, 5, 7, 8, 14, 15] dX7_part_18 mv_X7_115 (c_join D _ (fun j => ad (pn [0, 1, 5, 7, 8, 14, 15] j)) _ nd ag lw hg le jo si g n1 u v hsi hg4 hn1 hag hu hv rfl rfl rfl rfl rfl rfl) rfl ⟨rfl, rfl, rfl, rfl, rfl, rfl, rfl, trivial⟩ rfl rfl rfl rfl (Nat.le_of_ble_eq_true rfl) (Nat.le_of_ble_eq_true rfl) (Nat.le_of_ble_eq_true rfl) ⟨Nat.zero_le _, Nat.zero_le _⟩ (fun v c1 hq hlen => ?_)
      obtain ⟨rfl, rfl⟩ := hq
      try dsimp only [sall, List.set, Option.toList, List.cons_append, List.nil_append]
      refine G_istore (pc := 21) M dX7_part_21 (Nat.le_of_ble_eq_true rfl) ?_
      refine G_aload_n (pc := 23) M dX7_part_23 rfl ?_
      refine G_getf (pc := 24) M dX7_part_24 fl_X7_54 rfl (by first | rfl | assumption) ?_
      refine G_iload_n (pc := 27) M dX7_part_27 rfl ?_
      refine G_iaload (pc := 28) M dX7_part_28 rfl (by first | assumption | exact vp_in_nI (by omega) (by omega)) ?_
      rw [cl_nI (by omega)]
      exact G_iret M hr dX7_part_29 rfl ⟨rfl, _, _, rfl⟩
    · rw [decide_eq_true (Int32.not_le.mp h10)]
      refine G_iconst (pc := 13) (v := -1) M dX7_part_13 (by decide +kernel) ?_
      exact G_iret M hr dX7_part_14 rfl ⟨rfl, le, jo, rfl⟩
def toldR (nd sl sr ag lo ct mt tn : Nat → Int32) (u v : Nat → Nat) (g s : Nat) (w : Int32) : Int32 := if w = 0 then ag s else if w = 1 then nI (cntP (fun a => ct (64 * s + a)) 64) else if w = 2 then lo s else if w = 3 then nd s - (nd s - nI (cj u v g g)) else if w = 4 then tn s else if w = 5 then nI (cntP (fun a => mt (64 * s + a)) 64 / 2) else if w = 6 then nd s else if w = 7 then sl s else if w = 8 then sr s else -1
theorem r_told (D : DD) (l : Launch) (ad : Nat → Nat) (nd : Nat → Int32) (sl : Nat → Int32) (sr : Nat → Int32) (sd : Nat → Int64) (ag : Nat → Int32) (lo : Nat → Int32) (lw : Nat → Int32) (hg : Nat → Int32) (ct : Nat → Int32) (mt : Nat → Int32) (sm : Nat → Int64) (th : Nat → Int32) (tn : Nat → Int32) (lev : Int32) (le : Nat → Int32) (jo : Nat → Int32) (wy : Nat → Int32) (s w : Int32) (g : Nat) (u v : Nat → Nat) (hg4 : g ≤ 4200) (hag : okS s = true → ag s.toNatClampNeg = nI g) (hu : okS s = true → ∀ t, t < g → lw (4200 * s.toNatClampNeg + t) = nI (u t) ∧ u t < 64) (hv : okS s = true → ∀ t, t < g → hg (4200 * s.toNatClampNeg + t) = nI (v t) ∧ v t < 64) : Ct D l mi_X7_told [.ref (ad 0), .int s, .int w] ad (rfW D ad nd sl sr sd ag lo lw hg ct mt sm th tn lev le jo wy) (fun r c => r = some (.int (bif okS s then toldR nd sl sr ag lo ct mt tn u v g s.toNatClampNeg w else -1)) ∧ ∃ le2 jo2, c = rfW D ad nd sl sr sd ag lo lw hg ct mt sm th tn lev (le2) (jo2) wy) := by
  refine Ct.of (by decide +kernel) (Nat.le_of_ble_eq_true rfl) (fun X A hX M hr => ?_)
  subst hX
  have sw : ∀ (si k t : Nat) (off : Int) (Q : State → Prop), #[48, 55, 61, 68, 87, 94, 100, 107][k]? = some off → (20 : Int) + off = (t : Int) → w.toInt = k → k ≤ 7 → G D X A 0 0 Q ad t [some (.ref (ad 0)), some (.int (nI si)), some (.int w)] [] (rfW D ad nd sl sr sd ag lo lw hg ct mt sm th tn lev le jo wy) → G D X A 0 0 Q ad 20 [some (.ref (ad 0)), some (.int (nI si)), some (.int w)] [.int w] (rfW D ad nd sl sr sd ag lo lw hg ct mt sm th tn lev le jo wy) := by
    intro si k t off Q h1 h2 h3 h4 h5
    refine G_tableIn (pc := 20) M t dX7_told_20 (by omega) (by omega) ?_ h2 h5
    rw [h3, show ((k : Int) - 0).toNat = k by omega]
    exact h1
  refine G_iload_n (pc := 0) M dX7_told_0 rfl ?_
  refine G_calls (pc := 1) M [] dX7_told_1 ms_X7_64 (c_isStream D _ (fun j => ad (pn [] j)) s) trivial rfl rfl rfl rfl (Nat.le_of_ble_eq_true rfl) (Nat.le_of_ble_eq_true rfl) (Nat.le_of_ble_eq_true rfl) ⟨Nat.zero_le _, Nat.zero_le _⟩ (fun v c1 hq hlen => ?_)
  obtain ⟨rfl, rfl⟩ := hq
  try dsimp only [sall, List.set, Option.toList, List.cons_append, List.nil_append]
  refine G_if_eq (pc := 4) M 17 dX7_told_4 (by decide) (fun h4 => ?_) (fun h4 => ?_)
  · rw [bz0 h4]
    refine G_iconst (pc := 17) (v := -1) M dX7_told_17 (by decide +kernel) ?_
    exact G_iret M hr dX7_told_18 rfl ⟨by first | rfl | (rw [e5]; rfl), le, jo, rfl⟩
  · have hs := bz1 h4
    have hag := hag hs
    have hu := hu hs
    have hv := hv hs
    rw [hs]
    obtain ⟨si, hsi, rfl⟩ := okS_of hs
    rw [cl_nI (n := si) (by omega)] at hag hu hv
    rw [cl_nI (n := si) (by omega)]
    have bad : (w.toInt < 0 ∨ 8 < w.toInt) → toldR nd sl sr ag lo ct mt tn u v g si w = -1 := by
      intro hw
      have q : ∀ k : Int32, (0 ≤ k.toInt ∧ k.toInt ≤ 8) → ¬ w = k := fun k hk z => by subst z; omega
      simp only [toldR, q 0 (by decide), q 1 (by decide), q 2 (by decide), q 3 (by decide), q 4 (by decide), q 5 (by decide), q 6 (by decide), q 7 (by decide), q 8 (by decide), if_false]
    refine G_iload_n (pc := 7) M dX7_told_7 rfl ?_
    refine G_if_lt (pc := 8) M 17 dX7_told_8 (by decide) (fun h8 => ?_) (fun h8 => ?_)
    · have e5 := bad (Or.inl (by have := Int32.lt_iff_toInt_lt.mp h8; simpa using this))
      refine G_iconst (pc := 17) (v := -1) M dX7_told_17 (by decide +kernel) ?_
      exact G_iret M hr dX7_told_18 rfl ⟨by first | rfl | (rw [e5]; rfl), le, jo, rfl⟩
    · refine G_iload_n (pc := 11) M dX7_told_11 rfl ?_
      refine G_bipush (pc := 12) (v := 8) M dX7_told_12 (by decide +kernel) ?_
      refine G_icmp_le (pc := 14) M 19 dX7_told_14 (by decide) (fun h14 => ?_) (fun h14 => ?_)
      · have hw8 : ¬ (w.toInt < 0 ∨ 8 < w.toInt) := by
          have a1 := Int32.le_iff_toInt_le.mp h14
          have a2 := Int32.le_iff_toInt_le.mp (Int32.not_lt.mp h8)
          simp at a1 a2
          omega
        refine G_iload_n (pc := 19) M dX7_told_19 rfl ?_
        rcases w_cases w with (rfl | rfl | rfl | rfl | rfl | rfl | rfl | rfl | rfl) | hw
        · refine sw si 0 68 48 _ rfl rfl rfl (by omega) ?_
          refine G_aload_n (pc := 68) M dX7_told_68 rfl ?_
          refine G_getf (pc := 69) M dX7_told_69 fl_X7_23 rfl (by first | rfl | assumption) ?_
          refine G_iload_n (pc := 72) M dX7_told_72 rfl ?_
          refine G_iaload (pc := 73) M dX7_told_73 rfl (vp_in_nI (by omega) (by omega)) ?_
          rw [cl_nI (by omega)]
          exact G_iret M hr dX7_told_74 rfl ⟨rfl, le, jo, rfl⟩
        · refine sw si 1 75 55 _ rfl rfl rfl (by omega) ?_
          refine G_aload_n (pc := 75) M dX7_told_75 rfl ?_
          refine G_iload_n (pc := 76) M dX7_told_76 rfl ?_
          refine G_callv (pc := 77) M [0, 9] dX7_told_77 mv_X7_68 (c_taken D _ (fun j => ad (pn [0, 9] j)) _ ct si hsi rfl) rfl ⟨rfl, rfl, trivial⟩ rfl rfl rfl rfl (Nat.le_of_ble_eq_true rfl) (Nat.le_of_ble_eq_true rfl) (Nat.le_of_ble_eq_true rfl) ⟨Nat.zero_le _, Nat.zero_le _⟩ (fun v c1 hq hlen => ?_)
          obtain ⟨rfl, rfl⟩ := hq
          try dsimp only [sall, List.set, Option.toList, List.cons_append, List.nil_append]
          exact G_iret M hr dX7_told_80 rfl ⟨rfl, le, jo, rfl⟩
        · refine sw si 2 81 61 _ rfl rfl rfl (by omega) ?_
          refine G_aload_n (pc := 81) M dX7_told_81 rfl ?_
          refine G_getf (pc := 82) M dX7_told_82 fl_X7_26 rfl (by first | rfl | assumption) ?_
          refine G_iload_n (pc := 85) M dX7_told_85 rfl ?_
          refine G_iaload (pc := 86) M dX7_told_86 rfl (vp_in_nI (by omega) (by omega)) ?_
          rw [cl_nI (by omega)]
          exact G_iret M hr dX7_told_87 rfl ⟨rfl, le, jo, rfl⟩
        · refine sw si 3 88 68 _ rfl rfl rfl (by omega) ?_
          refine G_aload_n (pc := 88) M dX7_told_88 rfl ?_
          refine G_getf (pc := 89) M dX7_told_89 fl_X7_7 rfl (by first | rfl | assumption) ?_
          refine G_iload_n (pc := 92) M dX7_told_92 rfl ?_
          refine G_iaload (pc := 93) M dX7_told_93 rfl (vp_in_nI (by omega) (by omega)) ?_
          rw [cl_nI (by omega)]
          refine G_aload_n (pc := 94) M dX7_told_94 rfl ?_
          refine G_iload_n (pc := 95) M dX7_told_95 rfl ?_
          refine G_aload_n (pc := 96) M dX7_told_96 rfl ?_
          refine G_getf (pc := 97) M dX7_told_97 fl_X7_23 rfl (by first | rfl | assumption) ?_
          refine G_iload_n (pc := 100) M dX7_told_100 rfl ?_
          refine G_iaload (pc := 101) M dX7_told_101 rfl (vp_in_nI (by omega) (by omega)) ?_
          rw [cl_nI (by omega), hag]
          refine G_callv (pc := 102) M [0, 1, 5, 7, 8, 14, 15] dX7_told_102 mv_X7_115 (c_join D _ (fun j => ad (pn [0, 1, 5, 7, 8, 14, 15] j)) _ nd ag lw hg le jo si g g u v hsi hg4 (by omega) hag hu hv rfl rfl rfl rfl rfl rfl) rfl ⟨rfl, rfl, rfl, rfl, rfl, rfl, rfl, trivial⟩ rfl rfl rfl rfl (Nat.le_of_ble_eq_true rfl) (Nat.le_of_ble_eq_true rfl) (Nat.le_of_ble_eq_true rfl) ⟨Nat.zero_le _, Nat.zero_le _⟩ (fun v c1 hq hlen => ?_)
          obtain ⟨rfl, rfl⟩ := hq
          try dsimp only [sall, List.set, Option.toList, List.cons_append, List.nil_append]
          rw [Nat.min_self]
          refine G_isub (pc := 105) M dX7_told_105 ?_
          exact G_iret M hr dX7_told_106 rfl ⟨rfl, _, _, rfl⟩
        · refine sw si 4 107 87 _ rfl rfl rfl (by omega) ?_
          refine G_aload_n (pc := 107) M dX7_told_107 rfl ?_
          refine G_getf (pc := 108) M dX7_told_108 fl_X7_47 rfl (by first | rfl | assumption) ?_
          refine G_iload_n (pc := 111) M dX7_told_111 rfl ?_
          refine G_iaload (pc := 112) M dX7_told_112 rfl (vp_in_nI (by omega) (by omega)) ?_
          rw [cl_nI (by omega)]
          exact G_iret M hr dX7_told_113 rfl ⟨rfl, le, jo, rfl⟩
        · refine sw si 5 114 94 _ rfl rfl rfl (by omega) ?_
          refine G_aload_n (pc := 114) M dX7_told_114 rfl ?_
          refine G_iload_n (pc := 115) M dX7_told_115 rfl ?_
          refine G_callv (pc := 116) M [0, 10] dX7_told_116 mv_X7_118 (c_pairs D _ (fun j => ad (pn [0, 10] j)) _ mt si hsi rfl) rfl ⟨rfl, rfl, trivial⟩ rfl rfl rfl rfl (Nat.le_of_ble_eq_true rfl) (Nat.le_of_ble_eq_true rfl) (Nat.le_of_ble_eq_true rfl) ⟨Nat.zero_le _, Nat.zero_le _⟩ (fun v c1 hq hlen => ?_)
          obtain ⟨rfl, rfl⟩ := hq
          try dsimp only [sall, List.set, Option.toList, List.cons_append, List.nil_append]
          exact G_iret M hr dX7_told_119 rfl ⟨rfl, le, jo, rfl⟩
        · refine sw si 6 120 100 _ rfl rfl rfl (by omega) ?_
          refine G_aload_n (pc := 120) M dX7_told_120 rfl ?_
          refine G_getf (pc := 121) M dX7_told_121 fl_X7_7 rfl (by first | rfl | assumption) ?_
          refine G_iload_n (pc := 124) M dX7_told_124 rfl ?_
          refine G_iaload (pc := 125) M dX7_told_125 rfl (vp_in_nI (by omega) (by omega)) ?_
          rw [cl_nI (by omega)]
          exact G_iret M hr dX7_told_126 rfl ⟨rfl, le, jo, rfl⟩
        · refine sw si 7 127 107 _ rfl rfl rfl (by omega) ?_
          refine G_aload_n (pc := 127) M dX7_told_127 rfl ?_
          refine G_getf (pc := 128) M dX7_told_128 fl_X7_13 rfl (by first | rfl | assumption) ?_
          refine G_iload_n (pc := 131) M dX7_told_131 rfl ?_
          refine G_iaload (pc := 132) M dX7_told_132 rfl (vp_in_nI (by omega) (by omega)) ?_
          rw [cl_nI (by omega)]
          exact G_iret M hr dX7_told_133 rfl ⟨rfl, le, jo, rfl⟩
        · refine G_tableOut (pc := 20) M 134 dX7_told_20 (Or.inr (by decide)) rfl ?_
          refine G_aload_n (pc := 134) M dX7_told_134 rfl ?_
          refine G_getf (pc := 135) M dX7_told_135 fl_X7_16 rfl (by first | rfl | assumption) ?_
          refine G_iload_n (pc := 138) M dX7_told_138 rfl ?_
          refine G_iaload (pc := 139) M dX7_told_139 rfl (vp_in_nI (by omega) (by omega)) ?_
          rw [cl_nI (by omega)]
          exact G_iret M hr dX7_told_140 rfl ⟨rfl, le, jo, rfl⟩
        · exact absurd hw hw8
      · have e5 := bad (Or.inr (by have := Int32.lt_iff_toInt_lt.mp (Int32.not_le.mp h14); simpa using this))
        refine G_iconst (pc := 17) (v := -1) M dX7_told_17 (by decide +kernel) ?_
        exact G_iret M hr dX7_told_18 rfl ⟨by first | rfl | (rw [e5]; rfl), le, jo, rfl⟩
