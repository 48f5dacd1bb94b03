--NORM
/-! same and merge: refused, and a stream with itself -/
theorem c_mergeR (D : DD) (l : Launch) (ad : Nat → Nat) (s o : Int32) (h : (okS s && okS o && !decide (s = o)) = false) : Ct D l mi_X6_merge [.ref (ad 0), .int s, .int o] ad [] (fun v c => v = some (.int (-1)) ∧ c = []) := by
  refine Ct.of (by decide +kernel) (Nat.le_of_ble_eq_true rfl) (fun X A hX M hr => ?_)
  subst hX
  refine G_iload_n (pc := 0) M dX6_merge_0 rfl ?_
  refine G_calls (pc := 1) M [] dX6_merge_1 ms_X6_20 (c_noStream D _ (fun j => ad (pn [] j)) s) trivial rfl rfl rfl rfl (Nat.le_of_ble_eq_true rfl) (Nat.le_of_ble_eq_true rfl) (Nat.le_of_ble_eq_true rfl) ⟨Nat.zero_le _, Nat.zero_le _⟩ (fun v c1 hq hlen => ?_)
  obtain ⟨rfl, rfl⟩ := hq
  try dsimp only [sall, List.set, Option.toList, List.cons_append, List.nil_append]
  refine G_if_ne (pc := 4) M 19 dX6_merge_4 (by decide) (fun h4 => ?_) (fun h4 => ?_)
  · refine G_iconst (pc := 19) (v := -1) M dX6_merge_19 (by decide +kernel) ?_
    exact G_iret M hr dX6_merge_20 rfl ⟨rfl, rfl⟩
  · have h4b : okS s = true := by simpa using bz0 (b := !okS s) (by simpa using h4)
    refine G_iload_n (pc := 7) M dX6_merge_7 rfl ?_
    refine G_calls (pc := 8) M [] dX6_merge_8 ms_X6_20 (c_noStream D _ (fun j => ad (pn [] j)) o) trivial rfl rfl rfl rfl (Nat.le_of_ble_eq_true rfl) (Nat.le_of_ble_eq_true rfl) (Nat.le_of_ble_eq_true rfl) ⟨Nat.zero_le _, Nat.zero_le _⟩ (fun v c1 hq hlen => ?_)
    obtain ⟨rfl, rfl⟩ := hq
    try dsimp only [sall, List.set, Option.toList, List.cons_append, List.nil_append]
    refine G_if_ne (pc := 11) M 19 dX6_merge_11 (by decide) (fun h11 => ?_) (fun h11 => ?_)
    · refine G_iconst (pc := 19) (v := -1) M dX6_merge_19 (by decide +kernel) ?_
      exact G_iret M hr dX6_merge_20 rfl ⟨rfl, rfl⟩
    · have h11b : okS o = true := by simpa using bz0 (b := !okS o) (by simpa using h11)
      refine G_iload_n (pc := 14) M dX6_merge_14 rfl ?_
      refine G_iload_n (pc := 15) M dX6_merge_15 rfl ?_
      refine G_icmp_ne (pc := 16) M 21 dX6_merge_16 (by decide) (fun h16 => ?_) (fun h16 => ?_)
      · exact absurd h (by simp [h4b, h11b, h16])
      · refine G_iconst (pc := 19) (v := -1) M dX6_merge_19 (by decide +kernel) ?_
        exact G_iret M hr dX6_merge_20 rfl ⟨rfl, rfl⟩
theorem c_sameR (D : DD) (l : Launch) (ad : Nat → Nat) (s o : Int32) (h : (okS s && okS o) = false) : Ct D l mi_X6_same [.ref (ad 0), .int s, .int o] ad [] (fun v c => v = some (.int (-1)) ∧ c = []) := by
  refine Ct.of (by decide +kernel) (Nat.le_of_ble_eq_true rfl) (fun X A hX M hr => ?_)
  subst hX
  refine G_iload_n (pc := 0) M dX6_same_0 rfl ?_
  refine G_calls (pc := 1) M [] dX6_same_1 ms_X6_20 (c_noStream D _ (fun j => ad (pn [] j)) s) trivial rfl rfl rfl rfl (Nat.le_of_ble_eq_true rfl) (Nat.le_of_ble_eq_true rfl) (Nat.le_of_ble_eq_true rfl) ⟨Nat.zero_le _, Nat.zero_le _⟩ (fun v c1 hq hlen => ?_)
  obtain ⟨rfl, rfl⟩ := hq
  try dsimp only [sall, List.set, Option.toList, List.cons_append, List.nil_append]
  refine G_if_ne (pc := 4) M 14 dX6_same_4 (by decide) (fun h4 => ?_) (fun h4 => ?_)
  · refine G_iconst (pc := 14) (v := -1) M dX6_same_14 (by decide +kernel) ?_
    exact G_iret M hr dX6_same_15 rfl ⟨rfl, rfl⟩
  · have h4b : okS s = true := by simpa using bz0 (b := !okS s) (by simpa using h4)
    refine G_iload_n (pc := 7) M dX6_same_7 rfl ?_
    refine G_calls (pc := 8) M [] dX6_same_8 ms_X6_20 (c_noStream D _ (fun j => ad (pn [] j)) o) trivial rfl rfl rfl rfl (Nat.le_of_ble_eq_true rfl) (Nat.le_of_ble_eq_true rfl) (Nat.le_of_ble_eq_true rfl) ⟨Nat.zero_le _, Nat.zero_le _⟩ (fun v c1 hq hlen => ?_)
    obtain ⟨rfl, rfl⟩ := hq
    try dsimp only [sall, List.set, Option.toList, List.cons_append, List.nil_append]
    refine G_if_eq (pc := 11) M 16 dX6_same_11 (by decide) (fun h11 => ?_) (fun h11 => ?_)
    · exact absurd h (by simp [h4b, show okS o = true by simpa using bz0 (b := !okS o) h11])
    · refine G_iconst (pc := 14) (v := -1) M dX6_same_14 (by decide +kernel) ?_
      exact G_iret M hr dX6_same_15 rfl ⟨rfl, rfl⟩
theorem c_apSelf (D : DD) (l : Launch) (ad : Nat → Nat) (fs : List Value) (nn kk st : Int32) (sd : Int64) (hf5 : gt fs 5 = some (.int nn)) (hf6 : gt fs 6 = some (.int kk)) (hf7 : gt fs 7 = some (.int st)) (hf8 : gt fs 8 = some (.long sd)) : Ct D l mi_X4_isApartFrom [.ref (ad 0), .ref (ad 0)] ad [ob 4 fs] (fun v c => v = some (.int 0) ∧ c = [ob 4 fs]) := by
  refine Ct.of (by decide +kernel) (Nat.le_of_ble_eq_true rfl) (fun X A hX M hr => ?_)
  subst hX
  refine G_aload_n (pc := 0) M dX4_isApartFrom_0 rfl ?_
  refine G_getf (pc := 1) M dX4_isApartFrom_1 fl_X4_50 rfl (by first | rfl | assumption) ?_
  refine G_aload_n (pc := 4) M dX4_isApartFrom_4 rfl ?_
  refine G_getf (pc := 5) M dX4_isApartFrom_5 fl_X4_50 rfl (by first | rfl | assumption) ?_
  refine G_icmp_ne (pc := 8) M 45 dX4_isApartFrom_8 (by decide) (fun h8 => ?_) (fun h8 => ?_)
  · exact absurd rfl h8
  · refine G_aload_n (pc := 11) M dX4_isApartFrom_11 rfl ?_
    refine G_getf (pc := 12) M dX4_isApartFrom_12 fl_X4_54 rfl (by first | rfl | assumption) ?_
    refine G_aload_n (pc := 15) M dX4_isApartFrom_15 rfl ?_
    refine G_getf (pc := 16) M dX4_isApartFrom_16 fl_X4_54 rfl (by first | rfl | assumption) ?_
    refine G_icmp_ne (pc := 19) M 45 dX4_isApartFrom_19 (by decide) (fun h19 => ?_) (fun h19 => ?_)
    · exact absurd rfl h19
    · refine G_aload_n (pc := 22) M dX4_isApartFrom_22 rfl ?_
      refine G_getf (pc := 23) M dX4_isApartFrom_23 fl_X4_57 rfl (by first | rfl | assumption) ?_
      refine G_aload_n (pc := 26) M dX4_isApartFrom_26 rfl ?_
      refine G_getf (pc := 27) M dX4_isApartFrom_27 fl_X4_57 rfl (by first | rfl | assumption) ?_
      refine G_icmp_ne (pc := 30) M 45 dX4_isApartFrom_30 (by decide) (fun h30 => ?_) (fun h30 => ?_)
      · exact absurd rfl h30
      · refine G_aload_n (pc := 33) M dX4_isApartFrom_33 rfl ?_
        refine G_getf (pc := 34) M dX4_isApartFrom_34 fl_X4_60 rfl (by first | rfl | assumption) ?_
        refine G_aload_n (pc := 37) M dX4_isApartFrom_37 rfl ?_
        refine G_getf (pc := 38) M dX4_isApartFrom_38 fl_X4_60 rfl (by first | rfl | assumption) ?_
        refine G_lcmp (pc := 41) M dX4_isApartFrom_41 ?_
        refine G_if_eq (pc := 42) M 49 dX4_isApartFrom_42 (by decide) (fun h42 => ?_) (fun h42 => ?_)
        · refine G_iconst (pc := 49) (v := 0) M dX4_isApartFrom_49 (by decide +kernel) ?_
          exact G_zret M hr dX4_isApartFrom_50 rfl rfl ⟨rfl, rfl⟩
        · exact absurd rfl (by rw [lg_cmp_eq] at h42; exact h42)
theorem als_loop {D : DD} {X : MX} {A : Nat → Prop} (M : CX D X A mi_X3_isAlike.1.cls mi_X3_isAlike.2.1 mi_X3_isAlike.2.2.1 (miR mi_X3_isAlike)) (hr : RT X mi_X3_isAlike.2.2.2.1) {ad : Nat → Nat} {fs : List Value} {S : Nat → Int64} {e : Nat} (he : e ≤ 1920) (hf0 : gt fs 0 = some (.ref (ad 1))) : ∀ m k : Nat, k ≤ e → e - k < m →
    G D X A 0 0 (GQ D X A ad 2 (fun v c => v = some (.int 1) ∧ c = [ob 3 fs, la D 1920 S])) ad 11 [some (.ref (ad 0)), some (.ref (ad 0)), some (.int (nI e)), some (.int (nI k))] [] [ob 3 fs, la D 1920 S] := by
  intro m
  induction m with
  | zero => intro k _ h; omega
  | succ m ih =>
    intro k hk hm
    refine G_iload_n (pc := 11) M dX3_isAlike_11 rfl ?_
    refine G_iload_n (pc := 12) M dX3_isAlike_12 rfl ?_
    refine G_icmp_ge (pc := 13) M 40 dX3_isAlike_13 (by decide) (fun h13 => ?_) (fun h13 => ?_)
    · refine G_iconst (pc := 40) (v := 1) M dX3_isAlike_40 (by decide +kernel) ?_
      exact G_zret M hr dX3_isAlike_41 rfl rfl ⟨rfl, rfl⟩
    · have hke : k < e := Nat.lt_of_not_le (fun q => h13 (nI_le q (by omega)))
      refine G_aload_n (pc := 16) M dX3_isAlike_16 rfl ?_
      refine G_getf (pc := 17) M dX3_isAlike_17 fl_X3_9 rfl (by first | rfl | assumption) ?_
      refine G_iload_n (pc := 20) M dX3_isAlike_20 rfl ?_
      refine G_laload (pc := 21) M dX3_isAlike_21 rfl (by first | assumption | exact vp_in_nI (by omega) (by omega)) ?_
      refine G_aload_n (pc := 22) M dX3_isAlike_22 rfl ?_
      refine G_getf (pc := 23) M dX3_isAlike_23 fl_X3_9 rfl (by first | rfl | assumption) ?_
      refine G_iload_n (pc := 26) M dX3_isAlike_26 rfl ?_
      refine G_laload (pc := 27) M dX3_isAlike_27 rfl (by first | assumption | exact vp_in_nI (by omega) (by omega)) ?_
      refine G_lcmp (pc := 28) M dX3_isAlike_28 ?_
      refine G_if_eq (pc := 29) M 34 dX3_isAlike_29 (by decide) (fun h29 => ?_) (fun h29 => ?_)
      · refine G_iinc (pc := 34) (v := 1) M dX3_isAlike_34 rfl (by decide +kernel) (Nat.le_of_ble_eq_true rfl) ?_
        refine G_goto (pc := 37) M 11 dX3_isAlike_37 (by decide) ?_
        rw [nI_1]
        exact ih (k + 1) (by omega) (by omega)
      · exact absurd rfl (by rw [lg_cmp_eq] at h29; exact h29)
theorem c_alSelf (D : DD) (l : Launch) (ad : Nat → Nat) (nn : Nat) (sd : Int64) (S : Nat → Int64) (hnn : nn ≤ 64) : Ct D l mi_X3_isAlike [.ref (ad 0), .ref (ad 0)] ad [rwO ad nn sd, la D 1920 S] (fun v c => v = some (.int 1) ∧ c = [rwO ad nn sd, la D 1920 S]) := by
  refine Ct.of (by decide +kernel) (Nat.le_of_ble_eq_true rfl) (fun X A hX M hr => ?_)
  subst hX
  refine G_aload_n (pc := 0) M dX3_isAlike_0 rfl ?_
  refine G_getf (pc := 1) M dX3_isAlike_1 fl_X3_15 rfl (by first | rfl | assumption) ?_
  refine G_iconst (pc := 4) (v := 0) M dX3_isAlike_4 (by decide +kernel) ?_
  refine G_calls (pc := 5) M [] dX3_isAlike_5 ms_X3_37 (c_placeOf D _ (fun j => ad (pn [] j)) (nI nn) 0) trivial rfl rfl rfl rfl (Nat.le_of_ble_eq_true rfl) (Nat.le_of_ble_eq_true rfl) (Nat.le_of_ble_eq_true rfl) ⟨Nat.zero_le _, Nat.zero_le _⟩ (fun v c1 hq hlen => ?_)
  obtain ⟨rfl, rfl⟩ := hq
  try dsimp only [sall, List.set, Option.toList, List.cons_append, List.nil_append]
  rw [plc0]
  refine G_istore_n (pc := 8) M dX3_isAlike_8 (Nat.le_of_ble_eq_true rfl) ?_
  refine G_iconst (pc := 9) (v := 0) M dX3_isAlike_9 (by decide +kernel) ?_
  refine G_istore_n (pc := 10) M dX3_isAlike_10 (Nat.le_of_ble_eq_true rfl) ?_
  exact als_loop M hr (fs := [.ref (ad 1), .int (nI nn), .long sd]) (e := 30 * nn) (by omega) rfl 1921 0 (by omega) (by omega)
theorem c_same1 (D : DD) (l : Launch) (ad : Nat → Nat) (lev : Int32) (f : Nat → Option Nat) (x0 x1 x2 x3 : Value) (nn : Nat) (kk st : Int32) (sd : Int64) (ag : Int32) (S : Nat → Int64) (s : Int32) (hs : okS s = true) (hfs : f s.toNatClampNeg = some (ad 2)) (hnn : nn ≤ 64) : Ct D l mi_X6_same [.ref (ad 0), .int s, .int s] ad [ob 6 [.ref (ad 1), .int lev], qa D 3 f, ob 4 [x0, x1, x2, x3, .ref (ad 3), .int (nI nn), .int kk, .int st, .long sd, .int ag], ob 3 [.ref (ad 4), .int (nI nn), .long sd], la D 1920 S] (fun v c => v = some (.int 1) ∧ c = [ob 6 [.ref (ad 1), .int lev], qa D 3 f, ob 4 [x0, x1, x2, x3, .ref (ad 3), .int (nI nn), .int kk, .int st, .long sd, .int ag], ob 3 [.ref (ad 4), .int (nI nn), .long sd], la D 1920 S]) := by
  refine Ct.of (by decide +kernel) (Nat.le_of_ble_eq_true rfl) (fun X A hX M hr => ?_)
  subst hX
  refine G_iload_n (pc := 0) M dX6_same_0 rfl ?_
  refine G_calls (pc := 1) M [] dX6_same_1 ms_X6_20 (c_noStream D _ (fun j => ad (pn [] j)) s) trivial rfl rfl rfl rfl (Nat.le_of_ble_eq_true rfl) (Nat.le_of_ble_eq_true rfl) (Nat.le_of_ble_eq_true rfl) ⟨Nat.zero_le _, Nat.zero_le _⟩ (fun v c1 hq hlen => ?_)
  obtain ⟨rfl, rfl⟩ := hq
  try dsimp only [sall, List.set, Option.toList, List.cons_append, List.nil_append]
  refine G_if_ne (pc := 4) M 14 dX6_same_4 (by decide) (fun h4 => ?_) (fun h4 => ?_)
  · exact absurd (by rw [hs]; rfl) h4
  · refine G_iload_n (pc := 7) M dX6_same_7 rfl ?_
    refine G_calls (pc := 8) M [] dX6_same_8 ms_X6_20 (c_noStream D _ (fun j => ad (pn [] j)) s) trivial rfl rfl rfl rfl (Nat.le_of_ble_eq_true rfl) (Nat.le_of_ble_eq_true rfl) (Nat.le_of_ble_eq_true rfl) ⟨Nat.zero_le _, Nat.zero_le _⟩ (fun v c1 hq hlen => ?_)
    obtain ⟨rfl, rfl⟩ := hq
    try dsimp only [sall, List.set, Option.toList, List.cons_append, List.nil_append]
    refine G_if_eq (pc := 11) M 16 dX6_same_11 (by decide) (fun h11 => ?_) (fun h11 => ?_)
    · refine G_aload_n (pc := 16) M dX6_same_16 rfl ?_
      refine G_getf (pc := 17) M dX6_same_17 fl_X6_11 rfl (by first | rfl | assumption) ?_
      refine G_iload_n (pc := 20) M dX6_same_20 rfl ?_
      refine G_aaload (pc := 21) M dX6_same_21 rfl (vp3 hs) (hfs) ?_
      refine G_astore_n (pc := 22) M dX6_same_22 (Nat.le_of_ble_eq_true rfl) ?_
      refine G_aload_n (pc := 23) M dX6_same_23 rfl ?_
      refine G_getf (pc := 24) M dX6_same_24 fl_X6_11 rfl (by first | rfl | assumption) ?_
      refine G_iload_n (pc := 27) M dX6_same_27 rfl ?_
      refine G_aaload (pc := 28) M dX6_same_28 rfl (vp3 hs) (hfs) ?_
      refine G_astore (pc := 29) M dX6_same_29 (Nat.le_of_ble_eq_true rfl) ?_
      refine G_aload_n (pc := 31) M dX6_same_31 rfl ?_
      refine G_aload (pc := 32) M dX6_same_32 rfl ?_
      refine G_callv (pc := 34) M [2] dX6_same_34 mv_X6_60 (c_apSelf D _ (fun j => ad (pn [2] j)) _ (nI nn) kk st sd rfl rfl rfl rfl) rfl ⟨rfl, trivial⟩ rfl rfl rfl rfl (Nat.le_of_ble_eq_true rfl) (Nat.le_of_ble_eq_true rfl) (Nat.le_of_ble_eq_true rfl) ⟨Nat.zero_le _, Nat.zero_le _⟩ (fun v c1 hq hlen => ?_)
      obtain ⟨rfl, rfl⟩ := hq
      try dsimp only [sall, List.set, Option.toList, List.cons_append, List.nil_append]
      refine G_if_eq (pc := 37) M 43 dX6_same_37 (by decide) (fun h37 => ?_) (fun h37 => ?_)
      · refine G_aload_n (pc := 43) M dX6_same_43 rfl ?_
        refine G_getr (pc := 44) M dX6_same_44 fl_X6_42 rfl (by first | rfl | assumption) ?_
        refine G_aload (pc := 47) M dX6_same_47 rfl ?_
        refine G_getr (pc := 49) M dX6_same_49 fl_X6_42 rfl (by first | rfl | assumption) ?_
        refine G_callv (pc := 52) M [3, 4] dX6_same_52 mv_X6_174 (c_alSelf D _ (fun j => ad (pn [3, 4] j)) nn sd S hnn) rfl ⟨rfl, rfl, trivial⟩ rfl rfl rfl rfl (Nat.le_of_ble_eq_true rfl) (Nat.le_of_ble_eq_true rfl) (Nat.le_of_ble_eq_true rfl) ⟨Nat.zero_le _, Nat.zero_le _⟩ (fun v c1 hq hlen => ?_)
        obtain ⟨rfl, rfl⟩ := hq
        try dsimp only [sall, List.set, Option.toList, List.cons_append, List.nil_append]
        refine G_if_eq (pc := 55) M 62 dX6_same_55 (by decide) (fun h55 => ?_) (fun h55 => ?_)
        · exact absurd h55 (by decide)
        · refine G_iconst (pc := 58) (v := 1) M dX6_same_58 (by decide +kernel) ?_
          refine G_goto (pc := 59) M 63 dX6_same_59 (by decide) ?_
          exact G_iret M hr dX6_same_63 rfl ⟨rfl, rfl⟩
      · exact absurd rfl h37
    · exact absurd (by rw [hs]; rfl) h11
def isT : Nat → Nat → List Nat
  | 0, 1 => [0, 1, 2, 3, 4, 5, 16, 17, 18, 19, 20, 32, 33]
  | 0, 2 => [0, 1, 2, 3, 4, 5, 16, 17, 34, 35, 36, 48, 49]
  | 1, 0 => [0, 1, 18, 19, 20, 21, 32, 33, 2, 3, 4, 16, 17]
  | 1, 2 => [0, 1, 18, 19, 20, 21, 32, 33, 34, 35, 36, 48, 49]
  | 2, 0 => [0, 1, 34, 35, 36, 37, 48, 49, 2, 3, 4, 16, 17]
  | _, _ => [0, 1, 34, 35, 36, 37, 48, 49, 18, 19, 20, 32, 33]
def is1 : Nat → List Nat
  | 0 => [0, 1, 2, 16, 17]
  | 1 => [0, 1, 18, 32, 33]
  | _ => [0, 1, 34, 48, 49]
abbrev twP (D : DD) (ad : Nat → Nat) (i k : Nat) (lev : Int32) (P P2 : SP) (tk lo : Int32) (C tg : Nat → Int32) (S : Nat → Int64) : List va_E := tw D (fun j => ad (pn (isT i k) j)) lev (sf ad) (.ref (ad (2 + 16 * i + 4))) (.ref (ad (2 + 16 * i + 8))) (.ref (ad (2 + 16 * i + 12))) (.ref (ad (2 + 16 * k + 4))) (.ref (ad (2 + 16 * k + 8))) (.ref (ad (2 + 16 * k + 12))) (.ref (ad (2 + 16 * k + 3))) (sNn P) (sKk P) (sSt P) (sSd P) (sAg P) tk lo C tg S (sNn P2) (sKk P2) (sSt P2) (sSd P2) (sAg P2) (sTk P2) (sLo P2) (sC P2) (sS P2)
abbrev sSetM (P : SP) (tk lo : Int32) (C tg : Nat → Int32) (S : Nat → Int64) : SP := (sNn P, sKk P, sSt P, sSd P, sAg P, tk, lo, C, tg, sFn P, sFt P, sFk P, sLd P, sZ P, sTt P, sTq P, sNb P, sPr P, sMt P, S)
abbrev w1 (D : DD) (ad : Nat → Nat) (i : Nat) (lev : Int32) (P : SP) : List va_E := [ob 6 [.ref (ad (pn (is1 i) 1)), .int lev], qa D 3 (sf ad), ob 4 [.ref (ad (2 + 16 * i + 1)), .ref (ad (2 + 16 * i + 4)), .ref (ad (2 + 16 * i + 8)), .ref (ad (2 + 16 * i + 12)), .ref (ad (pn (is1 i) 3)), .int (nI (sNn P)), .int (nI (sKk P)), .int (nI (sSt P)), .long (sSd P), .int (sAg P)], ob 3 [.ref (ad (pn (is1 i) 4)), .int (nI (sNn P)), .long (sSd P)], la D 1920 (sS P)]
section
variable {D : DD} {l : Launch} {mi : MI} {As : List Value} {ad : Nat → Nat} {lev : Int32} {Ps : Nat → SP} {R : RS} {rl : Int32} {le jo wy : Nat → Int32}
theorem lift_t {i k : Nat} (hi : i < 3) (hk : k < 3) (hne : i ≠ k) {Qm : Option Value → Int32 → Int32 → (Nat → Int32) → (Nat → Int32) → (Nat → Int64) → Prop} (h : Ct D l mi (.ref (ad (pn (isT i k) 0)) :: As) (fun j => ad (pn (isT i k) j)) (twP D ad i k lev (Ps i) (Ps k) (sTk (Ps i)) (sLo (Ps i)) (sC (Ps i)) (sTg (Ps i)) (sS (Ps i))) (fun v c => ∃ tk lo C tg S, Qm v tk lo C tg S ∧ c = twP D ad i k lev (Ps i) (Ps k) tk lo C tg S)) : Ct D l mi (.ref (ad 0) :: As) ad (world D ad lev Ps R rl le jo wy) (fun v c => ∃ tk lo C tg S, Qm v tk lo C tg S ∧ c = world D ad lev (updS Ps i (sSetM (Ps i) tk lo C tg S)) R rl le jo wy) := by
  rcases (show (i = 0 ∧ k = 1) ∨ (i = 0 ∧ k = 2) ∨ (i = 1 ∧ k = 0) ∨ (i = 1 ∧ k = 2) ∨ (i = 2 ∧ k = 0) ∨ (i = 2 ∧ k = 1) by omega) with ⟨rfl, rfl⟩ | ⟨rfl, rfl⟩ | ⟨rfl, rfl⟩ | ⟨rfl, rfl⟩ | ⟨rfl, rfl⟩ | ⟨rfl, rfl⟩
  · refine Ct.weak ?_ (Ct.frame (isT 0 1) (cs := world D ad lev Ps R rl le jo wy) (wc := twP D ad 0 1 lev (Ps 0) (Ps 1) (sTk (Ps 0)) (sLo (Ps 0)) (sC (Ps 0)) (sTg (Ps 0)) (sS (Ps 0))) ⟨rfl, rfl, rfl, rfl, rfl, rfl, rfl, rfl, rfl, rfl, rfl, rfl, rfl, trivial⟩ rfl h)
    intro v c hv
    obtain ⟨c1, hv1, h2, h3⟩ := hv
    obtain ⟨tk, lo, C, tg, S, hq, h1⟩ := hv1
    clear h2
    subst h3
    subst h1
    refine ⟨tk, lo, C, tg, S, hq, ?_⟩
    simp only [world, isT, sall, List.set]
    rfl
  · refine Ct.weak ?_ (Ct.frame (isT 0 2) (cs := world D ad lev Ps R rl le jo wy) (wc := twP D ad 0 2 lev (Ps 0) (Ps 2) (sTk (Ps 0)) (sLo (Ps 0)) (sC (Ps 0)) (sTg (Ps 0)) (sS (Ps 0))) ⟨rfl, rfl, rfl, rfl, rfl, rfl, rfl, rfl, rfl, rfl, rfl, rfl, rfl, trivial⟩ rfl h)
    intro v c hv
    obtain ⟨c1, hv1, h2, h3⟩ := hv
    obtain ⟨tk, lo, C, tg, S, hq, h1⟩ := hv1
    clear h2
    subst h3
    subst h1
    refine ⟨tk, lo, C, tg, S, hq, ?_⟩
    simp only [world, isT, sall, List.set]
    rfl
  · refine Ct.weak ?_ (Ct.frame (isT 1 0) (cs := world D ad lev Ps R rl le jo wy) (wc := twP D ad 1 0 lev (Ps 1) (Ps 0) (sTk (Ps 1)) (sLo (Ps 1)) (sC (Ps 1)) (sTg (Ps 1)) (sS (Ps 1))) ⟨rfl, rfl, rfl, rfl, rfl, rfl, rfl, rfl, rfl, rfl, rfl, rfl, rfl, trivial⟩ rfl h)
    intro v c hv
    obtain ⟨c1, hv1, h2, h3⟩ := hv
    obtain ⟨tk, lo, C, tg, S, hq, h1⟩ := hv1
    clear h2
    subst h3
    subst h1
    refine ⟨tk, lo, C, tg, S, hq, ?_⟩
    simp only [world, isT, sall, List.set]
    rfl
  · refine Ct.weak ?_ (Ct.frame (isT 1 2) (cs := world D ad lev Ps R rl le jo wy) (wc := twP D ad 1 2 lev (Ps 1) (Ps 2) (sTk (Ps 1)) (sLo (Ps 1)) (sC (Ps 1)) (sTg (Ps 1)) (sS (Ps 1))) ⟨rfl, rfl, rfl, rfl, rfl, rfl, rfl, rfl, rfl, rfl, rfl, rfl, rfl, trivial⟩ rfl h)
    intro v c hv
    obtain ⟨c1, hv1, h2, h3⟩ := hv
    obtain ⟨tk, lo, C, tg, S, hq, h1⟩ := hv1
    clear h2
    subst h3
    subst h1
    refine ⟨tk, lo, C, tg, S, hq, ?_⟩
    simp only [world, isT, sall, List.set]
    rfl
  · refine Ct.weak ?_ (Ct.frame (isT 2 0) (cs := world D ad lev Ps R rl le jo wy) (wc := twP D ad 2 0 lev (Ps 2) (Ps 0) (sTk (Ps 2)) (sLo (Ps 2)) (sC (Ps 2)) (sTg (Ps 2)) (sS (Ps 2))) ⟨rfl, rfl, rfl, rfl, rfl, rfl, rfl, rfl, rfl, rfl, rfl, rfl, rfl, trivial⟩ rfl h)
    intro v c hv
    obtain ⟨c1, hv1, h2, h3⟩ := hv
    obtain ⟨tk, lo, C, tg, S, hq, h1⟩ := hv1
    clear h2
    subst h3
    subst h1
    refine ⟨tk, lo, C, tg, S, hq, ?_⟩
    simp only [world, isT, sall, List.set]
    rfl
  · refine Ct.weak ?_ (Ct.frame (isT 2 1) (cs := world D ad lev Ps R rl le jo wy) (wc := twP D ad 2 1 lev (Ps 2) (Ps 1) (sTk (Ps 2)) (sLo (Ps 2)) (sC (Ps 2)) (sTg (Ps 2)) (sS (Ps 2))) ⟨rfl, rfl, rfl, rfl, rfl, rfl, rfl, rfl, rfl, rfl, rfl, rfl, rfl, trivial⟩ rfl h)
    intro v c hv
    obtain ⟨c1, hv1, h2, h3⟩ := hv
    obtain ⟨tk, lo, C, tg, S, hq, h1⟩ := hv1
    clear h2
    subst h3
    subst h1
    refine ⟨tk, lo, C, tg, S, hq, ?_⟩
    simp only [world, isT, sall, List.set]
    rfl
theorem lift_1 {i : Nat} (hi : i < 3) {A1 : Option Value} (h : Ct D l mi (.ref (ad (pn (is1 i) 0)) :: As) (fun j => ad (pn (is1 i) j)) (w1 D ad i lev (Ps i)) (fun v c => v = A1 ∧ c = w1 D ad i lev (Ps i))) : Ct D l mi (.ref (ad 0) :: As) ad (world D ad lev Ps R rl le jo wy) (fun v c => v = A1 ∧ c = world D ad lev Ps R rl le jo wy) := by
  rcases (show i = 0 ∨ i = 1 ∨ i = 2 by omega) with rfl | rfl | rfl
  · refine Ct.weak ?_ (Ct.frame (is1 0) (cs := world D ad lev Ps R rl le jo wy) (wc := w1 D ad 0 lev (Ps 0)) ⟨rfl, rfl, rfl, rfl, rfl, trivial⟩ rfl h)
    intro v c hv
    obtain ⟨c1, hv1, h2, h3⟩ := hv
    obtain ⟨hq, h1⟩ := hv1
    clear h2
    subst h3
    subst h1
    refine ⟨hq, ?_⟩
    simp only [world, is1, sall, List.set]
    rfl
  · refine Ct.weak ?_ (Ct.frame (is1 1) (cs := world D ad lev Ps R rl le jo wy) (wc := w1 D ad 1 lev (Ps 1)) ⟨rfl, rfl, rfl, rfl, rfl, trivial⟩ rfl h)
    intro v c hv
    obtain ⟨c1, hv1, h2, h3⟩ := hv
    obtain ⟨hq, h1⟩ := hv1
    clear h2
    subst h3
    subst h1
    refine ⟨hq, ?_⟩
    simp only [world, is1, sall, List.set]
    rfl
  · refine Ct.weak ?_ (Ct.frame (is1 2) (cs := world D ad lev Ps R rl le jo wy) (wc := w1 D ad 2 lev (Ps 2)) ⟨rfl, rfl, rfl, rfl, rfl, trivial⟩ rfl h)
    intro v c hv
    obtain ⟨c1, hv1, h2, h3⟩ := hv
    obtain ⟨hq, h1⟩ := hv1
    clear h2
    subst h3
    subst h1
    refine ⟨hq, ?_⟩
    simp only [world, is1, sall, List.set]
    rfl
theorem lift_0 {A1 : Option Value} (h : Ct D l mi (.ref (ad (pn [] 0)) :: As) (fun j => ad (pn [] j)) [] (fun v c => v = A1 ∧ c = [])) : Ct D l mi (.ref (ad 0) :: As) ad (world D ad lev Ps R rl le jo wy) (fun v c => v = A1 ∧ c = world D ad lev Ps R rl le jo wy) := by
  refine Ct.weak ?_ (Ct.frame [] (cs := world D ad lev Ps R rl le jo wy) (wc := []) trivial rfl h)
  intro v c hv
  obtain ⟨c1, ⟨hq, h1⟩, h2, h3⟩ := hv
  subst h1
  exact ⟨hq, h3⟩
/-- a pair whose first call changes no cell, seen in the world -/
theorem pairW {m1 m2 : MI} {N : Nat} {T : Option Value → Prop} {A1 : Option Value} (hT : T A1) (hR : ∀ j, j < 3 → ∃ g u v p, RX N j (Ps j) g u v p R) (h1 : Ct D l m1 (.ref (ad 0) :: As) ad (world D ad lev Ps R lev le jo wy) (fun v c => v = A1 ∧ c = world D ad lev Ps R lev le jo wy))
    (h2 : Ct D l m2 (.ref (ad (pn isR 0)) :: As) (fun j => ad (pn isR j)) (rW D (fun j => ad (pn isR j)) R lev le jo wy) (fun v c => v = A1 ∧ c = rW D (fun j => ad (pn isR j)) R lev le jo wy)) :
    Pair D l m1 m2 As ad N (world D ad lev Ps R lev le jo wy) T := by
  refine ⟨_, h1, fun v c hv => ?_⟩
  obtain ⟨e1, e2⟩ := hv
  subst e2
  refine ⟨by rw [e1]; exact hT, ⟨_, rfl⟩, ?_⟩
  have c2 := lift_r (lev := lev) (Ps := Ps) (Qm := fun v R2 rl2 => v = A1 ∧ rl2 = lev ∧ R2 = R) (Ct.weak (fun v c hv => ⟨R, lev, le, jo, wy, ⟨hv.1, rfl, rfl⟩, hv.2⟩) h2)
  refine Ct.weak (fun v2 c2 hv2 => ?_) c2
  obtain ⟨R2, rl2, le2, jo2, wy2, ⟨f1, f2, f3⟩, f4⟩ := hv2
  subst f4
  subst f2
  subst f3
  refine ⟨f1.trans e1.symm, rl2, Ps, R2, le2, jo2, wy2, rfl, fun j hj => ?_⟩
  obtain ⟨g, u, v, p, h⟩ := hR j hj
  exact ⟨g, u, v, p, h.mono (by omega)⟩
theorem pairT {m1 m2 : MI} {N i k : Nat} {T : Option Value → Prop} {A1 : Option Value} (hT : T A1) (hi : i < 3) (hk : k < 3) (hne : i ≠ k) {P2 : SP → Prop} {Z2 : RS → Prop} (hK : ∀ P R2, P2 P → Z2 R2 → ∀ j, j < 3 → ∃ g u v p, RX (N + 1) j (updS Ps i P j) g u v p R2)
    (h1 : Ct D l m1 (.ref (ad (pn (isT i k) 0)) :: As) (fun j => ad (pn (isT i k) j)) (twP D ad i k lev (Ps i) (Ps k) (sTk (Ps i)) (sLo (Ps i)) (sC (Ps i)) (sTg (Ps i)) (sS (Ps i))) (fun v c => v = A1 ∧ ∃ tk lo C tg S, P2 (sSetM (Ps i) tk lo C tg S) ∧ c = twP D ad i k lev (Ps i) (Ps k) tk lo C tg S))
    (h2 : Ct D l m2 (.ref (ad (pn isR 0)) :: As) (fun j => ad (pn isR j)) (rW D (fun j => ad (pn isR j)) R lev le jo wy) (fun v c => v = A1 ∧ ∃ R2, Z2 R2 ∧ c = rW D (fun j => ad (pn isR j)) R2 lev le jo wy)) :
    Pair D l m1 m2 As ad N (world D ad lev Ps R lev le jo wy) T := by
  have c1 := lift_t (R := R) (rl := lev) (le := le) (jo := jo) (wy := wy) hi hk hne (Qm := fun v tk lo C tg S => v = A1 ∧ P2 (sSetM (Ps i) tk lo C tg S)) (Ct.weak (fun v c hv => by
    obtain ⟨e1, tk, lo, C, tg, S, e2, e3⟩ := hv
    exact ⟨tk, lo, C, tg, S, ⟨e1, e2⟩, e3⟩) h1)
  refine ⟨_, c1, fun v c hv => ?_⟩
  obtain ⟨tk, lo, C, tg, S, ⟨e1, e3⟩, e4⟩ := hv
  subst e4
  refine ⟨by rw [e1]; exact hT, ⟨_, rfl⟩, ?_⟩
  have c2 := lift_r (lev := lev) (Ps := updS Ps i (sSetM (Ps i) tk lo C tg S)) (Qm := fun v R2 rl2 => v = A1 ∧ rl2 = lev ∧ Z2 R2) (Ct.weak (fun v c hv => by
    obtain ⟨f1, R2, f2, f3⟩ := hv
    exact ⟨R2, lev, le, jo, wy, ⟨f1, rfl, f2⟩, f3⟩) h2)
  refine Ct.weak (fun v2 c2 hv2 => ?_) c2
  obtain ⟨R2, rl2, le2, jo2, wy2, ⟨f1, f2, f3⟩, f4⟩ := hv2
  subst f4
  subst f2
  exact ⟨f1.trans e1.symm, rl2, _, R2, le2, jo2, wy2, rfl, hK _ R2 e3 f3⟩
end
