--NORM
/-! StreamCounts: merge, same -/
abbrev tw (D : DD) (ad : Nat → Nat) (lev : Int32) (f : Nat → Option Nat) (x1 x2 x3 y1 y2 y3 y4 : Value) (nn kk st : Nat) (sd : Int64) (ag : Int32) (tk lo : Int32) (C tg : Nat → Int32) (S : Nat → Int64) (n2 k2 s2 : Nat) (d2 : Int64) (ag2 tk2 lo2 : Int32) (E : Nat → Int32) (T : Nat → Int64) : List va_E :=
  [ob 6 [.ref (ad 1), .int lev], qa D 3 f, ob 4 [.ref (ad 3), x1, x2, x3, .ref (ad 6), .int (nI nn), .int (nI kk), .int (nI st), .long sd, .int ag], ob 0 [.ref (ad 4), .ref (ad 5), .int (nI nn), .int (nI kk), .int tk, .int lo], ia D 64 C, ia D 64 tg, ob 3 [.ref (ad 7), .int (nI nn), .long sd], la D 1920 S, ob 4 [.ref (ad 9), y1, y2, y3, .ref (ad 11), .int (nI n2), .int (nI k2), .int (nI s2), .long d2, .int ag2], ob 0 [.ref (ad 10), y4, .int (nI n2), .int (nI k2), .int tk2, .int lo2], ia D 64 E, ob 3 [.ref (ad 12), .int (nI n2), .long d2], la D 1920 T]
def sameB (nn kk st n2 k2 s2 : Nat) (sd d2 : Int64) : Bool := decide (nn = n2) && decide (kk = k2) && decide (st = s2) && decide (sd = d2)
theorem c_same2 (D : DD) (l : Launch) (ad : Nat → Nat) (lev : Int32) (f : Nat → Option Nat) (x1 x2 x3 y1 y2 y3 y4 : Value) (nn kk st : Nat) (sd : Int64) (ag : Int32) (tk lo : Int32) (C tg : Nat → Int32) (S : Nat → Int64) (n2 k2 s2 : Nat) (d2 : Int64) (ag2 tk2 lo2 : Int32) (E : Nat → Int32) (T : Nat → Int64) (s o : Int32) (hs : okS s = true) (ho : okS o = true) (hfs : f s.toNatClampNeg = some (ad 2)) (hfo : f o.toNatClampNeg = some (ad 8)) (hb : nn < 100 ∧ kk < 100 ∧ st < 100 ∧ n2 < 100 ∧ k2 < 100 ∧ s2 < 100) (hnn : nn ≤ 64) :
    Ct D l mi_X6_same [.ref (ad 0), .int s, .int o] ad (tw D ad lev f x1 x2 x3 y1 y2 y3 y4 nn kk st sd ag tk lo C tg S n2 k2 s2 d2 ag2 tk2 lo2 E T) (fun v c => v = some (.int (bif sameB nn kk st n2 k2 s2 sd d2 then bz (alkB S T (30 * nn)) else -3)) ∧ c = tw D ad lev f x1 x2 x3 y1 y2 y3 y4 nn kk st sd ag tk lo C tg S n2 k2 s2 d2 ag2 tk2 lo2 E T) := by
  refine Ct.of (by decide +kernel) (Nat.le_of_ble_eq_true rfl) (fun X A hX M hr => ?_)
  subst hX
  refine G_iload_n (pc := 0) M dX6_same_0 rfl ?_
  refine G_calls (pc := 1) M [] dX6_same_1 ms_X6_20 (c_noStream D _ (fun j => ad (pn [] j)) s) trivial rfl rfl rfl rfl (Nat.le_of_ble_eq_true rfl) (Nat.le_of_ble_eq_true rfl) (Nat.le_of_ble_eq_true rfl) ⟨Nat.zero_le _, Nat.zero_le _⟩ (fun v c1 hq hlen => ?_)
  obtain ⟨rfl, rfl⟩ := hq
  try dsimp only [sall, List.set, Option.toList, List.cons_append, List.nil_append]
  refine G_if_ne (pc := 4) M 14 dX6_same_4 (by decide) (fun h4 => ?_) (fun h4 => ?_)
  · exact absurd (by rw [hs]; rfl) h4
  · refine G_iload_n (pc := 7) M dX6_same_7 rfl ?_
    refine G_calls (pc := 8) M [] dX6_same_8 ms_X6_20 (c_noStream D _ (fun j => ad (pn [] j)) o) trivial rfl rfl rfl rfl (Nat.le_of_ble_eq_true rfl) (Nat.le_of_ble_eq_true rfl) (Nat.le_of_ble_eq_true rfl) ⟨Nat.zero_le _, Nat.zero_le _⟩ (fun v c1 hq hlen => ?_)
    obtain ⟨rfl, rfl⟩ := hq
    try dsimp only [sall, List.set, Option.toList, List.cons_append, List.nil_append]
    refine G_if_eq (pc := 11) M 16 dX6_same_11 (by decide) (fun h11 => ?_) (fun h11 => ?_)
    · refine G_aload_n (pc := 16) M dX6_same_16 rfl ?_
      refine G_getf (pc := 17) M dX6_same_17 fl_X6_11 rfl (by first | rfl | assumption) ?_
      refine G_iload_n (pc := 20) M dX6_same_20 rfl ?_
      refine G_aaload (pc := 21) M dX6_same_21 rfl (vp3 hs) (hfs) ?_
      refine G_astore_n (pc := 22) M dX6_same_22 (Nat.le_of_ble_eq_true rfl) ?_
      refine G_aload_n (pc := 23) M dX6_same_23 rfl ?_
      refine G_getf (pc := 24) M dX6_same_24 fl_X6_11 rfl (by first | rfl | assumption) ?_
      refine G_iload_n (pc := 27) M dX6_same_27 rfl ?_
      refine G_aaload (pc := 28) M dX6_same_28 rfl (vp3 ho) (hfo) ?_
      refine G_astore (pc := 29) M dX6_same_29 (Nat.le_of_ble_eq_true rfl) ?_
      refine G_aload_n (pc := 31) M dX6_same_31 rfl ?_
      refine G_aload (pc := 32) M dX6_same_32 rfl ?_
      refine G_callv (pc := 34) M [2, 8] dX6_same_34 mv_X6_60 (c_isApartFrom D _ (fun j => ad (pn [2, 8] j)) _ _ nn kk st n2 k2 s2 sd d2 hb rfl rfl rfl rfl rfl rfl rfl rfl) rfl ⟨rfl, rfl, trivial⟩ rfl rfl rfl rfl (Nat.le_of_ble_eq_true rfl) (Nat.le_of_ble_eq_true rfl) (Nat.le_of_ble_eq_true rfl) ⟨Nat.zero_le _, Nat.zero_le _⟩ (fun v c1 hq hlen => ?_)
      obtain ⟨rfl, rfl⟩ := hq
      try dsimp only [sall, List.set, Option.toList, List.cons_append, List.nil_append]
      refine G_if_eq (pc := 37) M 43 dX6_same_37 (by decide) (fun h37 => ?_) (fun h37 => ?_)
      · have e5 : sameB nn kk st n2 k2 s2 sd d2 = true := by simpa using bz0 (b := !sameB nn kk st n2 k2 s2 sd d2) h37
        rw [e5]
        refine G_aload_n (pc := 43) M dX6_same_43 rfl ?_
        refine G_getr (pc := 44) M dX6_same_44 fl_X6_42 rfl (by first | rfl | assumption) ?_
        refine G_aload (pc := 47) M dX6_same_47 rfl ?_
        refine G_getr (pc := 49) M dX6_same_49 fl_X6_42 rfl (by first | rfl | assumption) ?_
        refine G_callv (pc := 52) M [6, 7, 11, 12] dX6_same_52 mv_X6_174 (c_isAlike D _ (fun j => ad (pn [6, 7, 11, 12] j)) nn sd S T _ hnn rfl) rfl ⟨rfl, rfl, rfl, rfl, trivial⟩ rfl rfl rfl rfl (Nat.le_of_ble_eq_true rfl) (Nat.le_of_ble_eq_true rfl) (Nat.le_of_ble_eq_true rfl) ⟨Nat.zero_le _, Nat.zero_le _⟩ (fun v c1 hq hlen => ?_)
        obtain ⟨rfl, rfl⟩ := hq
        try dsimp only [sall, List.set, Option.toList, List.cons_append, List.nil_append]
        refine G_if_eq (pc := 55) M 62 dX6_same_55 (by decide) (fun h55 => ?_) (fun h55 => ?_)
        · have e6 := bz0 h55
          refine G_iconst (pc := 62) (v := 0) M dX6_same_62 (by decide +kernel) ?_
          exact G_iret M hr dX6_same_63 rfl ⟨by rw [e6]; rfl, rfl⟩
        · have e6 := bz1 h55
          refine G_iconst (pc := 58) (v := 1) M dX6_same_58 (by decide +kernel) ?_
          refine G_goto (pc := 59) M 63 dX6_same_59 (by decide) ?_
          exact G_iret M hr dX6_same_63 rfl ⟨by rw [e6]; rfl, rfl⟩
      · have e5 : sameB nn kk st n2 k2 s2 sd d2 = false := by simpa using bz1 (b := !sameB nn kk st n2 k2 s2 sd d2) h37
        rw [e5]
        refine G_bipush (pc := 40) (v := -3) M dX6_same_40 (by decide +kernel) ?_
        exact G_iret M hr dX6_same_42 rfl ⟨rfl, rfl⟩
    · exact absurd (by rw [ho]; rfl) h11
def mgQ (D : DD) (ad : Nat → Nat) (lev : Int32) (f : Nat → Option Nat) (x1 x2 x3 y1 y2 y3 y4 : Value) (nn kk st : Nat) (sd : Int64) (ag : Int32) (tk lo : Int32) (C : Nat → Int32) (S : Nat → Int64) (n2 k2 s2 : Nat) (d2 : Int64) (ag2 tk2 lo2 : Int32) (E : Nat → Int32) (T : Nat → Int64) : Option Value → List va_E → Prop := fun v c => ∃ tg,
  (sameB nn kk st n2 k2 s2 sd d2 = false ∧ v = some (.int (-3)) ∧ c = tw D ad lev f x1 x2 x3 y1 y2 y3 y4 nn kk st sd ag tk lo C tg S n2 k2 s2 d2 ag2 tk2 lo2 E T) ∨
  (sameB nn kk st n2 k2 s2 sd d2 = true ∧ pfull C E lo lo2 nn kk = true ∧ v = some (.int (-6)) ∧ c = tw D ad lev f x1 x2 x3 y1 y2 y3 y4 nn kk st sd ag tk lo C tg S n2 k2 s2 d2 ag2 tk2 lo2 E T) ∨
  (sameB nn kk st n2 k2 s2 sd d2 = true ∧ pfull C E lo lo2 nn kk = false ∧ v = some (.int (nI (cntP (lsD (sm2 C E) (pcut C E nn kk)) nn))) ∧ c = tw D ad lev f x1 x2 x3 y1 y2 y3 y4 nn kk st sd ag (nI (cntP (lsD (sm2 C E) (pcut C E nn kk)) nn)) (plost C E lo lo2 nn kk).toInt32 (fun j => if j < nn then lsD (sm2 C E) (pcut C E nn kk) j else C j) tg (addK S T (30 * nn)) n2 k2 s2 d2 ag2 tk2 lo2 E T)
theorem c_merge2 (D : DD) (l : Launch) (ad : Nat → Nat) (lev : Int32) (f : Nat → Option Nat) (x1 x2 x3 y1 y2 y3 y4 : Value) (nn kk st : Nat) (sd : Int64) (ag : Int32) (tk lo : Int32) (C tg : Nat → Int32) (S : Nat → Int64) (n2 k2 s2 : Nat) (d2 : Int64) (ag2 tk2 lo2 : Int32) (E : Nat → Int32) (T : Nat → Int64) (s o : Int32) (hs : okS s = true) (ho : okS o = true) (hso : ¬ s = o) (hfs : f s.toNatClampNeg = some (ad 2)) (hfo : f o.toNatClampNeg = some (ad 8)) (hb : nn < 100 ∧ kk < 100 ∧ st < 100 ∧ n2 < 100 ∧ k2 < 100 ∧ s2 < 100) (hnn : nn ≤ 64) (hkk : kk < 64) :
    Ct D l mi_X6_merge [.ref (ad 0), .int s, .int o] ad (tw D ad lev f x1 x2 x3 y1 y2 y3 y4 nn kk st sd ag tk lo C tg S n2 k2 s2 d2 ag2 tk2 lo2 E T) (mgQ D ad lev f x1 x2 x3 y1 y2 y3 y4 nn kk st sd ag tk lo C S n2 k2 s2 d2 ag2 tk2 lo2 E T) := by
  refine Ct.of (by decide +kernel) (Nat.le_of_ble_eq_true rfl) (fun X A hX M hr => ?_)
  subst hX
  have fin : ∀ (tk3 lo3 : Int32) (C3 tg3 : Nat → Int32) (Q : State → Prop), Q = GQ D X A ad 13 (fun v c => v = some (.int tk3) ∧ c = tw D ad lev f x1 x2 x3 y1 y2 y3 y4 nn kk st sd ag tk3 lo3 C3 tg3 (addK S T (30 * nn)) n2 k2 s2 d2 ag2 tk2 lo2 E T) → G D X A 0 0 Q ad 66 [some (.ref (ad 0)), some (.int s), some (.int o), some (.ref (ad 2)), some (.ref (ad 8))] [] (tw D ad lev f x1 x2 x3 y1 y2 y3 y4 nn kk st sd ag tk3 lo3 C3 tg3 S n2 k2 s2 d2 ag2 tk2 lo2 E T) := by
    intro tk3 lo3 C3 tg3 Q hQ
    subst hQ
    refine G_aload_n (pc := 66) M dX6_merge_66 rfl ?_
    refine G_getr (pc := 67) M dX6_merge_67 fl_X6_42 rfl (by first | rfl | assumption) ?_
    refine G_aload (pc := 70) M dX6_merge_70 rfl ?_
    refine G_getr (pc := 72) M dX6_merge_72 fl_X6_42 rfl (by first | rfl | assumption) ?_
    refine G_callv (pc := 75) M [6, 7, 11, 12] dX6_merge_75 mv_X6_74 (c_rPut D _ (fun j => ad (pn [6, 7, 11, 12] j)) nn sd S T _ hnn rfl) rfl ⟨rfl, rfl, rfl, rfl, trivial⟩ rfl rfl rfl rfl (Nat.le_of_ble_eq_true rfl) (Nat.le_of_ble_eq_true rfl) (Nat.le_of_ble_eq_true rfl) ⟨Nat.zero_le _, Nat.zero_le _⟩ (fun v c1 hq hlen => ?_)
    obtain ⟨rfl, rfl⟩ := hq
    try dsimp only [sall, List.set, Option.toList, List.cons_append, List.nil_append]
    refine G_aload_n (pc := 78) M dX6_merge_78 rfl ?_
    refine G_getr (pc := 79) M dX6_merge_79 fl_X6_64 rfl (by first | rfl | assumption) ?_
    refine G_getf (pc := 82) M dX6_merge_82 fl_X6_77 rfl (by first | rfl | assumption) ?_
    exact G_iret M hr dX6_merge_85 (Eq.trans (b := 13) rfl rfl) ⟨rfl, rfl⟩
  refine G_iload_n (pc := 0) M dX6_merge_0 rfl ?_
  refine G_calls (pc := 1) M [] dX6_merge_1 ms_X6_20 (c_noStream D _ (fun j => ad (pn [] j)) s) trivial rfl rfl rfl rfl (Nat.le_of_ble_eq_true rfl) (Nat.le_of_ble_eq_true rfl) (Nat.le_of_ble_eq_true rfl) ⟨Nat.zero_le _, Nat.zero_le _⟩ (fun v c1 hq hlen => ?_)
  obtain ⟨rfl, rfl⟩ := hq
  try dsimp only [sall, List.set, Option.toList, List.cons_append, List.nil_append]
  refine G_if_ne (pc := 4) M 19 dX6_merge_4 (by decide) (fun h4 => ?_) (fun h4 => ?_)
  · exact absurd (by rw [hs]; rfl) h4
  · refine G_iload_n (pc := 7) M dX6_merge_7 rfl ?_
    refine G_calls (pc := 8) M [] dX6_merge_8 ms_X6_20 (c_noStream D _ (fun j => ad (pn [] j)) o) trivial rfl rfl rfl rfl (Nat.le_of_ble_eq_true rfl) (Nat.le_of_ble_eq_true rfl) (Nat.le_of_ble_eq_true rfl) ⟨Nat.zero_le _, Nat.zero_le _⟩ (fun v c1 hq hlen => ?_)
    obtain ⟨rfl, rfl⟩ := hq
    try dsimp only [sall, List.set, Option.toList, List.cons_append, List.nil_append]
    refine G_if_ne (pc := 11) M 19 dX6_merge_11 (by decide) (fun h11 => ?_) (fun h11 => ?_)
    · exact absurd (by rw [ho]; rfl) h11
    · refine G_iload_n (pc := 14) M dX6_merge_14 rfl ?_
      refine G_iload_n (pc := 15) M dX6_merge_15 rfl ?_
      refine G_icmp_ne (pc := 16) M 21 dX6_merge_16 (by decide) (fun h16 => ?_) (fun h16 => ?_)
      · refine G_aload_n (pc := 21) M dX6_merge_21 rfl ?_
        refine G_getf (pc := 22) M dX6_merge_22 fl_X6_11 rfl (by first | rfl | assumption) ?_
        refine G_iload_n (pc := 25) M dX6_merge_25 rfl ?_
        refine G_aaload (pc := 26) M dX6_merge_26 rfl (vp3 hs) (hfs) ?_
        refine G_astore_n (pc := 27) M dX6_merge_27 (Nat.le_of_ble_eq_true rfl) ?_
        refine G_aload_n (pc := 28) M dX6_merge_28 rfl ?_
        refine G_getf (pc := 29) M dX6_merge_29 fl_X6_11 rfl (by first | rfl | assumption) ?_
        refine G_iload_n (pc := 32) M dX6_merge_32 rfl ?_
        refine G_aaload (pc := 33) M dX6_merge_33 rfl (vp3 ho) (hfo) ?_
        refine G_astore (pc := 34) M dX6_merge_34 (Nat.le_of_ble_eq_true rfl) ?_
        refine G_aload_n (pc := 36) M dX6_merge_36 rfl ?_
        refine G_aload (pc := 37) M dX6_merge_37 rfl ?_
        refine G_callv (pc := 39) M [2, 8] dX6_merge_39 mv_X6_60 (c_isApartFrom D _ (fun j => ad (pn [2, 8] j)) _ _ nn kk st n2 k2 s2 sd d2 hb rfl rfl rfl rfl rfl rfl rfl rfl) rfl ⟨rfl, rfl, trivial⟩ rfl rfl rfl rfl (Nat.le_of_ble_eq_true rfl) (Nat.le_of_ble_eq_true rfl) (Nat.le_of_ble_eq_true rfl) ⟨Nat.zero_le _, Nat.zero_le _⟩ (fun v c1 hq hlen => ?_)
        obtain ⟨rfl, rfl⟩ := hq
        try dsimp only [sall, List.set, Option.toList, List.cons_append, List.nil_append]
        refine G_if_eq (pc := 42) M 48 dX6_merge_42 (by decide) (fun h42 => ?_) (fun h42 => ?_)
        · have e5 : sameB nn kk st n2 k2 s2 sd d2 = true := by simpa using bz0 (b := !sameB nn kk st n2 k2 s2 sd d2) h42
          refine G_aload_n (pc := 48) M dX6_merge_48 rfl ?_
          refine G_getr (pc := 49) M dX6_merge_49 fl_X6_64 rfl (by first | rfl | assumption) ?_
          refine G_aload (pc := 52) M dX6_merge_52 rfl ?_
          refine G_getr (pc := 54) M dX6_merge_54 fl_X6_64 rfl (by first | rfl | assumption) ?_
          refine G_callv (pc := 57) M [3, 4, 5, 9, 10] dX6_merge_57 mv_X6_68 (c_putTogether D _ (fun j => ad (pn [3, 4, 5, 9, 10] j)) nn kk tk lo lo2 C E tg _ hnn hkk rfl rfl) rfl ⟨rfl, rfl, rfl, rfl, rfl, trivial⟩ rfl rfl rfl rfl (Nat.le_of_ble_eq_true rfl) (Nat.le_of_ble_eq_true rfl) (Nat.le_of_ble_eq_true rfl) ⟨Nat.zero_le _, Nat.zero_le _⟩ (fun v c1 hq hlen => ?_)
          try dsimp only [sall, List.set, Option.toList, List.cons_append, List.nil_append]
          obtain ⟨tg2, ⟨e6, rfl, rfl⟩ | ⟨e6, rfl, rfl⟩⟩ := hq
          · try dsimp only [sall, List.set, Option.toList, List.cons_append, List.nil_append]
            refine G_if_ne (pc := 60) M 66 dX6_merge_60 (by decide) (fun h60 => absurd rfl h60) (fun h60 => ?_)
            refine G_bipush (pc := 63) (v := -6) M dX6_merge_63 (by decide +kernel) ?_
            exact G_iret M hr dX6_merge_65 (Eq.trans (b := 13) rfl rfl) ⟨tg2, Or.inr (Or.inl ⟨e5, e6, rfl, rfl⟩)⟩
          · try dsimp only [sall, List.set, Option.toList, List.cons_append, List.nil_append]
            refine G_if_ne (pc := 60) M 66 dX6_merge_60 (by decide) (fun h60 => ?_) (fun h60 => absurd h60 (by decide))
            exact G_weak (fun v c q => ⟨tg2, Or.inr (Or.inr ⟨e5, e6, q.1, q.2⟩)⟩) (fin _ _ _ tg2 _ rfl)
        · have e5 : sameB nn kk st n2 k2 s2 sd d2 = false := by simpa using bz1 (b := !sameB nn kk st n2 k2 s2 sd d2) h42
          refine G_bipush (pc := 45) (v := -3) M dX6_merge_45 (by decide +kernel) ?_
          exact G_iret M hr dX6_merge_47 rfl ⟨tg, Or.inl ⟨e5, rfl, rfl⟩⟩
      · exact absurd (by simpa using h16) hso
