--NORM
/-! StreamCounts: a stream's numbers, the calls that only read -/
abbrev SP : Type := Nat × Nat × Nat × Int64 × Int32 × Int32 × Int32 × (Nat → Int32) × (Nat → Int32) × Nat × (Nat → Int32) × (Nat → Int32) × (Nat → Int32) × Nat × (Nat → Int32) × (Nat → Int32) × (Nat → Int64) × Int32 × (Nat → Int32) × (Nat → Int64)
abbrev sNn (P : SP) : Nat := P.1
abbrev sKk (P : SP) : Nat := P.2.1
abbrev sSt (P : SP) : Nat := P.2.2.1
abbrev sSd (P : SP) : Int64 := P.2.2.2.1
abbrev sAg (P : SP) : Int32 := P.2.2.2.2.1
abbrev sTk (P : SP) : Int32 := P.2.2.2.2.2.1
abbrev sLo (P : SP) : Int32 := P.2.2.2.2.2.2.1
abbrev sC (P : SP) : Nat → Int32 := P.2.2.2.2.2.2.2.1
abbrev sTg (P : SP) : Nat → Int32 := P.2.2.2.2.2.2.2.2.1
abbrev sFn (P : SP) : Nat := P.2.2.2.2.2.2.2.2.2.1
abbrev sFt (P : SP) : Nat → Int32 := P.2.2.2.2.2.2.2.2.2.2.1
abbrev sFk (P : SP) : Nat → Int32 := P.2.2.2.2.2.2.2.2.2.2.2.1
abbrev sLd (P : SP) : Nat → Int32 := P.2.2.2.2.2.2.2.2.2.2.2.2.1
abbrev sZ (P : SP) : Nat := P.2.2.2.2.2.2.2.2.2.2.2.2.2.1
abbrev sTt (P : SP) : Nat → Int32 := P.2.2.2.2.2.2.2.2.2.2.2.2.2.2.1
abbrev sTq (P : SP) : Nat → Int32 := P.2.2.2.2.2.2.2.2.2.2.2.2.2.2.2.1
abbrev sNb (P : SP) : Nat → Int64 := P.2.2.2.2.2.2.2.2.2.2.2.2.2.2.2.2.1
abbrev sPr (P : SP) : Int32 := P.2.2.2.2.2.2.2.2.2.2.2.2.2.2.2.2.2.1
abbrev sMt (P : SP) : Nat → Int32 := P.2.2.2.2.2.2.2.2.2.2.2.2.2.2.2.2.2.2.1
abbrev sS (P : SP) : Nat → Int64 := P.2.2.2.2.2.2.2.2.2.2.2.2.2.2.2.2.2.2.2
abbrev scX (D : DD) (ad : Nat → Nat) (lev : Int32) (f : Nat → Option Nat) (xNn : Nat) (xKk : Nat) (xSt : Nat) (xSd : Int64) (xAg : Int32) (xTk : Int32) (xLo : Int32) (xC : Nat → Int32) (xTg : Nat → Int32) (xFn : Nat) (xFt : Nat → Int32) (xFk : Nat → Int32) (xLd : Nat → Int32) (xZ : Nat) (xTt : Nat → Int32) (xTq : Nat → Int32) (xNb : Nat → Int64) (xPr : Int32) (xMt : Nat → Int32) (xS : Nat → Int64) : List va_E :=
  [ob 6 [.ref (ad 1), .int lev], qa D 3 f, ob 4 [.ref (ad 3), .ref (ad 6), .ref (ad 10), .ref (ad 14), .ref (ad 16), .int (nI xNn), .int (nI xKk), .int (nI xSt), .long xSd, .int xAg], ob 0 [.ref (ad 4), .ref (ad 5), .int (nI xNn), .int (nI xKk), .int xTk, .int xLo], ia D 64 xC, ia D 64 xTg, ob 1 [.ref (ad 7), .ref (ad 8), .ref (ad 9), .int (nI xFn)], ia D 64 xFt, ia D 64 xFk, ia D 64 xLd, ob 5 [.ref (ad 11), .ref (ad 12), .ref (ad 13), .int (nI xNn), .int (nI xSt), .int (nI xZ)], ia D 512 xTt, ia D 512 xTq, la D 64 xNb, ob 2 [.ref (ad 15), .int xPr], ia D 64 xMt, ob 3 [.ref (ad 17), .int (nI xNn), .long xSd], la D 1920 xS]
abbrev scW (D : DD) (ad : Nat → Nat) (lev : Int32) (f : Nat → Option Nat) (P : SP) : List va_E := scX D ad lev f (sNn P) (sKk P) (sSt P) (sSd P) (sAg P) (sTk P) (sLo P) (sC P) (sTg P) (sFn P) (sFt P) (sFk P) (sLd P) (sZ P) (sTt P) (sTq P) (sNb P) (sPr P) (sMt P) (sS P)
theorem scW_mk (D : DD) (ad : Nat → Nat) (lev : Int32) (f : Nat → Option Nat) (xNn : Nat) (xKk : Nat) (xSt : Nat) (xSd : Int64) (xAg : Int32) (xTk : Int32) (xLo : Int32) (xC : Nat → Int32) (xTg : Nat → Int32) (xFn : Nat) (xFt : Nat → Int32) (xFk : Nat → Int32) (xLd : Nat → Int32) (xZ : Nat) (xTt : Nat → Int32) (xTq : Nat → Int32) (xNb : Nat → Int64) (xPr : Int32) (xMt : Nat → Int32) (xS : Nat → Int64) : scX D ad lev f xNn xKk xSt xSd xAg xTk xLo xC xTg xFn xFt xFk xLd xZ xTt xTq xNb xPr xMt xS = scW D ad lev f (xNn, xKk, xSt, xSd, xAg, xTk, xLo, xC, xTg, xFn, xFt, xFk, xLd, xZ, xTt, xTq, xNb, xPr, xMt, xS) := rfl
/-- the answer, the world unchanged -/
abbrev scQ (D : DD) (ad : Nat → Nat) (lev : Int32) (f : Nat → Option Nat) (P : SP) (r : Int32) : Option Value → List va_E → Prop := fun v c => v = some (.int r) ∧ c = scW D ad lev f P
theorem okN_of {nd : Nat → Int32} {s a : Int32} {nn : Nat} (h : okN nd s a = true) (hnd : nd s.toNatClampNeg = nI nn) (hn : nn ≤ 64) : ∃ i k : Nat, i < 3 ∧ s = nI i ∧ k < nn ∧ a = nI k := by
  simp only [okN, Bool.and_eq_true, Bool.not_eq_true', decide_eq_false_iff_not] at h
  obtain ⟨⟨h1, h2⟩, h3⟩ := h
  obtain ⟨i, hi, e⟩ := okS_of h1
  obtain ⟨k, hk, e2⟩ := nI_of h2
  rw [hnd, e2] at h3
  exact ⟨i, k, hi, e, Nat.lt_of_not_le (fun q => h3 (nI_le q (by omega))), e2⟩
def toldC (P : SP) (w : Int32) : Int32 := if w = 0 then sAg P else if w = 1 then sTk P else if w = 2 then sLo P else if w = 3 then nI (sFn P) else if w = 4 then nI (sZ P) else if w = 5 then sPr P else if w = 6 then nI (sNn P) else if w = 7 then nI (sKk P) else if w = 8 then nI (sSt P) else -1
theorem w_cases (w : Int32) : (w = 0 ∨ w = 1 ∨ w = 2 ∨ w = 3 ∨ w = 4 ∨ w = 5 ∨ w = 6 ∨ w = 7 ∨ w = 8) ∨ (w.toInt < 0 ∨ 8 < w.toInt) := by
  by_cases h : w.toInt < 0 ∨ 8 < w.toInt
  · exact Or.inr h
  · left
    have e : w = nI w.toInt.toNat := by
      apply Int32.toInt_inj.mp
      rw [nI_toInt (by omega)]
      omega
    have : w.toInt.toNat < 9 := by omega
    rw [e]
    generalize w.toInt.toNat = k at this
    have key : ∀ k, k < 9 → (nI k = 0 ∨ nI k = 1 ∨ nI k = 2 ∨ nI k = 3 ∨ nI k = 4 ∨ nI k = 5 ∨ nI k = 6 ∨ nI k = 7 ∨ nI k = 8) := by decide +kernel
    exact key k this
theorem c_told (D : DD) (l : Launch) (ad : Nat → Nat) (lev : Int32) (f : Nat → Option Nat) (P : SP) (s w : Int32) (hf : okS s = true → f s.toNatClampNeg = some (ad 2)) : Ct D l mi_X6_told [.ref (ad 0), .int s, .int w] ad (scW D ad lev f P) (scQ D ad lev f P (bif okS s then toldC P w else -1)) := by
  refine Ct.of (by decide +kernel) (Nat.le_of_ble_eq_true rfl) (fun X A hX M hr => ?_)
  subst hX
  have sw : ∀ (k t : Nat) (off : Int) (r : Int32), okS s = true → #[51, 56, 64, 72, 80, 88, 96, 101, 106][k]? = some off → (17 : Int) + off = (t : Int) → w.toInt = k → k ≤ 8 → G D X A 0 0 (GQ D X A ad 18 (scQ D ad lev f P r)) ad t [some (.ref (ad 0)), some (.int s), some (.int w), some (.ref (ad 2))] [] (scW D ad lev f P) → G D X A 0 0 (GQ D X A ad 18 (scQ D ad lev f P r)) ad 17 [some (.ref (ad 0)), some (.int s), some (.int w), some (.ref (ad 2))] [.int w] (scW D ad lev f P) := by
    intro k t off r _ h1 h2 h3 h4 h5
    refine G_tableIn (pc := 17) M t dX6_told_17 (by omega) (by omega) ?_ h2 h5
    rw [h3, show ((k : Int) - 0).toNat = k by omega]
    exact h1
  refine G_iload_n (pc := 0) M dX6_told_0 rfl ?_
  refine G_calls (pc := 1) M [] dX6_told_1 ms_X6_20 (c_noStream D _ (fun j => ad (pn [] j)) s) trivial rfl rfl rfl rfl (Nat.le_of_ble_eq_true rfl) (Nat.le_of_ble_eq_true rfl) (Nat.le_of_ble_eq_true rfl) ⟨Nat.zero_le _, Nat.zero_le _⟩ (fun v c1 hq hlen => ?_)
  obtain ⟨rfl, rfl⟩ := hq
  try dsimp only [sall, List.set, Option.toList, List.cons_append, List.nil_append]
  refine G_if_eq (pc := 4) M 9 dX6_told_4 (by decide) (fun h4 => ?_) (fun h4 => ?_)
  · have hs : okS s = true := by simpa using bz0 h4
    rw [hs]
    refine G_aload_n (pc := 9) M dX6_told_9 rfl ?_
    refine G_getf (pc := 10) M dX6_told_10 fl_X6_11 rfl (by first | rfl | assumption) ?_
    refine G_iload_n (pc := 13) M dX6_told_13 rfl ?_
    refine G_aaload (pc := 14) M dX6_told_14 rfl (vp3 hs) (hf hs) ?_
    refine G_astore_n (pc := 15) M dX6_told_15 (Nat.le_of_ble_eq_true rfl) ?_
    refine G_iload_n (pc := 16) M dX6_told_16 rfl ?_
    rcases w_cases w with (rfl | rfl | rfl | rfl | rfl | rfl | rfl | rfl | rfl) | hw
    · refine sw 0 68 51 _ hs rfl rfl rfl (by omega) ?_
      refine G_aload_n (pc := 68) M dX6_told_68 rfl ?_
      refine G_getf (pc := 69) M dX6_told_69 fl_X6_27 rfl (by first | rfl | assumption) ?_
      exact G_iret M hr dX6_told_72 rfl ⟨rfl, rfl⟩
    · refine sw 1 73 56 _ hs rfl rfl rfl (by omega) ?_
      refine G_aload_n (pc := 73) M dX6_told_73 rfl ?_
      refine G_getr (pc := 74) M dX6_told_74 fl_X6_64 rfl (by first | rfl | assumption) ?_
      refine G_getf (pc := 77) M dX6_told_77 fl_X6_77 rfl (by first | rfl | assumption) ?_
      exact G_iret M hr dX6_told_80 rfl ⟨rfl, rfl⟩
    · refine sw 2 81 64 _ hs rfl rfl rfl (by omega) ?_
      refine G_aload_n (pc := 81) M dX6_told_81 rfl ?_
      refine G_getr (pc := 82) M dX6_told_82 fl_X6_64 rfl (by first | rfl | assumption) ?_
      refine G_getf (pc := 85) M dX6_told_85 fl_X6_80 rfl (by first | rfl | assumption) ?_
      exact G_iret M hr dX6_told_88 rfl ⟨rfl, rfl⟩
    · refine sw 3 89 72 _ hs rfl rfl rfl (by omega) ?_
      refine G_aload_n (pc := 89) M dX6_told_89 rfl ?_
      refine G_getr (pc := 90) M dX6_told_90 fl_X6_83 rfl (by first | rfl | assumption) ?_
      refine G_getf (pc := 93) M dX6_told_93 fl_X6_87 rfl (by first | rfl | assumption) ?_
      exact G_iret M hr dX6_told_96 rfl ⟨rfl, rfl⟩
    · refine sw 4 97 80 _ hs rfl rfl rfl (by omega) ?_
      refine G_aload_n (pc := 97) M dX6_told_97 rfl ?_
      refine G_getr (pc := 98) M dX6_told_98 fl_X6_92 rfl (by first | rfl | assumption) ?_
      refine G_getf (pc := 101) M dX6_told_101 fl_X6_96 rfl (by first | rfl | assumption) ?_
      exact G_iret M hr dX6_told_104 rfl ⟨rfl, rfl⟩
    · refine sw 5 105 88 _ hs rfl rfl rfl (by omega) ?_
      refine G_aload_n (pc := 105) M dX6_told_105 rfl ?_
      refine G_getr (pc := 106) M dX6_told_106 fl_X6_99 rfl (by first | rfl | assumption) ?_
      refine G_getf (pc := 109) M dX6_told_109 fl_X6_103 rfl (by first | rfl | assumption) ?_
      exact G_iret M hr dX6_told_112 rfl ⟨rfl, rfl⟩
    · refine sw 6 113 96 _ hs rfl rfl rfl (by omega) ?_
      refine G_aload_n (pc := 113) M dX6_told_113 rfl ?_
      refine G_getf (pc := 114) M dX6_told_114 fl_X6_108 rfl (by first | rfl | assumption) ?_
      exact G_iret M hr dX6_told_117 rfl ⟨rfl, rfl⟩
    · refine sw 7 118 101 _ hs rfl rfl rfl (by omega) ?_
      refine G_aload_n (pc := 118) M dX6_told_118 rfl ?_
      refine G_getf (pc := 119) M dX6_told_119 fl_X6_111 rfl (by first | rfl | assumption) ?_
      exact G_iret M hr dX6_told_122 rfl ⟨rfl, rfl⟩
    · refine sw 8 123 106 _ hs rfl rfl rfl (by omega) ?_
      refine G_aload_n (pc := 123) M dX6_told_123 rfl ?_
      refine G_getf (pc := 124) M dX6_told_124 fl_X6_114 rfl (by first | rfl | assumption) ?_
      exact G_iret M hr dX6_told_127 rfl ⟨rfl, rfl⟩
    · refine G_tableOut (pc := 17) M 128 dX6_told_17 hw rfl ?_
      have e : toldC P w = -1 := by
        have q : ∀ k : Int32, (0 ≤ k.toInt ∧ k.toInt ≤ 8) → ¬ w = k := fun k hk z => by subst z; omega
        simp only [toldC, q 0 (by decide), q 1 (by decide), q 2 (by decide), q 3 (by decide), q 4 (by decide), q 5 (by decide), q 6 (by decide), q 7 (by decide), q 8 (by decide), if_false]
      rw [e]
      refine G_iconst (pc := 128) (v := -1) M dX6_told_128 (by decide +kernel) ?_
      exact G_iret M hr dX6_told_129 rfl ⟨rfl, rfl⟩
  · have hs : okS s = false := by simpa using bz1 h4
    rw [hs]
    refine G_iconst (pc := 7) (v := -1) M dX6_told_7 (by decide +kernel) ?_
    exact G_iret M hr dX6_told_8 rfl ⟨rfl, rfl⟩
