/-! Counters.putTogether -/
theorem gB_rng (f : Nat → Int32) (ps : Int64) : ∀ k, (gB f ps k).1 = -2 ∨ ∃ a, a < k ∧ (gB f ps k).1 = nI a
  | 0 => Or.inl rfl
  | k + 1 => by
    rw [gB]
    split
    · rcases gB_rng f ps k with h | ⟨a, h1, h2⟩
      · exact Or.inl h
      · exact Or.inr ⟨a, by omega, h2⟩
    · exact Or.inr ⟨k, by omega, rfl⟩
theorem nap_rng (f : Nat → Int32) (nn : Nat) : ∀ (j : Nat) (ps : Int64), nap f nn j ps = -2 ∨ ∃ a, a < nn ∧ nap f nn j ps = nI a
  | 0, ps => gB_rng f ps nn
  | j + 1, ps => by
    rw [nap]
    split
    · exact Or.inl rfl
    · exact nap_rng f nn j _
theorem gB_congr {f g : Nat → Int32} (ps : Int64) : ∀ k, (∀ j, j < k → f j = g j) → gB f ps k = gB g ps k
  | 0, _ => rfl
  | k + 1, h => by
    rw [gB, gB, gB_congr ps k (fun j hj => h j (by omega)), h k (by omega)]
theorem nap_congr {f g : Nat → Int32} {nn : Nat} (h : ∀ j, j < nn → f j = g j) : ∀ (j : Nat) (ps : Int64), nap f nn j ps = nap g nn j ps
  | 0, ps => by rw [nap, nap, gB_congr ps nn h]
  | j + 1, ps => by rw [nap, nap, gB_congr ps nn h, nap_congr h j]
def sm2 (C E : Nat → Int32) : Nat → Int32 := fun j => C j + E j
def anyB (C E : Nat → Int32) : Nat → Bool
  | 0 => false
  | k + 1 => anyB C E k || decide ((1000000000 : Int64) < (C k).toInt64 + (E k).toInt64)
theorem anyB_mono (C E : Nat → Int32) {k : Nat} (h : anyB C E k = true) : ∀ n, k ≤ n → anyB C E n = true := by
  intro n hn
  induction n with
  | zero => rw [show k = 0 by omega] at h; exact h
  | succ n ih =>
    by_cases e : k = n + 1
    · rw [← e]; exact h
    · simp [anyB, ih (by omega)]
def pcut (C E : Nat → Int32) (nn kk : Nat) : Int32 := if nap (sm2 C E) nn kk 0 = -2 then 0 else sm2 C E (nap (sm2 C E) nn kk 0).toNatClampNeg
def plost (C E : Nat → Int32) (lo lo2 : Int32) (nn kk : Nat) : Int64 := lo.toInt64 + lo2.toInt64 + (pcut C E nn kk).toInt64
def pfull (C E : Nat → Int32) (lo lo2 : Int32) (nn kk : Nat) : Bool := anyB C E nn || decide ((1000000000 : Int64) < plost C E lo lo2 nn kk)
theorem add_l2i (x y : Int32) : (x.toInt64 + y.toInt64).toInt32 = x + y := by simp
def tgK (C E tg : Nat → Int32) (k : Nat) : Nat → Int32 := fun j => if j < k then sm2 C E j else tg j
theorem tgK_step (C E tg : Nat → Int32) (k : Nat) : upd (tgK C E tg k) k (C k + E k) = tgK C E tg (k + 1) := by
  funext j
  simp only [upd, tgK]
  by_cases h : j = k
  · subst h; simp [sm2]
  · rw [if_neg h]
    by_cases h2 : j < k
    · rw [if_pos h2, if_pos (show j < k + 1 by omega)]
    · rw [if_neg h2, if_neg (show ¬ j < k + 1 by omega)]
abbrev ptW (D : DD) (ad : Nat → Nat) (nn kk : Nat) (tk lo : Int32) (C tg : Nat → Int32) (gs : List Value) (E : Nat → Int32) : List va_E := [ctO ad nn kk tk lo, ia D 64 C, ia D 64 tg, ob 0 gs, ia D 64 E]
def ptQ (D : DD) (ad : Nat → Nat) (nn kk : Nat) (tk lo lo2 : Int32) (C : Nat → Int32) (gs : List Value) (E : Nat → Int32) : Option Value → List va_E → Prop := fun v cs => ∃ tg, (pfull C E lo lo2 nn kk = true ∧ v = some (.int 0) ∧ cs = ptW D ad nn kk tk lo C tg gs E) ∨ (pfull C E lo lo2 nn kk = false ∧ v = some (.int 1) ∧ cs = ptW D ad nn kk (nI (cntP (lsD (sm2 C E) (pcut C E nn kk)) nn)) (plost C E lo lo2 nn kk).toInt32 (fun j => if j < nn then lsD (sm2 C E) (pcut C E nn kk) j else C j) tg gs E)
theorem cntP_congr {f g : Nat → Int32} : ∀ k, (∀ j, j < k → f j = g j) → cntP f k = cntP g k
  | 0, _ => rfl
  | k + 1, h => by rw [cntP, cntP, cntP_congr k (fun j hj => h j (by omega)), h k (by omega)]
theorem pt_end {D : DD} {X : MX} {A : Nat → Prop} (M : CX D X A mi_X0_putTogether.1.cls mi_X0_putTogether.2.1 mi_X0_putTogether.2.2.1 (miR mi_X0_putTogether)) (hr : RT X mi_X0_putTogether.2.2.2.1) {ad : Nat → Nat} {nn kk : Nat} {tk lo lo2 : Int32} {C E tg : Nat → Int32} {gs : List Value} (hnn : nn ≤ 64) (hkk : kk < 64) (hg0 : gt gs 0 = some (.ref (ad 4))) (hg5 : gt gs 5 = some (.int lo2)) (hb : anyB C E nn = false) (z2 z3 z4 z5 : Option Value) :
    G D X A 0 0 (GQ D X A ad 5 (ptQ D ad nn kk tk lo lo2 C gs E)) ad 79 [some (.ref (ad 0)), some (.ref (ad 3)), some (.int (nap (sm2 C E) nn kk 0)), z3, z4, z5] [.int (pcut C E nn kk)] (ptW D ad nn kk tk lo C (tgK C E tg nn) gs E) := by
  refine G_istore_n (pc := 79) M dX0_putTogether_79 (Nat.le_of_ble_eq_true rfl) ?_
  refine G_aload_n (pc := 80) M dX0_putTogether_80 rfl ?_
  refine G_getf (pc := 81) M dX0_putTogether_81 fl_X0_28 rfl (by first | rfl | assumption) ?_
  refine G_i2l (pc := 84) M dX0_putTogether_84 ?_
  refine G_aload_n (pc := 85) M dX0_putTogether_85 rfl ?_
  refine G_getf (pc := 86) M dX0_putTogether_86 fl_X0_28 rfl (by first | rfl | assumption) ?_
  refine G_i2l (pc := 89) M dX0_putTogether_89 ?_
  refine G_ladd (pc := 90) M dX0_putTogether_90 ?_
  refine G_iload_n (pc := 91) M dX0_putTogether_91 rfl ?_
  refine G_i2l (pc := 92) M dX0_putTogether_92 ?_
  refine G_ladd (pc := 93) M dX0_putTogether_93 ?_
  refine G_lstore (pc := 94) M dX0_putTogether_94 (Nat.le_of_ble_eq_true rfl) ?_
  refine G_lload (pc := 96) M dX0_putTogether_96 rfl ?_
  refine G_ldc2 (pc := 98) M dX0_putTogether_98 cn_X0_41 ?_
  refine G_lcmp (pc := 101) M dX0_putTogether_101 ?_
  refine G_if_le (pc := 102) M 107 dX0_putTogether_102 (by decide) (fun h102 => ?_) (fun h102 => ?_)
  · rw [lg_cmp_le] at h102
    have hfull : pfull C E lo lo2 nn kk = false := by
      simp only [pfull, hb, Bool.false_or]
      exact decide_eq_false (Int64.not_lt.mpr h102)
    refine G_aload_n (pc := 107) M dX0_putTogether_107 rfl ?_
    refine G_getf (pc := 108) M dX0_putTogether_108 fl_X0_15 rfl (by first | rfl | assumption) ?_
    refine G_iconst (pc := 111) (v := 0) M dX0_putTogether_111 (by decide +kernel) ?_
    refine G_aload_n (pc := 112) M dX0_putTogether_112 rfl ?_
    refine G_getf (pc := 113) M dX0_putTogether_113 fl_X0_9 rfl (by first | rfl | assumption) ?_
    refine G_iconst (pc := 116) (v := 0) M dX0_putTogether_116 (by decide +kernel) ?_
    refine G_aload_n (pc := 117) M dX0_putTogether_117 rfl ?_
    refine G_getf (pc := 118) M dX0_putTogether_118 fl_X0_18 rfl (by first | rfl | assumption) ?_
    refine G_copyi (pc := 121) M dX0_putTogether_121 sys_lnk rfl rfl (by decide) (by decide) (nI_pos (by omega)) (by rw [cl_nI (by omega)]; show 0 + nn ≤ 64; omega) (by rw [cl_nI (by omega)]; show 0 + nn ≤ 64; omega) rfl (Nat.le_of_ble_eq_true rfl) (by decide) ?_
    refine G_normI 1 (fun j => if j < nn then sm2 C E j else C j) rfl (fun j hj => ?_) ?_
    · show va_cpy (tgK C E tg nn) C 0 0 (nI nn).toNatClampNeg j = _
      rw [cl_nI (by omega)]
      by_cases h : j < nn
      · rw [pk_cpy_in (by omega) (by omega), if_pos h, show 0 + (j - 0) = j by omega]
        simp [tgK, h]
      · rw [pk_cpy_out (by omega), if_neg h]
    refine G_aload_n (pc := 124) M dX0_putTogether_124 rfl ?_
    refine G_lload (pc := 125) M dX0_putTogether_125 rfl ?_
    refine G_l2i (pc := 127) M dX0_putTogether_127 ?_
    refine G_putfi (pc := 128) M dX0_putTogether_128 fl_X0_28 rfl (Nat.le_of_ble_eq_true rfl) ?_
    refine G_aload_n (pc := 131) M dX0_putTogether_131 rfl ?_
    refine G_iload_n (pc := 132) M dX0_putTogether_132 rfl ?_
    refine G_callv (pc := 133) M [0, 1, 2] dX0_putTogether_133 mv_X0_37 (c_lessen D _ (fun j => ad (pn [0, 1, 2] j)) nn kk tk (plost C E lo lo2 nn kk).toInt32 (pcut C E nn kk) (fun j => if j < nn then sm2 C E j else C j) (tgK C E tg nn) hnn) rfl ⟨rfl, rfl, rfl, trivial⟩ rfl rfl rfl rfl (Nat.le_of_ble_eq_true rfl) (Nat.le_of_ble_eq_true rfl) (Nat.le_of_ble_eq_true rfl) ⟨Nat.zero_le _, Nat.zero_le _⟩ (fun v c1 hq hlen => ?_)
    obtain ⟨rfl, rfl⟩ := hq
    refine G_normI 1 (fun j => if j < nn then lsD (sm2 C E) (pcut C E nn kk) j else C j) rfl (fun j hj => ?_) ?_
    · by_cases h : j < nn
      · simp [lsK, lsD, h]
      · simp [lsK, h]
    rw [cntP_congr (g := lsD (sm2 C E) (pcut C E nn kk)) nn (fun j hj => by simp [lsD, hj])]
    refine G_iconst (pc := 136) (v := 1) M dX0_putTogether_136 (by decide +kernel) ?_
    exact G_zret M hr dX0_putTogether_137 rfl rfl ⟨tgK C E tg nn, Or.inr ⟨hfull, rfl, rfl⟩⟩
  · rw [lg_cmp_le] at h102
    have hfull : pfull C E lo lo2 nn kk = true := by
      simp only [pfull, hb, Bool.false_or]
      exact decide_eq_true (Int64.not_le.mp h102)
    refine G_iconst (pc := 105) (v := 0) M dX0_putTogether_105 (by decide +kernel) ?_
    exact G_zret M hr dX0_putTogether_106 rfl rfl ⟨tgK C E tg nn, Or.inl ⟨hfull, rfl, rfl⟩⟩
theorem pt_mid {D : DD} {X : MX} {A : Nat → Prop} (M : CX D X A mi_X0_putTogether.1.cls mi_X0_putTogether.2.1 mi_X0_putTogether.2.2.1 (miR mi_X0_putTogether)) (hr : RT X mi_X0_putTogether.2.2.2.1) {ad : Nat → Nat} {nn kk : Nat} {tk lo lo2 : Int32} {C E tg : Nat → Int32} {gs : List Value} (hnn : nn ≤ 64) (hkk : kk < 64) (hg0 : gt gs 0 = some (.ref (ad 4))) (hg5 : gt gs 5 = some (.int lo2)) (hb : anyB C E nn = false) (z2 z3 z4 z5 : Option Value) :
    G D X A 0 0 (GQ D X A ad 5 (ptQ D ad nn kk tk lo lo2 C gs E)) ad 50 [some (.ref (ad 0)), some (.ref (ad 3)), z2, z3, z4, z5] [] (ptW D ad nn kk tk lo C (tgK C E tg nn) gs E) := by
  have hnc : nap (tgK C E tg nn) nn kk 0 = nap (sm2 C E) nn kk 0 := nap_congr (fun j hj => by simp [tgK, hj]) kk 0
  refine G_aload_n (pc := 50) M dX0_putTogether_50 rfl ?_
  refine G_aload_n (pc := 51) M dX0_putTogether_51 rfl ?_
  refine G_getf (pc := 52) M dX0_putTogether_52 fl_X0_15 rfl (by first | rfl | assumption) ?_
  refine G_aload_n (pc := 55) M dX0_putTogether_55 rfl ?_
  refine G_getf (pc := 56) M dX0_putTogether_56 fl_X0_22 rfl (by first | rfl | assumption) ?_
  refine G_callv (pc := 59) M [0, 2] dX0_putTogether_59 mv_X0_43 (c_nodeAtPlace D _ (fun j => ad (pn [0, 2] j)) _ nn kk (tgK C E tg nn) hnn (by omega) rfl) rfl ⟨rfl, rfl, trivial⟩ rfl rfl rfl rfl (Nat.le_of_ble_eq_true rfl) (Nat.le_of_ble_eq_true rfl) (Nat.le_of_ble_eq_true rfl) ⟨Nat.zero_le _, Nat.zero_le _⟩ (fun v c1 hq hlen => ?_)
  obtain ⟨rfl, rfl⟩ := hq
  rw [hnc]
  refine G_istore_n (pc := 62) M dX0_putTogether_62 (Nat.le_of_ble_eq_true rfl) ?_
  refine G_iload_n (pc := 63) M dX0_putTogether_63 rfl ?_
  refine G_bipush (pc := 64) (v := -2) M dX0_putTogether_64 (by decide +kernel) ?_
  refine G_icmp_ne (pc := 66) M 73 dX0_putTogether_66 (by decide) (fun h66 => ?_) (fun h66 => ?_)
  · obtain ⟨a, ha, ea⟩ := (nap_rng (sm2 C E) nn kk 0).resolve_left h66
    have e : pcut C E nn kk = sm2 C E a := by rw [pcut, if_neg h66, ea, cl_nI (by omega)]
    refine G_aload_n (pc := 73) M dX0_putTogether_73 rfl ?_
    refine G_getf (pc := 74) M dX0_putTogether_74 fl_X0_15 rfl (by first | rfl | assumption) ?_
    refine G_iload_n (pc := 77) M dX0_putTogether_77 rfl ?_
    refine G_iaload (pc := 78) M dX0_putTogether_78 rfl (by rw [ea]; exact vp_in_nI (by omega) (by omega)) ?_
    rw [ea, cl_nI (by omega), show tgK C E tg nn a = sm2 C E a by simp [tgK, ha], ← e, ← ea]
    first | exact pt_end M hr hnn hkk hg0 hg5 hb none _ _ _ | (rw [← e]; exact pt_end M hr hnn hkk hg0 hg5 hb none _ _ _)
  · have e : pcut C E nn kk = 0 := by rw [pcut, if_pos (by simpa using h66)]
    refine G_iconst (pc := 69) (v := 0) M dX0_putTogether_69 (by decide +kernel) ?_
    refine G_goto (pc := 70) M 79 dX0_putTogether_70 (by decide) ?_
    first | exact pt_end M hr hnn hkk hg0 hg5 hb none _ _ _ | (rw [← e]; exact pt_end M hr hnn hkk hg0 hg5 hb none _ _ _)
