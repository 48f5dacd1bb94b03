/-! Forest: searches, drop, accept -/
def fArc (n : Nat) (ky : Nat → Int32) (fu fv : Nat → Nat) : Prop := ∀ i, i < n → ky i = nI (64 * fu i + fv i) ∧ fu i < 64 ∧ fv i < 64
/-- the place of the arc that first joins a and b, from place r - 1 down -/
def obt (fu fv : Nat → Nat) (n a b : Nat) : Nat → Option Nat
  | 0 => none
  | r + 1 => if lab fu fv n (n - r) a = lab fu fv n (n - r) b then some r else obt fu fv n a b r
def oI : Option Nat → Int32
  | none => -2
  | some r => nI r
theorem lab_succ (fu fv : Nat → Nat) (n i : Nat) : lab fu fv n (i + 1) = unN (lab fu fv n i) (lab fu fv n i (fu (n - 1 - i))) (lab fu fv n i (fv (n - 1 - i))) := rfl
theorem dec_neg {r : Nat} (hr : r < 2 ^ 30) : nI r - 1 < 0 ↔ r = 0 := by
  have := dec_lt (m := r) (L := 0) hr (by omega)
  rw [nI_0] at this
  rw [this]
  omega
theorem ob_loop {D : DD} {X : MX} {A : Nat → Prop} (M : CX D X A mi_X1_oldestBetween.1.cls mi_X1_oldestBetween.2.1 mi_X1_oldestBetween.2.2.1 (miR mi_X1_oldestBetween)) (hr : RT X mi_X1_oldestBetween.2.2.2.1) {ad : Nat → Nat} {n a b : Nat} {tm ky : Nat → Int32} {fu fv : Nat → Nat} (hn : n ≤ 64) (ha : a < 64) (hb : b < 64) (hK : fArc n ky fu fv) : ∀ r : Nat, r ≤ n → ∀ ld : Nat → Int32, UFP ld (lab fu fv n (n - r)) →
    G D X A 0 0 (GQ D X A ad 4 (fun v c => v = some (.int (oI (obt fu fv n a b r))) ∧ ∃ ld2, c = foW D ad n tm ky ld2)) ad 11 [some (.ref (ad 0)), some (.int (nI a)), some (.int (nI b)), some (.int (nI r - 1))] [] (foW D ad n tm ky ld) := by
  intro r
  induction r with
  | zero =>
    intro _ ld hU
    refine G_iload_n (pc := 11) M dX1_oldestBetween_11 rfl ?_
    refine G_if_lt (pc := 12) M 41 dX1_oldestBetween_12 (by decide) (fun h12 => ?_) (fun h12 => ?_)
    · refine G_bipush (pc := 41) (v := -2) M dX1_oldestBetween_41 (by decide +kernel) ?_
      exact G_iret M hr dX1_oldestBetween_43 rfl ⟨rfl, _, rfl⟩
    · exact absurd ((dec_neg (by omega)).mpr rfl) h12
  | succ r ih =>
    intro hr1 ld hU
    obtain ⟨k1, k2, k3⟩ := hK r (by omega)
    have el : lab fu fv n (n - r) = unN (lab fu fv n (n - (r + 1))) (lab fu fv n (n - (r + 1)) (fu r)) (lab fu fv n (n - (r + 1)) (fv r)) := by
      rw [show n - r = n - (r + 1) + 1 by omega, lab_succ, show n - 1 - (n - (r + 1)) = r by omega]
    rw [nI_pred]
    refine G_iload_n (pc := 11) M dX1_oldestBetween_11 rfl ?_
    refine G_if_lt (pc := 12) M 41 dX1_oldestBetween_12 (by decide) (fun h12 => ?_) (fun h12 => ?_)
    · exact absurd h12 (nI_pos (by omega))
    · refine G_aload_n (pc := 15) M dX1_oldestBetween_15 rfl ?_
      refine G_iload_n (pc := 16) M dX1_oldestBetween_16 rfl ?_
      refine G_callv (pc := 17) M [0, 1, 2, 3] dX1_oldestBetween_17 mv_X1_39 (c_joinByArc D _ (fun j => ad (pn [0, 1, 2, 3] j)) n r (fu r) (fv r) tm ky ld _ (by omega) k1 k2 k3 hU) rfl ⟨rfl, rfl, rfl, rfl, trivial⟩ rfl rfl rfl rfl (Nat.le_of_ble_eq_true rfl) (Nat.le_of_ble_eq_true rfl) (Nat.le_of_ble_eq_true rfl) ⟨Nat.zero_le _, Nat.zero_le _⟩ (fun v c1 hq hlen => ?_)
      obtain ⟨rfl, ld2, hU2, rfl⟩ := hq
      rw [← el] at hU2
      refine G_aload_n (pc := 20) M dX1_oldestBetween_20 rfl ?_
      refine G_iload_n (pc := 21) M dX1_oldestBetween_21 rfl ?_
      refine G_callv (pc := 22) M [0, 3] dX1_oldestBetween_22 mv_X1_42 (c_leaderOf D _ (fun j => ad (pn [0, 3] j)) _ ld2 _ a ha hU2 rfl) rfl ⟨rfl, rfl, trivial⟩ rfl rfl rfl rfl (Nat.le_of_ble_eq_true rfl) (Nat.le_of_ble_eq_true rfl) (Nat.le_of_ble_eq_true rfl) ⟨Nat.zero_le _, Nat.zero_le _⟩ (fun v c1 hq hlen => ?_)
      obtain ⟨rfl, rfl⟩ := hq
      refine G_aload_n (pc := 25) M dX1_oldestBetween_25 rfl ?_
      refine G_iload_n (pc := 26) M dX1_oldestBetween_26 rfl ?_
      refine G_callv (pc := 27) M [0, 3] dX1_oldestBetween_27 mv_X1_42 (c_leaderOf D _ (fun j => ad (pn [0, 3] j)) _ ld2 _ b hb hU2 rfl) rfl ⟨rfl, rfl, trivial⟩ rfl rfl rfl rfl (Nat.le_of_ble_eq_true rfl) (Nat.le_of_ble_eq_true rfl) (Nat.le_of_ble_eq_true rfl) ⟨Nat.zero_le _, Nat.zero_le _⟩ (fun v c1 hq hlen => ?_)
      obtain ⟨rfl, rfl⟩ := hq
      have l1 := (hU2.le 64 a ha ha).1
      have l2 := (hU2.le 64 b hb hb).1
      refine G_icmp_ne (pc := 30) M 35 dX1_oldestBetween_30 (by decide) (fun h30 => ?_) (fun h30 => ?_)
      · have e : obt fu fv n a b (r + 1) = obt fu fv n a b r := by rw [obt, if_neg (fun w => h30 (by rw [w]))]
        refine G_iinc (pc := 35) (v := -1) M dX1_oldestBetween_35 rfl (by decide +kernel) (Nat.le_of_ble_eq_true rfl) ?_
        refine G_goto (pc := 38) M 11 dX1_oldestBetween_38 (by decide) ?_
        rw [e, m1_sub]
        exact ih (by omega) ld2 hU2
      · have e : obt fu fv n a b (r + 1) = some r := by rw [obt, if_pos ((nI_eq (by omega) (by omega)).mp (by simpa using h30))]
        refine G_iload_n (pc := 33) M dX1_oldestBetween_33 rfl ?_
        exact G_iret M hr dX1_oldestBetween_34 rfl ⟨by rw [e]; rfl, _, rfl⟩
theorem c_oldest (D : DD) (l : Launch) (ad : Nat → Nat) (n a b : Nat) (tm ky ld : Nat → Int32) (fu fv : Nat → Nat) (hn : n ≤ 64) (ha : a < 64) (hb : b < 64) (hK : fArc n ky fu fv) : Ct D l mi_X1_oldestBetween [.ref (ad 0), .int (nI a), .int (nI b)] ad (foW D ad n tm ky ld) (fun v c => v = some (.int (oI (obt fu fv n a b n))) ∧ ∃ ld2, c = foW D ad n tm ky ld2) := by
  refine Ct.of (by decide +kernel) (Nat.le_of_ble_eq_true rfl) (fun X A hX M hr => ?_)
  subst hX
  refine G_aload_n (pc := 0) M dX1_oldestBetween_0 rfl ?_
  refine G_callv (pc := 1) M [0, 3] dX1_oldestBetween_1 mv_X1_36 (c_partAll D _ (fun j => ad (pn [0, 3] j)) _ ld rfl) rfl ⟨rfl, rfl, trivial⟩ rfl rfl rfl rfl (Nat.le_of_ble_eq_true rfl) (Nat.le_of_ble_eq_true rfl) (Nat.le_of_ble_eq_true rfl) ⟨Nat.zero_le _, Nat.zero_le _⟩ (fun v c1 hq hlen => ?_)
  obtain ⟨rfl, rfl⟩ := hq
  refine G_aload_n (pc := 4) M dX1_oldestBetween_4 rfl ?_
  refine G_getf (pc := 5) M dX1_oldestBetween_5 fl_X1_21 rfl (by first | rfl | assumption) ?_
  refine G_iconst (pc := 8) (v := 1) M dX1_oldestBetween_8 (by decide +kernel) ?_
  refine G_isub (pc := 9) M dX1_oldestBetween_9 ?_
  refine G_istore_n (pc := 10) M dX1_oldestBetween_10 (Nat.le_of_ble_eq_true rfl) ?_
  exact ob_loop M hr hn ha hb hK n (Nat.le_refl n) _ (by rw [Nat.sub_self]; exact UFP.init)
/-- how many arcs from place r - 1 down have a time above t -/
def afr (tm : Nat → Int32) (t : Int32) : Nat → Nat
  | 0 => 0
  | r + 1 => if tm r ≤ t then 0 else afr tm t r + 1
theorem afr_le (tm : Nat → Int32) (t : Int32) : ∀ r, afr tm t r ≤ r
  | 0 => Nat.le_refl 0
  | r + 1 => by
    have := afr_le tm t r
    simp only [afr]
    split <;> omega
theorem aa_loop {D : DD} {X : MX} {A : Nat → Prop} (M : CX D X A mi_X1_arcsAfter.1.cls mi_X1_arcsAfter.2.1 mi_X1_arcsAfter.2.2.1 (miR mi_X1_arcsAfter)) (hr : RT X mi_X1_arcsAfter.2.2.2.1) {ad : Nat → Nat} {n : Nat} {tm : Nat → Int32} {t : Int32} {fs : List Value} (hn : n ≤ 64) (hf0 : gt fs 0 = some (.ref (ad 1))) : ∀ r c : Nat, r ≤ n →
    G D X A 0 0 (GQ D X A ad 2 (fun v cs => v = some (.int (nI (c + afr tm t r))) ∧ cs = [ob 1 fs, ia D 64 tm])) ad 9 [some (.ref (ad 0)), some (.int t), some (.int (nI c)), some (.int (nI r - 1))] [] [ob 1 fs, ia D 64 tm] := by
  intro r
  induction r with
  | zero =>
    intro c _
    refine G_iload_n (pc := 9) M dX1_arcsAfter_9 rfl ?_
    refine G_if_lt (pc := 10) M 32 dX1_arcsAfter_10 (by decide) (fun h10 => ?_) (fun h10 => ?_)
    · refine G_iload_n (pc := 32) M dX1_arcsAfter_32 rfl ?_
      exact G_iret M hr dX1_arcsAfter_33 rfl ⟨rfl, rfl⟩
    · exact absurd ((dec_neg (by omega)).mpr rfl) h10
  | succ r ih =>
    intro c hr1
    rw [nI_pred]
    refine G_iload_n (pc := 9) M dX1_arcsAfter_9 rfl ?_
    refine G_if_lt (pc := 10) M 32 dX1_arcsAfter_10 (by decide) (fun h10 => ?_) (fun h10 => ?_)
    · exact absurd h10 (nI_pos (by omega))
    · refine G_aload_n (pc := 13) M dX1_arcsAfter_13 rfl ?_
      refine G_getf (pc := 14) M dX1_arcsAfter_14 fl_X1_9 rfl (by first | rfl | assumption) ?_
      refine G_iload_n (pc := 17) M dX1_arcsAfter_17 rfl ?_
      refine G_iaload (pc := 18) M dX1_arcsAfter_18 rfl (by first | assumption | exact vp_in_nI (by omega) (by omega)) ?_
      rw [cl_nI (by omega)]
      refine G_iload_n (pc := 19) M dX1_arcsAfter_19 rfl ?_
      refine G_icmp_le (pc := 20) M 32 dX1_arcsAfter_20 (by decide) (fun h20 => ?_) (fun h20 => ?_)
      · refine G_iload_n (pc := 32) M dX1_arcsAfter_32 rfl ?_
        exact G_iret M hr dX1_arcsAfter_33 rfl ⟨by rw [afr, if_pos h20]; rfl, rfl⟩
      · refine G_iinc (pc := 23) (v := 1) M dX1_arcsAfter_23 rfl (by decide +kernel) (Nat.le_of_ble_eq_true rfl) ?_
        refine G_iinc (pc := 26) (v := -1) M dX1_arcsAfter_26 rfl (by decide +kernel) (Nat.le_of_ble_eq_true rfl) ?_
        refine G_goto (pc := 29) M 9 dX1_arcsAfter_29 (by decide) ?_
        have := ih (c + 1) (by omega)
        rw [afr, if_neg h20, m1_sub, nI_1, show c + (afr tm t r + 1) = c + 1 + afr tm t r by omega]
        exact this
theorem c_arcsAfter (D : DD) (l : Launch) (ad : Nat → Nat) (n : Nat) (tm : Nat → Int32) (t : Int32) (fs : List Value) (hn : n ≤ 64) (hf0 : gt fs 0 = some (.ref (ad 1))) (hf3 : gt fs 3 = some (.int (nI n))) : Ct D l mi_X1_arcsAfter [.ref (ad 0), .int t] ad [ob 1 fs, ia D 64 tm] (fun v cs => v = some (.int (nI (afr tm t n))) ∧ cs = [ob 1 fs, ia D 64 tm]) := by
  refine Ct.of (by decide +kernel) (Nat.le_of_ble_eq_true rfl) (fun X A hX M hr => ?_)
  subst hX
  refine G_iconst (pc := 0) (v := 0) M dX1_arcsAfter_0 (by decide +kernel) ?_
  refine G_istore_n (pc := 1) M dX1_arcsAfter_1 (Nat.le_of_ble_eq_true rfl) ?_
  refine G_aload_n (pc := 2) M dX1_arcsAfter_2 rfl ?_
  refine G_getf (pc := 3) M dX1_arcsAfter_3 fl_X1_21 rfl (by first | rfl | assumption) ?_
  refine G_iconst (pc := 6) (v := 1) M dX1_arcsAfter_6 (by decide +kernel) ?_
  refine G_isub (pc := 7) M dX1_arcsAfter_7 ?_
  refine G_istore_n (pc := 8) M dX1_arcsAfter_8 (Nat.le_of_ble_eq_true rfl) ?_
  have := aa_loop M hr (ad := ad) (tm := tm) (t := t) hn hf0 n 0 (Nat.le_refl n)
  rw [Nat.zero_add] at this
  exact this
theorem lp_loop {D : DD} {X : MX} {A : Nat → Prop} (M : CX D X A mi_X1_leastOfPart.1.cls mi_X1_leastOfPart.2.1 mi_X1_leastOfPart.2.2.1 (miR mi_X1_leastOfPart)) (hr : RT X mi_X1_leastOfPart.2.2.2.1) {ad : Nat → Nat} {n a : Nat} {tm ky : Nat → Int32} {t : Int32} {fu fv : Nat → Nat} (hn : n ≤ 64) (ha : a < 64) (hK : fArc n ky fu fv) : ∀ r : Nat, r ≤ n → ∀ ld : Nat → Int32, UFP ld (lab fu fv n (n - r)) →
    G D X A 0 0 (GQ D X A ad 4 (fun v c => v = some (.int (nI (lab fu fv n (n - r + afr tm t r) a))) ∧ ∃ ld2, c = foW D ad n tm ky ld2)) ad 11 [some (.ref (ad 0)), some (.int t), some (.int (nI a)), some (.int (nI r - 1))] [] (foW D ad n tm ky ld) := by
  intro r
  induction r with
  | zero =>
    intro _ ld hU
    refine G_iload_n (pc := 11) M dX1_leastOfPart_11 rfl ?_
    refine G_if_lt (pc := 12) M 36 dX1_leastOfPart_12 (by decide) (fun h12 => ?_) (fun h12 => ?_)
    · refine G_aload_n (pc := 36) M dX1_leastOfPart_36 rfl ?_
      refine G_iload_n (pc := 37) M dX1_leastOfPart_37 rfl ?_
      refine G_callv (pc := 38) M [0, 3] dX1_leastOfPart_38 mv_X1_42 (c_leaderOf D _ (fun j => ad (pn [0, 3] j)) _ ld _ a ha hU rfl) rfl ⟨rfl, rfl, trivial⟩ rfl rfl rfl rfl (Nat.le_of_ble_eq_true rfl) (Nat.le_of_ble_eq_true rfl) (Nat.le_of_ble_eq_true rfl) ⟨Nat.zero_le _, Nat.zero_le _⟩ (fun v c1 hq hlen => ?_)
      obtain ⟨rfl, rfl⟩ := hq
      exact G_iret M hr dX1_leastOfPart_41 rfl ⟨rfl, _, rfl⟩
    · exact absurd ((dec_neg (by omega)).mpr rfl) h12
  | succ r ih =>
    intro hr1 ld hU
    obtain ⟨k1, k2, k3⟩ := hK r (by omega)
    have el : lab fu fv n (n - r) = unN (lab fu fv n (n - (r + 1))) (lab fu fv n (n - (r + 1)) (fu r)) (lab fu fv n (n - (r + 1)) (fv r)) := by
      rw [show n - r = n - (r + 1) + 1 by omega, lab_succ, show n - 1 - (n - (r + 1)) = r by omega]
    rw [nI_pred]
    refine G_iload_n (pc := 11) M dX1_leastOfPart_11 rfl ?_
    refine G_if_lt (pc := 12) M 36 dX1_leastOfPart_12 (by decide) (fun h12 => ?_) (fun h12 => ?_)
    · exact absurd h12 (nI_pos (by omega))
    · refine G_aload_n (pc := 15) M dX1_leastOfPart_15 rfl ?_
      refine G_getf (pc := 16) M dX1_leastOfPart_16 fl_X1_9 rfl (by first | rfl | assumption) ?_
      refine G_iload_n (pc := 19) M dX1_leastOfPart_19 rfl ?_
      refine G_iaload (pc := 20) M dX1_leastOfPart_20 rfl (by first | assumption | exact vp_in_nI (by omega) (by omega)) ?_
      rw [cl_nI (by omega)]
      refine G_iload_n (pc := 21) M dX1_leastOfPart_21 rfl ?_
      refine G_icmp_le (pc := 22) M 36 dX1_leastOfPart_22 (by decide) (fun h22 => ?_) (fun h22 => ?_)
      · have e : afr tm t (r + 1) = 0 := by rw [afr, if_pos h22]
        refine G_aload_n (pc := 36) M dX1_leastOfPart_36 rfl ?_
        refine G_iload_n (pc := 37) M dX1_leastOfPart_37 rfl ?_
        refine G_callv (pc := 38) M [0, 3] dX1_leastOfPart_38 mv_X1_42 (c_leaderOf D _ (fun j => ad (pn [0, 3] j)) _ ld _ a ha hU rfl) rfl ⟨rfl, rfl, trivial⟩ rfl rfl rfl rfl (Nat.le_of_ble_eq_true rfl) (Nat.le_of_ble_eq_true rfl) (Nat.le_of_ble_eq_true rfl) ⟨Nat.zero_le _, Nat.zero_le _⟩ (fun v c1 hq hlen => ?_)
        obtain ⟨rfl, rfl⟩ := hq
        exact G_iret M hr dX1_leastOfPart_41 rfl ⟨by rw [e]; rfl, _, rfl⟩
      · have e : afr tm t (r + 1) = afr tm t r + 1 := by rw [afr, if_neg h22]
        refine G_aload_n (pc := 25) M dX1_leastOfPart_25 rfl ?_
        refine G_iload_n (pc := 26) M dX1_leastOfPart_26 rfl ?_
        refine G_callv (pc := 27) M [0, 1, 2, 3] dX1_leastOfPart_27 mv_X1_39 (c_joinByArc D _ (fun j => ad (pn [0, 1, 2, 3] j)) n r (fu r) (fv r) tm ky ld _ (by omega) k1 k2 k3 hU) rfl ⟨rfl, rfl, rfl, rfl, trivial⟩ rfl rfl rfl rfl (Nat.le_of_ble_eq_true rfl) (Nat.le_of_ble_eq_true rfl) (Nat.le_of_ble_eq_true rfl) ⟨Nat.zero_le _, Nat.zero_le _⟩ (fun v c1 hq hlen => ?_)
        obtain ⟨rfl, ld2, hU2, rfl⟩ := hq
        rw [← el] at hU2
        refine G_iinc (pc := 30) (v := -1) M dX1_leastOfPart_30 rfl (by decide +kernel) (Nat.le_of_ble_eq_true rfl) ?_
        refine G_goto (pc := 33) M 11 dX1_leastOfPart_33 (by decide) ?_
        have := ih (by omega) ld2 hU2
        rw [e, m1_sub, show n - (r + 1) + (afr tm t r + 1) = n - r + afr tm t r by omega]
        exact this
theorem c_leastOfPart (D : DD) (l : Launch) (ad : Nat → Nat) (n a : Nat) (tm ky ld : Nat → Int32) (t : Int32) (fu fv : Nat → Nat) (hn : n ≤ 64) (ha : a < 64) (hK : fArc n ky fu fv) : Ct D l mi_X1_leastOfPart [.ref (ad 0), .int t, .int (nI a)] ad (foW D ad n tm ky ld) (fun v c => v = some (.int (nI (lab fu fv n (afr tm t n) a))) ∧ ∃ ld2, c = foW D ad n tm ky ld2) := by
  refine Ct.of (by decide +kernel) (Nat.le_of_ble_eq_true rfl) (fun X A hX M hr => ?_)
  subst hX
  refine G_aload_n (pc := 0) M dX1_leastOfPart_0 rfl ?_
  refine G_callv (pc := 1) M [0, 3] dX1_leastOfPart_1 mv_X1_36 (c_partAll D _ (fun j => ad (pn [0, 3] j)) _ ld rfl) rfl ⟨rfl, rfl, trivial⟩ rfl rfl rfl rfl (Nat.le_of_ble_eq_true rfl) (Nat.le_of_ble_eq_true rfl) (Nat.le_of_ble_eq_true rfl) ⟨Nat.zero_le _, Nat.zero_le _⟩ (fun v c1 hq hlen => ?_)
  obtain ⟨rfl, rfl⟩ := hq
  refine G_aload_n (pc := 4) M dX1_leastOfPart_4 rfl ?_
  refine G_getf (pc := 5) M dX1_leastOfPart_5 fl_X1_21 rfl (by first | rfl | assumption) ?_
  refine G_iconst (pc := 8) (v := 1) M dX1_leastOfPart_8 (by decide +kernel) ?_
  refine G_isub (pc := 9) M dX1_leastOfPart_9 ?_
  refine G_istore_n (pc := 10) M dX1_leastOfPart_10 (Nat.le_of_ble_eq_true rfl) ?_
  have := lp_loop M hr (ad := ad) (tm := tm) (t := t) hn ha hK n (Nat.le_refl n) _ (by rw [Nat.sub_self]; exact UFP.init)
  rw [Nat.sub_self, Nat.zero_add] at this
  exact this
/-- the places behind p move down -/
def drpF {α : Type} (f : Nat → α) (p n : Nat) : Nat → α := fun j => if p ≤ j ∧ j + 1 < n then f (j + 1) else f j
theorem drp_step {f : Nat → Int32} {p i : Nat} (hp : p < i) : upd (drpF f p i) (i - 1) (f i) = drpF f p (i + 1) := by
  funext j
  simp only [upd, drpF]
  by_cases h : j = i - 1
  · rw [if_pos h, if_pos (by omega)]
    congr 1
    omega
  · rw [if_neg h]
    by_cases h2 : p ≤ j ∧ j + 1 < i
    · rw [if_pos h2, if_pos (by omega)]
    · rw [if_neg h2, if_neg (by omega)]
theorem drp_at {f : Nat → Int32} {p i : Nat} : drpF f p i i = f i := by simp only [drpF]; rw [if_neg (by omega)]
theorem drop_loop {D : DD} {X : MX} {A : Nat → Prop} (M : CX D X A mi_X1_drop.1.cls mi_X1_drop.2.1 mi_X1_drop.2.2.1 (miR mi_X1_drop)) (hr : RT X mi_X1_drop.2.2.2.1) {ad : Nat → Nat} {n p : Nat} {tm ky ld : Nat → Int32} (hn : n ≤ 64) (hp : p < n) : ∀ m i : Nat, p < i → i ≤ n → n - i < m →
    G D X A 0 0 (GQ D X A ad 4 (fun v c => v = none ∧ c = foW D ad (n - 1) (drpF tm p n) (drpF ky p n) ld)) ad 4 [some (.ref (ad 0)), some (.int (nI p)), some (.int (nI i))] [] (foW D ad n (drpF tm p i) (drpF ky p i) ld) := by
  intro m
  induction m with
  | zero => intro i _ _ h; omega
  | succ m ih =>
    intro i hi1 hi2 hm
    have em : nI i - 1 = nI (i - 1) := by rw [show i = i - 1 + 1 by omega, nI_pred]; rfl
    refine G_iload_n (pc := 4) M dX1_drop_4 rfl ?_
    refine G_aload_n (pc := 5) M dX1_drop_5 rfl ?_
    refine G_getf (pc := 6) M dX1_drop_6 fl_X1_21 rfl (by first | rfl | assumption) ?_
    refine G_icmp_ge (pc := 9) M 46 dX1_drop_9 (by decide) (fun h9 => ?_) (fun h9 => ?_)
    · have e : i = n := by
        have := (nI_leI (a := n) (b := i) (by omega) (by omega)).mp h9
        omega
      subst e
      refine G_aload_n (pc := 46) M dX1_drop_46 rfl ?_
      refine G_dup (pc := 47) M dX1_drop_47 rfl ?_
      refine G_getf (pc := 48) M dX1_drop_48 fl_X1_21 rfl (by first | rfl | assumption) ?_
      refine G_iconst (pc := 51) (v := 1) M dX1_drop_51 (by decide +kernel) ?_
      refine G_isub (pc := 52) M dX1_drop_52 ?_
      rw [em]
      refine G_putfi (pc := 53) M dX1_drop_53 fl_X1_21 rfl (Nat.le_of_ble_eq_true rfl) ?_
      exact G_vret M hr dX1_drop_56 rfl ⟨rfl, rfl⟩
    · have hin : i < n := Nat.lt_of_not_le (fun q => h9 (nI_le q (by omega)))
      refine G_aload_n (pc := 12) M dX1_drop_12 rfl ?_
      refine G_getf (pc := 13) M dX1_drop_13 fl_X1_9 rfl (by first | rfl | assumption) ?_
      refine G_iload_n (pc := 16) M dX1_drop_16 rfl ?_
      refine G_iconst (pc := 17) (v := 1) M dX1_drop_17 (by decide +kernel) ?_
      refine G_isub (pc := 18) M dX1_drop_18 ?_
      rw [em]
      refine G_aload_n (pc := 19) M dX1_drop_19 rfl ?_
      refine G_getf (pc := 20) M dX1_drop_20 fl_X1_9 rfl (by first | rfl | assumption) ?_
      refine G_iload_n (pc := 23) M dX1_drop_23 rfl ?_
      refine G_iaload (pc := 24) M dX1_drop_24 rfl (by first | assumption | exact vp_in_nI (by omega) (by omega)) ?_
      rw [cl_nI (by omega), drp_at]
      refine G_iastore (pc := 25) M dX1_drop_25 rfl (by first | assumption | exact vp_in_nI (by omega) (by omega)) ?_
      rw [cl_nI (by omega), drp_step hi1]
      refine G_aload_n (pc := 26) M dX1_drop_26 rfl ?_
      refine G_getf (pc := 27) M dX1_drop_27 fl_X1_15 rfl (by first | rfl | assumption) ?_
      refine G_iload_n (pc := 30) M dX1_drop_30 rfl ?_
      refine G_iconst (pc := 31) (v := 1) M dX1_drop_31 (by decide +kernel) ?_
      refine G_isub (pc := 32) M dX1_drop_32 ?_
      rw [em]
      refine G_aload_n (pc := 33) M dX1_drop_33 rfl ?_
      refine G_getf (pc := 34) M dX1_drop_34 fl_X1_15 rfl (by first | rfl | assumption) ?_
      refine G_iload_n (pc := 37) M dX1_drop_37 rfl ?_
      refine G_iaload (pc := 38) M dX1_drop_38 rfl (by first | assumption | exact vp_in_nI (by omega) (by omega)) ?_
      rw [cl_nI (by omega), drp_at]
      refine G_iastore (pc := 39) M dX1_drop_39 rfl (by first | assumption | exact vp_in_nI (by omega) (by omega)) ?_
      rw [cl_nI (by omega), drp_step hi1]
      refine G_iinc (pc := 40) (v := 1) M dX1_drop_40 rfl (by decide +kernel) (Nat.le_of_ble_eq_true rfl) ?_
      refine G_goto (pc := 43) M 4 dX1_drop_43 (by decide) ?_
      rw [nI_1]
      exact ih (i + 1) (by omega) (by omega) (by omega)
theorem c_drop (D : DD) (l : Launch) (ad : Nat → Nat) (n p : Nat) (tm ky ld : Nat → Int32) (hn : n ≤ 64) (hp : p < n) : Ct D l mi_X1_drop [.ref (ad 0), .int (nI p)] ad (foW D ad n tm ky ld) (fun v c => v = none ∧ c = foW D ad (n - 1) (drpF tm p n) (drpF ky p n) ld) := by
  refine Ct.of (by decide +kernel) (Nat.le_of_ble_eq_true rfl) (fun X A hX M hr => ?_)
  subst hX
  refine G_iload_n (pc := 0) M dX1_drop_0 rfl ?_
  refine G_iconst (pc := 1) (v := 1) M dX1_drop_1 (by decide +kernel) ?_
  refine G_iadd (pc := 2) M dX1_drop_2 ?_
  rw [nI_1]
  refine G_istore_n (pc := 3) M dX1_drop_3 (Nat.le_of_ble_eq_true rfl) ?_
  have := drop_loop M hr (ad := ad) (tm := tm) (ky := ky) (ld := ld) hn hp 65 (p + 1) (by omega) (by omega) (by omega)
  rw [show drpF tm p (p + 1) = tm by (funext j; simp only [drpF]; rw [if_neg (by omega)]), show drpF ky p (p + 1) = ky by (funext j; simp only [drpF]; rw [if_neg (by omega)])] at this
  exact this
theorem obt_lt (fu fv : Nat → Nat) (n a b : Nat) : ∀ r p, obt fu fv n a b r = some p → p < r
  | 0, p, h => by simp [obt] at h
  | r + 1, p, h => by
    rw [obt] at h
    split at h
    · cases h; omega
    · have := obt_lt fu fv n a b r p h
      omega
/-- a forest's array when an arc of x, y comes: the one at place o goes, the new one is the last -/
def facF {α : Type} (f : Nat → α) (n : Nat) (o : Option Nat) (x : α) : Nat → α := match o with
  | none => fun j => if j = n then x else f j
  | some p => fun j => if j = n - 1 then x else drpF f p n j
def facN (n : Nat) (o : Option Nat) : Nat := match o with
  | none => n + 1
  | some _ => n
theorem c_fAccept (D : DD) (l : Launch) (ad : Nat → Nat) (n x y : Nat) (tm ky ld : Nat → Int32) (t : Int32) (fu fv : Nat → Nat) (hn : n < 64) (hx : x < 64) (hy : y < 64) (hK : fArc n ky fu fv) : Ct D l mi_X1_accept [.ref (ad 0), .int (nI x), .int (nI y), .int t] ad (foW D ad n tm ky ld) (fun v c => v = none ∧ ∃ ld2, c = foW D ad (facN n (obt fu fv n x y n)) (facF tm n (obt fu fv n x y n) t) (facF ky n (obt fu fv n x y n) (nI (64 * x + y))) ld2) := by
  have hl := obt_lt fu fv n x y n
  refine Ct.of (by decide +kernel) (Nat.le_of_ble_eq_true rfl) (fun X A hX M hr => ?_)
  subst hX
  have fin : ∀ (n1 : Nat) (tm1 ky1 ld1 : Nat → Int32) (z : Option Value), n1 < 64 → G D X A 0 0 (GQ D X A ad 4 (fun v c => v = none ∧ ∃ ld2, c = foW D ad (n1 + 1) (upd tm1 n1 t) (upd ky1 n1 (nI (64 * x + y))) ld2)) ad 21 [some (.ref (ad 0)), some (.int (nI x)), some (.int (nI y)), some (.int t), z] [] (foW D ad n1 tm1 ky1 ld1) := by
    intro n1 tm1 ky1 ld1 z h1
    refine G_aload_n (pc := 21) M dX1_accept_21 rfl ?_
    refine G_getf (pc := 22) M dX1_accept_22 fl_X1_21 rfl (by first | rfl | assumption) ?_
    refine G_bipush (pc := 25) (v := 64) M dX1_accept_25 (by decide +kernel) ?_
    refine G_icmp_ge (pc := 27) M 64 dX1_accept_27 (by decide) (fun h27 => ?_) (fun h27 => ?_)
    · exact absurd ((nI_leI (a := 64) (b := n1) (by omega) (by omega)).mp h27) (by omega)
    · refine G_aload_n (pc := 30) M dX1_accept_30 rfl ?_
      refine G_getf (pc := 31) M dX1_accept_31 fl_X1_9 rfl (by first | rfl | assumption) ?_
      refine G_aload_n (pc := 34) M dX1_accept_34 rfl ?_
      refine G_getf (pc := 35) M dX1_accept_35 fl_X1_21 rfl (by first | rfl | assumption) ?_
      refine G_iload_n (pc := 38) M dX1_accept_38 rfl ?_
      refine G_iastore (pc := 39) M dX1_accept_39 rfl (by first | assumption | exact vp_in_nI (by omega) (by omega)) ?_
      rw [cl_nI (by omega)]
      refine G_aload_n (pc := 40) M dX1_accept_40 rfl ?_
      refine G_getf (pc := 41) M dX1_accept_41 fl_X1_15 rfl (by first | rfl | assumption) ?_
      refine G_aload_n (pc := 44) M dX1_accept_44 rfl ?_
      refine G_getf (pc := 45) M dX1_accept_45 fl_X1_21 rfl (by first | rfl | assumption) ?_
      refine G_iload_n (pc := 48) M dX1_accept_48 rfl ?_
      refine G_iload_n (pc := 49) M dX1_accept_49 rfl ?_
      refine G_calln (pc := 50) M [] dX1_accept_50 mn_X1_33 (c_keyOf D _ (fun j => ad (pn [] j)) (nI x) (nI y)) trivial rfl rfl rfl rfl (Nat.le_of_ble_eq_true rfl) (Nat.le_of_ble_eq_true rfl) (Nat.le_of_ble_eq_true rfl) ⟨Nat.zero_le _, Nat.zero_le _⟩ (fun v c1 hq hlen => ?_)
      obtain ⟨rfl, rfl⟩ := hq
      rw [ixA]
      refine G_iastore (pc := 53) M dX1_accept_53 rfl (by first | assumption | exact vp_in_nI (by omega) (by omega)) ?_
      rw [cl_nI (by omega)]
      refine G_aload_n (pc := 54) M dX1_accept_54 rfl ?_
      refine G_dup (pc := 55) M dX1_accept_55 rfl ?_
      refine G_getf (pc := 56) M dX1_accept_56 fl_X1_21 rfl (by first | rfl | assumption) ?_
      refine G_iconst (pc := 59) (v := 1) M dX1_accept_59 (by decide +kernel) ?_
      refine G_iadd (pc := 60) M dX1_accept_60 ?_
      rw [nI_1]
      refine G_putfi (pc := 61) M dX1_accept_61 fl_X1_21 rfl (Nat.le_of_ble_eq_true rfl) ?_
      exact G_vret M hr dX1_accept_64 rfl ⟨rfl, _, rfl⟩
  cases hO : obt fu fv n x y n with
  | none =>
    refine G_aload_n (pc := 0) M dX1_accept_0 rfl ?_
    refine G_iload_n (pc := 1) M dX1_accept_1 rfl ?_
    refine G_iload_n (pc := 2) M dX1_accept_2 rfl ?_
    refine G_callv (pc := 3) M [0, 1, 2, 3] dX1_accept_3 mv_X1_25 (c_oldest D _ (fun j => ad (pn [0, 1, 2, 3] j)) n x y tm ky ld fu fv (by omega) hx hy hK) rfl ⟨rfl, rfl, rfl, rfl, trivial⟩ rfl rfl rfl rfl (Nat.le_of_ble_eq_true rfl) (Nat.le_of_ble_eq_true rfl) (Nat.le_of_ble_eq_true rfl) ⟨Nat.zero_le _, Nat.zero_le _⟩ (fun v c1 hq hlen => ?_)
    obtain ⟨rfl, ld2, rfl⟩ := hq
    refine G_istore (pc := 6) M dX1_accept_6 (Nat.le_of_ble_eq_true rfl) ?_
    rw [hO]
    refine G_iload (pc := 8) M dX1_accept_8 rfl ?_
    refine G_bipush (pc := 10) (v := -2) M dX1_accept_10 (by decide +kernel) ?_
    refine G_icmp_eq (pc := 12) M 21 dX1_accept_12 (by decide) (fun h12 => ?_) (fun h12 => ?_)
    · exact fin n tm ky ld2 _ hn
    · exact absurd rfl h12
  | some p =>
    have hp := hl p hO
    refine G_aload_n (pc := 0) M dX1_accept_0 rfl ?_
    refine G_iload_n (pc := 1) M dX1_accept_1 rfl ?_
    refine G_iload_n (pc := 2) M dX1_accept_2 rfl ?_
    refine G_callv (pc := 3) M [0, 1, 2, 3] dX1_accept_3 mv_X1_25 (c_oldest D _ (fun j => ad (pn [0, 1, 2, 3] j)) n x y tm ky ld fu fv (by omega) hx hy hK) rfl ⟨rfl, rfl, rfl, rfl, trivial⟩ rfl rfl rfl rfl (Nat.le_of_ble_eq_true rfl) (Nat.le_of_ble_eq_true rfl) (Nat.le_of_ble_eq_true rfl) ⟨Nat.zero_le _, Nat.zero_le _⟩ (fun v c1 hq hlen => ?_)
    obtain ⟨rfl, ld2, rfl⟩ := hq
    rw [hO]
    refine G_istore (pc := 6) M dX1_accept_6 (Nat.le_of_ble_eq_true rfl) ?_
    refine G_iload (pc := 8) M dX1_accept_8 rfl ?_
    refine G_bipush (pc := 10) (v := -2) M dX1_accept_10 (by decide +kernel) ?_
    refine G_icmp_eq (pc := 12) M 21 dX1_accept_12 (by decide) (fun h12 => ?_) (fun h12 => ?_)
    · exact absurd h12 (fun w => absurd (show ¬ nI p < 0 from nI_pos (by omega)) (by rw [show nI p = -2 from w]; decide))
    · refine G_aload_n (pc := 15) M dX1_accept_15 rfl ?_
      refine G_iload (pc := 16) M dX1_accept_16 rfl ?_
      refine G_callv (pc := 18) M [0, 1, 2, 3] dX1_accept_18 mv_X1_29 (c_drop D _ (fun j => ad (pn [0, 1, 2, 3] j)) n p tm ky ld2 (by omega) hp) rfl ⟨rfl, rfl, rfl, rfl, trivial⟩ rfl rfl rfl rfl (Nat.le_of_ble_eq_true rfl) (Nat.le_of_ble_eq_true rfl) (Nat.le_of_ble_eq_true rfl) ⟨Nat.zero_le _, Nat.zero_le _⟩ (fun v c1 hq hlen => ?_)
      obtain ⟨rfl, rfl⟩ := hq
      have := fin (n - 1) (drpF tm p n) (drpF ky p n) ld2 (some (.int (nI p))) (by omega)
      rw [show n - 1 + 1 = n by omega] at this
      exact this
