/-! Forest: leaders -/
abbrev foO (ad : Nat → Nat) (n : Nat) : va_E := ob 1 [.ref (ad 1), .ref (ad 2), .ref (ad 3), .int (nI n)]
abbrev foW (D : DD) (ad : Nat → Nat) (n : Nat) (tm ky ld : Nat → Int32) : List va_E := [foO ad n, ia D 64 tm, ia D 64 ky, ia D 64 ld]
/-- the leaders' chains lead to the labels L -/
def UFP (ld : Nat → Int32) (L : Nat → Nat) : Prop := ∀ a, a < 64 → ∃ q, q ≤ a ∧ ld a = nI q ∧ (q = a → L a = a) ∧ (q ≠ a → L a = L q)
theorem UFP.le {ld : Nat → Int32} {L : Nat → Nat} (h : UFP ld L) : ∀ n a, a < n → a < 64 → L a ≤ a ∧ ld (L a) = nI (L a) ∧ L (L a) = L a := by
  intro n
  induction n with
  | zero => intro a h1; omega
  | succ n ih =>
    intro a h1 h2
    obtain ⟨q, hq, e, c1, c2⟩ := h a h2
    by_cases hqa : q = a
    · have := c1 hqa
      subst hqa
      rw [this]
      exact ⟨Nat.le_refl _, e, this⟩
    · rw [c2 hqa]
      obtain ⟨i1, i2, i3⟩ := ih q (by omega) (by omega)
      exact ⟨by omega, i2, i3⟩
theorem UFP.init : UFP (fun a => nI a) (fun a => a) := fun a _ => ⟨a, Nat.le_refl a, rfl, fun _ => rfl, fun h => absurd rfl h⟩
theorem UFP.join {ld : Nat → Int32} {L : Nat → Nat} (h : UFP ld L) {p q : Nat} (hp : p < 64) (hq : q < 64) : UFP (upd ld (max (L p) (L q)) (nI (min (L p) (L q)))) (unN L (L p) (L q)) := by
  obtain ⟨p1, p2, p3⟩ := h.le 64 p hp hp
  obtain ⟨q1, q2, q3⟩ := h.le 64 q hq hq
  intro a ha
  by_cases e : a = max (L p) (L q)
  · have hL : L a = a := by
      rcases Nat.le_total (L p) (L q) with z | z
      · rw [e, Nat.max_eq_right z]; exact q3
      · rw [e, Nat.max_eq_left z]; exact p3
    refine ⟨min (L p) (L q), by omega, by rw [e]; simp [upd], fun z => ?_, fun z => ?_⟩
    · simp only [unN]
      rw [if_pos (by omega)]
      exact z
    · simp only [unN]
      rw [if_pos (by omega), if_pos]
      rcases Nat.le_total (L p) (L q) with z | z
      · rw [Nat.min_eq_left z]; exact Or.inl p3
      · rw [Nat.min_eq_right z]; exact Or.inr q3
  · obtain ⟨r, r1, r2, r3, r4⟩ := h a ha
    refine ⟨r, r1, by simp only [upd]; rw [if_neg e]; exact r2, fun z => ?_, fun z => ?_⟩
    · have := r3 z
      simp only [unN, this]
      split
      · omega
      · rfl
    · simp only [unN, r4 z]
theorem c_partAll_loop {D : DD} {X : MX} {A : Nat → Prop} (M : CX D X A mi_X1_partAll.1.cls mi_X1_partAll.2.1 mi_X1_partAll.2.2.1 (miR mi_X1_partAll)) (hr : RT X mi_X1_partAll.2.2.2.1) {ad : Nat → Nat} {fs : List Value} {ld : Nat → Int32} (hf2 : gt fs 2 = some (.ref (ad 1))) : ∀ m k : Nat, k ≤ 64 → 64 - k < m →
    G D X A 0 0 (GQ D X A ad 2 (fun v c => v = none ∧ c = [ob 1 fs, ia D 64 (fun a => nI a)])) ad 2 [some (.ref (ad 0)), some (.int (nI k))] [] [ob 1 fs, ia D 64 (fun j => if j < k then nI j else ld j)] := by
  intro m
  induction m with
  | zero => intro k _ h; omega
  | succ m ih =>
    intro k hk hm
    refine G_iload_n (pc := 2) M dX1_partAll_2 rfl ?_
    refine G_bipush (pc := 3) (v := 64) M dX1_partAll_3 (by decide +kernel) ?_
    refine G_icmp_ge (pc := 5) M 21 dX1_partAll_5 (by decide) (fun h5 => ?_) (fun h5 => ?_)
    · have hk64 : k = 64 := by
        have := (nI_leI (a := 64) (b := k) (by omega) (by omega)).mp h5
        omega
      subst hk64
      refine G_normI 1 (fun a => nI a) rfl (fun j hj => if_pos hj) ?_
      exact G_vret M hr dX1_partAll_21 rfl ⟨rfl, rfl⟩
    · have hk64 : k < 64 := Nat.lt_of_not_le (fun q => h5 (nI_le q (by omega)))
      refine G_aload_n (pc := 8) M dX1_partAll_8 rfl ?_
      refine G_getf (pc := 9) M dX1_partAll_9 fl_X1_18 rfl (by first | rfl | assumption) ?_
      refine G_iload_n (pc := 12) M dX1_partAll_12 rfl ?_
      refine G_iload_n (pc := 13) M dX1_partAll_13 rfl ?_
      refine G_iastore (pc := 14) M dX1_partAll_14 rfl (by first | assumption | exact vp_in_nI (by omega) (by omega)) ?_
      rw [cl_nI (by omega)]
      refine G_iinc (pc := 15) (v := 1) M dX1_partAll_15 rfl (by decide +kernel) (Nat.le_of_ble_eq_true rfl) ?_
      refine G_goto (pc := 18) M 2 dX1_partAll_18 (by decide) ?_
      have := ih (k + 1) (by omega) (by omega)
      have e : upd (fun j => if j < k then nI j else ld j) k (nI k) = (fun j => if j < k + 1 then nI j else ld j) := by
        funext j
        simp only [upd]
        by_cases h : j = k
        · subst h; simp
        · rw [if_neg h]
          by_cases h2 : j < k
          · rw [if_pos h2, if_pos (by omega)]
          · rw [if_neg h2, if_neg (by omega)]
      rw [← e, ← nI_1 k] at this
      exact this
theorem c_partAll (D : DD) (l : Launch) (ad : Nat → Nat) (fs : List Value) (ld : Nat → Int32) (hf2 : gt fs 2 = some (.ref (ad 1))) : Ct D l mi_X1_partAll [.ref (ad 0)] ad [ob 1 fs, ia D 64 ld] (fun v c => v = none ∧ c = [ob 1 fs, ia D 64 (fun a => nI a)]) := by
  refine Ct.of (by decide +kernel) (Nat.le_of_ble_eq_true rfl) (fun X A hX M hr => ?_)
  subst hX
  refine G_iconst (pc := 0) (v := 0) M dX1_partAll_0 (by decide +kernel) ?_
  refine G_istore_n (pc := 1) M dX1_partAll_1 (Nat.le_of_ble_eq_true rfl) ?_
  have := c_partAll_loop M hr (ad := ad) (ld := ld) hf2 65 0 (by omega) (by omega)
  simp only [Nat.not_lt_zero, if_false] at this
  exact this
theorem leader_loop {D : DD} {X : MX} {A : Nat → Prop} (M : CX D X A mi_X1_leaderOf.1.cls mi_X1_leaderOf.2.1 mi_X1_leaderOf.2.2.1 (miR mi_X1_leaderOf)) (hr : RT X mi_X1_leaderOf.2.2.2.1) {ad : Nat → Nat} {fs : List Value} {ld : Nat → Int32} {L : Nat → Nat} {z : Int32} (hU : UFP ld L) (hf2 : gt fs 2 = some (.ref (ad 1))) : ∀ m a k : Nat, a < m → a + k ≤ 63 →
    G D X A 0 0 (GQ D X A ad 2 (fun v c => v = some (.int (nI (L a))) ∧ c = [ob 1 fs, ia D 64 ld])) ad 4 [some (.ref (ad 0)), some (.int z), some (.int (nI a)), some (.int (nI k))] [] [ob 1 fs, ia D 64 ld] := by
  intro m
  induction m with
  | zero => intro a k h; omega
  | succ m ih =>
    intro a k ha hak
    obtain ⟨q, q1, q2, q3, q4⟩ := hU a (by omega)
    refine G_iload_n (pc := 4) M dX1_leaderOf_4 rfl ?_
    refine G_bipush (pc := 5) (v := 64) M dX1_leaderOf_5 (by decide +kernel) ?_
    refine G_icmp_ge (pc := 7) M 33 dX1_leaderOf_7 (by decide) (fun h7 => ?_) (fun h7 => ?_)
    · exact absurd ((nI_leI (a := 64) (b := k) (by omega) (by omega)).mp h7) (by omega)
    · refine G_aload_n (pc := 10) M dX1_leaderOf_10 rfl ?_
      refine G_getf (pc := 11) M dX1_leaderOf_11 fl_X1_18 rfl (by first | rfl | assumption) ?_
      refine G_iload_n (pc := 14) M dX1_leaderOf_14 rfl ?_
      refine G_iaload (pc := 15) M dX1_leaderOf_15 rfl (by first | assumption | exact vp_in_nI (by omega) (by omega)) ?_
      rw [cl_nI (by omega), q2]
      refine G_iload_n (pc := 16) M dX1_leaderOf_16 rfl ?_
      refine G_icmp_eq (pc := 17) M 33 dX1_leaderOf_17 (by decide) (fun h17 => ?_) (fun h17 => ?_)
      · have e : q = a := (nI_eq (by omega) (by omega)).mp h17
        have eL := q3 e
        refine G_iload_n (pc := 33) M dX1_leaderOf_33 rfl ?_
        exact G_iret M hr dX1_leaderOf_34 rfl ⟨by rw [eL], rfl⟩
      · have e : ¬ q = a := fun w => h17 (by rw [w])
        have eL := q4 e
        refine G_aload_n (pc := 20) M dX1_leaderOf_20 rfl ?_
        refine G_getf (pc := 21) M dX1_leaderOf_21 fl_X1_18 rfl (by first | rfl | assumption) ?_
        refine G_iload_n (pc := 24) M dX1_leaderOf_24 rfl ?_
        refine G_iaload (pc := 25) M dX1_leaderOf_25 rfl (by first | assumption | exact vp_in_nI (by omega) (by omega)) ?_
        rw [cl_nI (by omega), q2]
        refine G_istore_n (pc := 26) M dX1_leaderOf_26 (Nat.le_of_ble_eq_true rfl) ?_
        refine G_iinc (pc := 27) (v := 1) M dX1_leaderOf_27 rfl (by decide +kernel) (Nat.le_of_ble_eq_true rfl) ?_
        refine G_goto (pc := 30) M 4 dX1_leaderOf_30 (by decide) ?_
        rw [eL, nI_1]
        exact ih q (k + 1) (by omega) (by omega)
theorem c_leaderOf (D : DD) (l : Launch) (ad : Nat → Nat) (fs : List Value) (ld : Nat → Int32) (L : Nat → Nat) (a : Nat) (ha : a < 64) (hU : UFP ld L) (hf2 : gt fs 2 = some (.ref (ad 1))) : Ct D l mi_X1_leaderOf [.ref (ad 0), .int (nI a)] ad [ob 1 fs, ia D 64 ld] (fun v c => v = some (.int (nI (L a))) ∧ c = [ob 1 fs, ia D 64 ld]) := by
  refine Ct.of (by decide +kernel) (Nat.le_of_ble_eq_true rfl) (fun X A hX M hr => ?_)
  subst hX
  refine G_iload_n (pc := 0) M dX1_leaderOf_0 rfl ?_
  refine G_istore_n (pc := 1) M dX1_leaderOf_1 (Nat.le_of_ble_eq_true rfl) ?_
  refine G_iconst (pc := 2) (v := 0) M dX1_leaderOf_2 (by decide +kernel) ?_
  refine G_istore_n (pc := 3) M dX1_leaderOf_3 (Nat.le_of_ble_eq_true rfl) ?_
  exact leader_loop M hr hU hf2 64 a 0 (by omega) (by omega)
theorem mx_nI {x y : Nat} (hx : x < 2 ^ 31) (hy : y < 2 ^ 31) : (if nI x < nI y then nI y else nI x) = nI (max x y) := by
  by_cases h : x < y
  · rw [if_pos (nI_lt h hy), Nat.max_eq_right (by omega)]
  · rw [if_neg (fun w => h ((nI_ltI hx hy).mp w)), Nat.max_eq_left (by omega)]
theorem mn_nI {x y : Nat} (hx : x < 2 ^ 31) (hy : y < 2 ^ 31) : (if nI y < nI x then nI y else nI x) = nI (min x y) := by
  by_cases h : y < x
  · rw [if_pos (nI_lt h hx), Nat.min_eq_right (by omega)]
  · rw [if_neg (fun w => h ((nI_ltI hy hx).mp w)), Nat.min_eq_left (by omega)]
theorem key_div {x y : Nat} (hx : x < 64) (hy : y < 64) : nI (64 * x + y) / 64 = nI x := by
  rw [n64, pk_div (by omega) (by omega) (by omega)]
  congr 1
  omega
theorem key_rem {x y : Nat} (hx : x < 64) (hy : y < 64) : nI (64 * x + y) - nI (64 * x + y) / 64 * 64 = nI y := by
  rw [n64, pk_rem (by omega) (by omega) (by omega)]
  congr 1
  omega
theorem c_joinByArc (D : DD) (l : Launch) (ad : Nat → Nat) (n i x y : Nat) (tm ky ld : Nat → Int32) (L : Nat → Nat) (hi : i < 64) (hk : ky i = nI (64 * x + y)) (hx : x < 64) (hy : y < 64) (hU : UFP ld L) : Ct D l mi_X1_joinByArc [.ref (ad 0), .int (nI i)] ad (foW D ad n tm ky ld) (fun v c => v = none ∧ ∃ ld2, UFP ld2 (unN L (L x) (L y)) ∧ c = foW D ad n tm ky ld2) := by
  obtain ⟨p1, p2, p3⟩ := hU.le 64 x hx hx
  obtain ⟨q1, q2, q3⟩ := hU.le 64 y hy hy
  refine Ct.of (by decide +kernel) (Nat.le_of_ble_eq_true rfl) (fun X A hX M hr => ?_)
  subst hX
  refine G_aload_n (pc := 0) M dX1_joinByArc_0 rfl ?_
  refine G_aload_n (pc := 1) M dX1_joinByArc_1 rfl ?_
  refine G_getf (pc := 2) M dX1_joinByArc_2 fl_X1_15 rfl (by first | rfl | assumption) ?_
  refine G_iload_n (pc := 5) M dX1_joinByArc_5 rfl ?_
  refine G_iaload (pc := 6) M dX1_joinByArc_6 rfl (by first | assumption | exact vp_in_nI (by omega) (by omega)) ?_
  rw [cl_nI (by omega), hk]
  refine G_calln (pc := 7) M [] dX1_joinByArc_7 mn_X1_46 (c_lesserNode D _ (fun j => ad (pn [] j)) (nI (64 * x + y))) trivial rfl rfl rfl rfl (Nat.le_of_ble_eq_true rfl) (Nat.le_of_ble_eq_true rfl) (Nat.le_of_ble_eq_true rfl) ⟨Nat.zero_le _, Nat.zero_le _⟩ (fun v c1 hq hlen => ?_)
  obtain ⟨rfl, rfl⟩ := hq
  rw [key_div hx hy]
  refine G_callv (pc := 10) M [0, 3] dX1_joinByArc_10 mv_X1_42 (c_leaderOf D _ (fun j => ad (pn [0, 3] j)) _ ld L x hx hU rfl) rfl ⟨rfl, rfl, trivial⟩ rfl rfl rfl rfl (Nat.le_of_ble_eq_true rfl) (Nat.le_of_ble_eq_true rfl) (Nat.le_of_ble_eq_true rfl) ⟨Nat.zero_le _, Nat.zero_le _⟩ (fun v c1 hq hlen => ?_)
  obtain ⟨rfl, rfl⟩ := hq
  refine G_istore_n (pc := 13) M dX1_joinByArc_13 (Nat.le_of_ble_eq_true rfl) ?_
  refine G_aload_n (pc := 14) M dX1_joinByArc_14 rfl ?_
  refine G_aload_n (pc := 15) M dX1_joinByArc_15 rfl ?_
  refine G_getf (pc := 16) M dX1_joinByArc_16 fl_X1_15 rfl (by first | rfl | assumption) ?_
  refine G_iload_n (pc := 19) M dX1_joinByArc_19 rfl ?_
  refine G_iaload (pc := 20) M dX1_joinByArc_20 rfl (by first | assumption | exact vp_in_nI (by omega) (by omega)) ?_
  rw [cl_nI (by omega), hk]
  refine G_calln (pc := 21) M [] dX1_joinByArc_21 mn_X1_49 (c_greaterNode D _ (fun j => ad (pn [] j)) (nI (64 * x + y))) trivial rfl rfl rfl rfl (Nat.le_of_ble_eq_true rfl) (Nat.le_of_ble_eq_true rfl) (Nat.le_of_ble_eq_true rfl) ⟨Nat.zero_le _, Nat.zero_le _⟩ (fun v c1 hq hlen => ?_)
  obtain ⟨rfl, rfl⟩ := hq
  rw [key_rem hx hy]
  refine G_callv (pc := 24) M [0, 3] dX1_joinByArc_24 mv_X1_42 (c_leaderOf D _ (fun j => ad (pn [0, 3] j)) _ ld L y hy hU rfl) rfl ⟨rfl, rfl, trivial⟩ rfl rfl rfl rfl (Nat.le_of_ble_eq_true rfl) (Nat.le_of_ble_eq_true rfl) (Nat.le_of_ble_eq_true rfl) ⟨Nat.zero_le _, Nat.zero_le _⟩ (fun v c1 hq hlen => ?_)
  obtain ⟨rfl, rfl⟩ := hq
  refine G_istore_n (pc := 27) M dX1_joinByArc_27 (Nat.le_of_ble_eq_true rfl) ?_
  refine G_aload_n (pc := 28) M dX1_joinByArc_28 rfl ?_
  refine G_getf (pc := 29) M dX1_joinByArc_29 fl_X1_18 rfl (by first | rfl | assumption) ?_
  refine G_iload_n (pc := 32) M dX1_joinByArc_32 rfl ?_
  refine G_iload_n (pc := 33) M dX1_joinByArc_33 rfl ?_
  refine G_mmax (pc := 34) M dX1_joinByArc_34 mm_X1_52 rfl (Nat.le_of_ble_eq_true rfl) (Nat.le_of_ble_eq_true rfl) (Nat.zero_le _) (Nat.zero_le _) ?_
  rw [mx_nI (by omega) (by omega)]
  refine G_iload_n (pc := 37) M dX1_joinByArc_37 rfl ?_
  refine G_iload_n (pc := 38) M dX1_joinByArc_38 rfl ?_
  refine G_mmin (pc := 39) M dX1_joinByArc_39 mm_X1_57 rfl (Nat.le_of_ble_eq_true rfl) (Nat.le_of_ble_eq_true rfl) (Nat.zero_le _) (Nat.zero_le _) ?_
  rw [mn_nI (by omega) (by omega)]
  refine G_iastore (pc := 42) M dX1_joinByArc_42 rfl (by first | assumption | exact vp_in_nI (by omega) (by omega)) ?_
  rw [cl_nI (by omega)]
  exact G_vret M hr dX1_joinByArc_43 rfl ⟨rfl, _, hU.join hx hy, rfl⟩
