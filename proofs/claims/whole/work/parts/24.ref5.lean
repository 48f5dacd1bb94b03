/-! the reference: ranked, unite, ofSet, leads -/
def ahdB (f : Nat → Int32) (a b : Nat) : Bool := decide (f a < f b) || (decide (f b = f a) && decide (b < a))
def ahd (f : Nat → Int32) (a : Nat) : Nat → Nat
  | 0 => 0
  | k + 1 => ahd f a k + (bif ahdB f a k then 1 else 0)
theorem ahd_le (f : Nat → Int32) (a : Nat) : ∀ k, ahd f a k ≤ k
  | 0 => Nat.le_refl 0
  | k + 1 => by
    have := ahd_le f a k
    simp only [ahd]
    cases ahdB f a k <;> simp <;> omega
def rnk (f : Nat → Int32) (p : Nat) : Nat → Nat
  | 0 => 0
  | m + 1 => if ahd f (64 - (m + 1)) 64 = p then 64 - (m + 1) else rnk f p m
theorem rnk_in {D : DD} {X : MX} {A : Nat → Prop} (M : CX D X A mi_X7_ranked.1.cls mi_X7_ranked.2.1 mi_X7_ranked.2.2.1 (miR mi_X7_ranked)) {Q : State → Prop} {ad : Nat → Nat} {fs : List Value} {ct : Nat → Int32} {s a p : Nat} (hs : s < 3) (ha : a < 64) (hf8 : gt fs 8 = some (.ref (ad 1)))
    (kk : ∀ z1 z2 z3 : Option Value, G D X A 0 0 Q ad 84 [some (.ref (ad 0)), some (.int (nI s)), some (.int (nI p)), some (.int (nI a)), some (.int (nI (ahd (fun a => ct (64 * s + a)) a 64))), z1, z2, z3] [] [ob 7 fs, ia D 192 ct]) : ∀ m k : Nat, k ≤ 64 → 64 - k < m → ∀ z2 z3 : Option Value,
    G D X A 0 0 Q ad 14 [some (.ref (ad 0)), some (.int (nI s)), some (.int (nI p)), some (.int (nI a)), some (.int (nI (ahd (fun a => ct (64 * s + a)) a k))), some (.int (nI k)), z2, z3] [] [ob 7 fs, ia D 192 ct] := by
  intro m
  induction m with
  | zero => intro k _ h; omega
  | succ m ih =>
    intro k hk hm z2 z3
    refine G_iload (pc := 14) M dX7_ranked_14 rfl ?_
    refine G_bipush (pc := 16) (v := 64) M dX7_ranked_16 (by decide +kernel) ?_
    refine G_icmp_ge (pc := 18) M 84 dX7_ranked_18 (by decide) (fun h18 => ?_) (fun h18 => ?_)
    · have hk64 : k = 64 := by
        have := (nI_leI (a := 64) (b := k) (by omega) (by omega)).mp h18
        omega
      subst hk64
      exact kk _ _ _
    · have hk64 : k < 64 := Nat.lt_of_not_le (fun q => h18 (nI_le q (by omega)))
      refine G_aload_n (pc := 21) M dX7_ranked_21 rfl ?_
      refine G_getf (pc := 22) M dX7_ranked_22 fl_X7_35 rfl (by first | rfl | assumption) ?_
      refine G_bipush (pc := 25) (v := 64) M dX7_ranked_25 (by decide +kernel) ?_
      refine G_iload_n (pc := 27) M dX7_ranked_27 rfl ?_
      refine G_imul (pc := 28) M dX7_ranked_28 ?_
      refine G_iload_n (pc := 29) M dX7_ranked_29 rfl ?_
      refine G_iadd (pc := 30) M dX7_ranked_30 ?_
      rw [ixA]
      refine G_iaload (pc := 31) M dX7_ranked_31 rfl (by first | assumption | exact vp_in_nI (by omega) (by omega)) ?_
      rw [cl_nI (by omega)]
      refine G_istore (pc := 32) M dX7_ranked_32 (Nat.le_of_ble_eq_true rfl) ?_
      refine G_aload_n (pc := 34) M dX7_ranked_34 rfl ?_
      refine G_getf (pc := 35) M dX7_ranked_35 fl_X7_35 rfl (by first | rfl | assumption) ?_
      refine G_bipush (pc := 38) (v := 64) M dX7_ranked_38 (by decide +kernel) ?_
      refine G_iload_n (pc := 40) M dX7_ranked_40 rfl ?_
      refine G_imul (pc := 41) M dX7_ranked_41 ?_
      refine G_iload (pc := 42) M dX7_ranked_42 rfl ?_
      refine G_iadd (pc := 44) M dX7_ranked_44 ?_
      rw [ixA]
      refine G_iaload (pc := 45) M dX7_ranked_45 rfl (by first | assumption | exact vp_in_nI (by omega) (by omega)) ?_
      rw [cl_nI (by omega)]
      refine G_istore (pc := 46) M dX7_ranked_46 (Nat.le_of_ble_eq_true rfl) ?_
      refine G_iload (pc := 48) M dX7_ranked_48 rfl ?_
      refine G_iload (pc := 50) M dX7_ranked_50 rfl ?_
      refine G_iload (pc := 52) M dX7_ranked_52 rfl ?_
      refine G_icmp_gt (pc := 54) M 70 dX7_ranked_54 (by decide) (fun h54 => ?_) (fun h54 => ?_)
      · have e : ahd (fun a => ct (64 * s + a)) a (k + 1) = ahd (fun a => ct (64 * s + a)) a k + 1 := by simp [ahd, ahdB, h54]
        refine G_iconst (pc := 70) (v := 1) M dX7_ranked_70 (by decide +kernel) ?_
        refine G_goto (pc := 71) M 75 dX7_ranked_71 (by decide) ?_
        refine G_iadd (pc := 75) M dX7_ranked_75 ?_
        refine G_istore (pc := 76) M dX7_ranked_76 (Nat.le_of_ble_eq_true rfl) ?_
        refine G_iinc (pc := 78) (v := 1) M dX7_ranked_78 rfl (by decide +kernel) (Nat.le_of_ble_eq_true rfl) ?_
        refine G_goto (pc := 81) M 14 dX7_ranked_81 (by decide) ?_
        have := ih (k + 1) (by omega) (by omega)
        rw [e, ← nI_add, ← nI_add k 1] at this
        exact this _ _
      · refine G_iload (pc := 57) M dX7_ranked_57 rfl ?_
        refine G_iload (pc := 59) M dX7_ranked_59 rfl ?_
        refine G_icmp_ne (pc := 61) M 74 dX7_ranked_61 (by decide) (fun h61 => ?_) (fun h61 => ?_)
        · have e : ahd (fun a => ct (64 * s + a)) a (k + 1) = ahd (fun a => ct (64 * s + a)) a k + 0 := by simp [ahd, ahdB, h54, h61]
          refine G_iconst (pc := 74) (v := 0) M dX7_ranked_74 (by decide +kernel) ?_
          refine G_iadd (pc := 75) M dX7_ranked_75 ?_
          refine G_istore (pc := 76) M dX7_ranked_76 (Nat.le_of_ble_eq_true rfl) ?_
          refine G_iinc (pc := 78) (v := 1) M dX7_ranked_78 rfl (by decide +kernel) (Nat.le_of_ble_eq_true rfl) ?_
          refine G_goto (pc := 81) M 14 dX7_ranked_81 (by decide) ?_
          have := ih (k + 1) (by omega) (by omega)
          rw [e, ← nI_add, ← nI_add k 1] at this
          exact this _ _
        · refine G_iload (pc := 64) M dX7_ranked_64 rfl ?_
          refine G_iload_n (pc := 66) M dX7_ranked_66 rfl ?_
          refine G_icmp_ge (pc := 67) M 74 dX7_ranked_67 (by decide) (fun h67 => ?_) (fun h67 => ?_)
          · have e67 := (nI_leI (a := a) (b := k) (by omega) (by omega)).mp h67
            have e : ahd (fun a => ct (64 * s + a)) a (k + 1) = ahd (fun a => ct (64 * s + a)) a k + 0 := by simp [ahd, ahdB, h54, Nat.not_lt.mpr e67]
            refine G_iconst (pc := 74) (v := 0) M dX7_ranked_74 (by decide +kernel) ?_
            refine G_iadd (pc := 75) M dX7_ranked_75 ?_
            refine G_istore (pc := 76) M dX7_ranked_76 (Nat.le_of_ble_eq_true rfl) ?_
            refine G_iinc (pc := 78) (v := 1) M dX7_ranked_78 rfl (by decide +kernel) (Nat.le_of_ble_eq_true rfl) ?_
            refine G_goto (pc := 81) M 14 dX7_ranked_81 (by decide) ?_
            have := ih (k + 1) (by omega) (by omega)
            rw [e, ← nI_add, ← nI_add k 1] at this
            exact this _ _
          · have e67 := Nat.lt_of_not_le (fun q => h67 (nI_le (a := a) (b := k) q (by omega)))
            have h61b : ct (64 * s + k) = ct (64 * s + a) := by simpa using h61
            have e : ahd (fun a => ct (64 * s + a)) a (k + 1) = ahd (fun a => ct (64 * s + a)) a k + 1 := by simp [ahd, ahdB, e67, h61b]
            refine G_iconst (pc := 70) (v := 1) M dX7_ranked_70 (by decide +kernel) ?_
            refine G_goto (pc := 71) M 75 dX7_ranked_71 (by decide) ?_
            refine G_iadd (pc := 75) M dX7_ranked_75 ?_
            refine G_istore (pc := 76) M dX7_ranked_76 (Nat.le_of_ble_eq_true rfl) ?_
            refine G_iinc (pc := 78) (v := 1) M dX7_ranked_78 rfl (by decide +kernel) (Nat.le_of_ble_eq_true rfl) ?_
            refine G_goto (pc := 81) M 14 dX7_ranked_81 (by decide) ?_
            have := ih (k + 1) (by omega) (by omega)
            rw [e, ← nI_add, ← nI_add k 1] at this
            exact this _ _
theorem rnk_out {D : DD} {X : MX} {A : Nat → Prop} (M : CX D X A mi_X7_ranked.1.cls mi_X7_ranked.2.1 mi_X7_ranked.2.2.1 (miR mi_X7_ranked)) (hr : RT X mi_X7_ranked.2.2.2.1) {ad : Nat → Nat} {fs : List Value} {ct : Nat → Int32} {s p : Nat} (hs : s < 3) (hp : p < 2 ^ 31) (hf8 : gt fs 8 = some (.ref (ad 1))) : ∀ m : Nat, m ≤ 64 → ∀ z1 z2 z3 z4 : Option Value,
    G D X A 0 0 (GQ D X A ad 2 (fun v c => v = some (.int (nI (rnk (fun a => ct (64 * s + a)) p m))) ∧ c = [ob 7 fs, ia D 192 ct])) ad 2 [some (.ref (ad 0)), some (.int (nI s)), some (.int (nI p)), some (.int (nI (64 - m))), z1, z2, z3, z4] [] [ob 7 fs, ia D 192 ct] := by
  intro m
  induction m with
  | zero =>
    intro _ z1 z2 z3 z4
    refine G_iload_n (pc := 2) M dX7_ranked_2 rfl ?_
    refine G_bipush (pc := 3) (v := 64) M dX7_ranked_3 (by decide +kernel) ?_
    refine G_icmp_ge (pc := 5) M 98 dX7_ranked_5 (by decide) (fun h5 => ?_) (fun h5 => ?_)
    · refine G_iconst (pc := 98) (v := 0) M dX7_ranked_98 (by decide +kernel) ?_
      exact G_iret M hr dX7_ranked_99 rfl ⟨rfl, rfl⟩
    · exact absurd (nI_le (a := 64) (b := 64 - 0) (by omega) (by omega)) h5
  | succ m ih =>
    intro hm z1 z2 z3 z4
    have hle := ahd_le (fun a => ct (64 * s + a)) (64 - (m + 1)) 64
    have kk : ∀ z1 z2 z3 : Option Value, G D X A 0 0 (GQ D X A ad 2 (fun v c => v = some (.int (nI (rnk (fun a => ct (64 * s + a)) p (m + 1)))) ∧ c = [ob 7 fs, ia D 192 ct])) ad 84 [some (.ref (ad 0)), some (.int (nI s)), some (.int (nI p)), some (.int (nI (64 - (m + 1)))), some (.int (nI (ahd (fun a => ct (64 * s + a)) (64 - (m + 1)) 64))), z1, z2, z3] [] [ob 7 fs, ia D 192 ct] := by
      intro z1 z2 z3
      refine G_iload (pc := 84) M dX7_ranked_84 rfl ?_
      refine G_iload_n (pc := 86) M dX7_ranked_86 rfl ?_
      refine G_icmp_ne (pc := 87) M 92 dX7_ranked_87 (by decide) (fun h87 => ?_) (fun h87 => ?_)
      · have h87b : ¬ ahd (fun a => ct (64 * s + a)) (64 - (m + 1)) 64 = p := fun q => h87 (by rw [q])
        refine G_iinc (pc := 92) (v := 1) M dX7_ranked_92 rfl (by decide +kernel) (Nat.le_of_ble_eq_true rfl) ?_
        refine G_goto (pc := 95) M 2 dX7_ranked_95 (by decide) ?_
        have := ih (by omega)
        rw [show 64 - m = 64 - (m + 1) + 1 by omega, ← nI_1] at this
        rw [rnk, if_neg h87b]
        exact this _ _ _ _
      · have h87b : ahd (fun a => ct (64 * s + a)) (64 - (m + 1)) 64 = p := (nI_eq (by omega) hp).mp (by simpa using h87)
        refine G_iload_n (pc := 90) M dX7_ranked_90 rfl ?_
        exact G_iret M hr dX7_ranked_91 rfl ⟨by rw [rnk, if_pos h87b], rfl⟩
    refine G_iload_n (pc := 2) M dX7_ranked_2 rfl ?_
    refine G_bipush (pc := 3) (v := 64) M dX7_ranked_3 (by decide +kernel) ?_
    refine G_icmp_ge (pc := 5) M 98 dX7_ranked_5 (by decide) (fun h5 => ?_) (fun h5 => ?_)
    · exact absurd ((nI_leI (a := 64) (b := 64 - (m + 1)) (by omega) (by omega)).mp h5) (by omega)
    · refine G_iconst (pc := 8) (v := 0) M dX7_ranked_8 (by decide +kernel) ?_
      refine G_istore (pc := 9) M dX7_ranked_9 (Nat.le_of_ble_eq_true rfl) ?_
      refine G_iconst (pc := 11) (v := 0) M dX7_ranked_11 (by decide +kernel) ?_
      refine G_istore (pc := 12) M dX7_ranked_12 (Nat.le_of_ble_eq_true rfl) ?_
      exact rnk_in M (a := 64 - (m + 1)) hs (by omega) hf8 kk 65 0 (by omega) (by omega) _ _
theorem c_ranked (D : DD) (l : Launch) (ad : Nat → Nat) (fs : List Value) (ct : Nat → Int32) (s p : Nat) (hs : s < 3) (hp : p < 2 ^ 31) (hf8 : gt fs 8 = some (.ref (ad 1))) : Ct D l mi_X7_ranked [.ref (ad 0), .int (nI s), .int (nI p)] ad [ob 7 fs, ia D 192 ct] (fun v c => v = some (.int (nI (rnk (fun a => ct (64 * s + a)) p 64))) ∧ c = [ob 7 fs, ia D 192 ct]) := by
  refine Ct.of (by decide +kernel) (Nat.le_of_ble_eq_true rfl) (fun X A hX M hr => ?_)
  subst hX
  refine G_iconst (pc := 0) (v := 0) M dX7_ranked_0 (by decide +kernel) ?_
  refine G_istore_n (pc := 1) M dX7_ranked_1 (Nat.le_of_ble_eq_true rfl) ?_
  exact rnk_out M hr hs hp hf8 64 (by omega) _ _ _ _
/-- two labels become the lesser one -/
def uniF (le : Nat → Int32) (x y : Int32) (k : Nat) : Nat → Int32 := fun a => if a < k then (if le a = x ∨ le a = y then (if y ≤ x then y else x) else le a) else le a
theorem uniF_0 (le : Nat → Int32) (x y : Int32) : uniF le x y 0 = le := by funext a; simp [uniF]
theorem uniF_at (le : Nat → Int32) (x y : Int32) (k : Nat) : uniF le x y k k = le k := by simp [uniF]
theorem uniF_step (le : Nat → Int32) (x y : Int32) (k : Nat) : upd (uniF le x y k) k (if le k = x ∨ le k = y then (if y ≤ x then y else x) else le k) = uniF le x y (k + 1) := by
  funext j
  simp only [upd, uniF]
  by_cases h : j = k
  · subst h
    rw [if_pos rfl, if_pos (Nat.lt_succ_self j)]
  · rw [if_neg h]
    by_cases h2 : j < k
    · rw [if_pos h2, if_pos (show j < k + 1 by omega)]
    · rw [if_neg h2, if_neg (show ¬ j < k + 1 by omega)]
theorem uni_loop {D : DD} {X : MX} {A : Nat → Prop} (M : CX D X A mi_X7_unite.1.cls mi_X7_unite.2.1 mi_X7_unite.2.2.1 (miR mi_X7_unite)) (hr : RT X mi_X7_unite.2.2.2.1) {ad : Nat → Nat} {fs : List Value} {le : Nat → Int32} {x y : Int32} (hf14 : gt fs 14 = some (.ref (ad 1))) : ∀ m k : Nat, k ≤ 64 → 64 - k < m →
    G D X A 0 0 (GQ D X A ad 2 (fun v c => v = none ∧ c = [ob 7 fs, ia D 64 (uniF le x y 64)])) ad 14 [some (.ref (ad 0)), some (.int x), some (.int y), some (.int (if y ≤ x then y else x)), some (.int (nI k))] [] [ob 7 fs, ia D 64 (uniF le x y k)] := by
  intro m
  induction m with
  | zero => intro k _ h; omega
  | succ m ih =>
    intro k hk hm
    refine G_iload (pc := 14) M dX7_unite_14 rfl ?_
    refine G_bipush (pc := 16) (v := 64) M dX7_unite_16 (by decide +kernel) ?_
    refine G_icmp_ge (pc := 18) M 67 dX7_unite_18 (by decide) (fun h18 => ?_) (fun h18 => ?_)
    · have hk64 : k = 64 := by
        have := (nI_leI (a := 64) (b := k) (by omega) (by omega)).mp h18
        omega
      subst hk64
      exact G_vret M hr dX7_unite_67 rfl ⟨rfl, rfl⟩
    · have hk64 : k < 64 := Nat.lt_of_not_le (fun q => h18 (nI_le q (by omega)))
      refine G_aload_n (pc := 21) M dX7_unite_21 rfl ?_
      refine G_getf (pc := 22) M dX7_unite_22 fl_X7_54 rfl (by first | rfl | assumption) ?_
      refine G_iload (pc := 25) M dX7_unite_25 rfl ?_
      refine G_aload_n (pc := 27) M dX7_unite_27 rfl ?_
      refine G_getf (pc := 28) M dX7_unite_28 fl_X7_54 rfl (by first | rfl | assumption) ?_
      refine G_iload (pc := 31) M dX7_unite_31 rfl ?_
      refine G_iaload (pc := 33) M dX7_unite_33 rfl (by first | assumption | exact vp_in_nI (by omega) (by omega)) ?_
      rw [cl_nI (by omega), uniF_at]
      refine G_iload_n (pc := 34) M dX7_unite_34 rfl ?_
      refine G_icmp_eq (pc := 35) M 49 dX7_unite_35 (by decide) (fun h35 => ?_) (fun h35 => ?_)
      · have e : (if le k = x ∨ le k = y then (if y ≤ x then y else x) else le k) = (if y ≤ x then y else x) := if_pos (Or.inl h35)
        refine G_iload_n (pc := 49) M dX7_unite_49 rfl ?_
        refine G_goto (pc := 50) M 60 dX7_unite_50 (by decide) ?_
        refine G_iastore (pc := 60) M dX7_unite_60 rfl (by first | assumption | exact vp_in_nI (by omega) (by omega)) ?_
        rw [cl_nI (by omega)]
        refine G_iinc (pc := 61) (v := 1) M dX7_unite_61 rfl (by decide +kernel) (Nat.le_of_ble_eq_true rfl) ?_
        refine G_goto (pc := 64) M 14 dX7_unite_64 (by decide) ?_
        have := ih (k + 1) (by omega) (by omega)
        rw [← uniF_step le x y k, e, ← nI_1 k] at this
        exact this
      · refine G_aload_n (pc := 38) M dX7_unite_38 rfl ?_
        refine G_getf (pc := 39) M dX7_unite_39 fl_X7_54 rfl (by first | rfl | assumption) ?_
        refine G_iload (pc := 42) M dX7_unite_42 rfl ?_
        refine G_iaload (pc := 44) M dX7_unite_44 rfl (by first | assumption | exact vp_in_nI (by omega) (by omega)) ?_
        rw [cl_nI (by omega), uniF_at]
        refine G_iload_n (pc := 45) M dX7_unite_45 rfl ?_
        refine G_icmp_ne (pc := 46) M 53 dX7_unite_46 (by decide) (fun h46 => ?_) (fun h46 => ?_)
        · have e : (if le k = x ∨ le k = y then (if y ≤ x then y else x) else le k) = le k := if_neg (by rintro (q | q); exact h35 q; exact h46 q)
          refine G_aload_n (pc := 53) M dX7_unite_53 rfl ?_
          refine G_getf (pc := 54) M dX7_unite_54 fl_X7_54 rfl (by first | rfl | assumption) ?_
          refine G_iload (pc := 57) M dX7_unite_57 rfl ?_
          refine G_iaload (pc := 59) M dX7_unite_59 rfl (by first | assumption | exact vp_in_nI (by omega) (by omega)) ?_
          rw [cl_nI (by omega), uniF_at]
          refine G_iastore (pc := 60) M dX7_unite_60 rfl (by first | assumption | exact vp_in_nI (by omega) (by omega)) ?_
          rw [cl_nI (by omega)]
          refine G_iinc (pc := 61) (v := 1) M dX7_unite_61 rfl (by decide +kernel) (Nat.le_of_ble_eq_true rfl) ?_
          refine G_goto (pc := 64) M 14 dX7_unite_64 (by decide) ?_
          have := ih (k + 1) (by omega) (by omega)
          rw [← uniF_step le x y k, e, ← nI_1 k] at this
          exact this
        · have e : (if le k = x ∨ le k = y then (if y ≤ x then y else x) else le k) = (if y ≤ x then y else x) := if_pos (Or.inr (by simpa using h46))
          refine G_iload_n (pc := 49) M dX7_unite_49 rfl ?_
          refine G_goto (pc := 50) M 60 dX7_unite_50 (by decide) ?_
          refine G_iastore (pc := 60) M dX7_unite_60 rfl (by first | assumption | exact vp_in_nI (by omega) (by omega)) ?_
          rw [cl_nI (by omega)]
          refine G_iinc (pc := 61) (v := 1) M dX7_unite_61 rfl (by decide +kernel) (Nat.le_of_ble_eq_true rfl) ?_
          refine G_goto (pc := 64) M 14 dX7_unite_64 (by decide) ?_
          have := ih (k + 1) (by omega) (by omega)
          rw [← uniF_step le x y k, e, ← nI_1 k] at this
          exact this
theorem c_unite (D : DD) (l : Launch) (ad : Nat → Nat) (fs : List Value) (le : Nat → Int32) (x y : Int32) (hf14 : gt fs 14 = some (.ref (ad 1))) : Ct D l mi_X7_unite [.ref (ad 0), .int x, .int y] ad [ob 7 fs, ia D 64 le] (fun v c => v = none ∧ c = [ob 7 fs, ia D 64 (uniF le x y 64)]) := by
  refine Ct.of (by decide +kernel) (Nat.le_of_ble_eq_true rfl) (fun X A hX M hr => ?_)
  subst hX
  refine G_iload_n (pc := 0) M dX7_unite_0 rfl ?_
  refine G_iload_n (pc := 1) M dX7_unite_1 rfl ?_
  refine G_icmp_ge (pc := 2) M 9 dX7_unite_2 (by decide) (fun h2 => ?_) (fun h2 => ?_)
  · have e : (if y ≤ x then y else x) = y := if_pos h2
    refine G_iload_n (pc := 9) M dX7_unite_9 rfl ?_
    refine G_istore_n (pc := 10) M dX7_unite_10 (Nat.le_of_ble_eq_true rfl) ?_
    refine G_iconst (pc := 11) (v := 0) M dX7_unite_11 (by decide +kernel) ?_
    refine G_istore (pc := 12) M dX7_unite_12 (Nat.le_of_ble_eq_true rfl) ?_
    have := uni_loop M hr (le := le) (x := x) (y := y) hf14 65 0 (by omega) (by omega)
    rw [uniF_0, e] at this
    exact this
  · have e : (if y ≤ x then y else x) = x := if_neg h2
    refine G_iload_n (pc := 5) M dX7_unite_5 rfl ?_
    refine G_goto (pc := 6) M 10 dX7_unite_6 (by decide) ?_
    refine G_istore_n (pc := 10) M dX7_unite_10 (Nat.le_of_ble_eq_true rfl) ?_
    refine G_iconst (pc := 11) (v := 0) M dX7_unite_11 (by decide +kernel) ?_
    refine G_istore (pc := 12) M dX7_unite_12 (Nat.le_of_ble_eq_true rfl) ?_
    have := uni_loop M hr (le := le) (x := x) (y := y) hf14 65 0 (by omega) (by omega)
    rw [uniF_0, e] at this
    exact this
