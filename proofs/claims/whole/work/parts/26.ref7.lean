/-! the reference: join -/
theorem vpn1 : vp_nar .boolean 1 = 1 := rfl
theorem vpn0 : vp_nar .boolean 0 = 0 := rfl
abbrev jnW (D : DD) (fs : List Value) (nd ag lw hg le jo : Nat → Int32) : List va_E := [ob 7 fs, ia D 3 nd, ia D 3 ag, ia D 12600 lw, ia D 12600 hg, ia D 64 le, za D 4200 jo]
theorem jn_loop {D : DD} {X : MX} {A : Nat → Prop} (M : CX D X A mi_X7_join.1.cls mi_X7_join.2.1 mi_X7_join.2.2.1 (miR mi_X7_join)) (hr : RT X mi_X7_join.2.2.2.1) {ad : Nat → Nat} {fs : List Value} {nd ag lw hg jo : Nat → Int32} {s g k : Nat} {u v : Nat → Nat} (hs : s < 3) (hg4 : g ≤ 4200) (hk : k ≤ g) (hu : ∀ t, t < g → lw (4200 * s + t) = nI (u t) ∧ u t < 64) (hv : ∀ t, t < g → hg (4200 * s + t) = nI (v t) ∧ v t < 64)
    (hf0 : gt fs 0 = some (.ref (ad 1))) (hf4 : gt fs 4 = some (.ref (ad 2))) (hf6 : gt fs 6 = some (.ref (ad 3))) (hf7 : gt fs 7 = some (.ref (ad 4))) (hf14 : gt fs 14 = some (.ref (ad 5))) (hf15 : gt fs 15 = some (.ref (ad 6))) (m0 : Int32) {z : Int32} : ∀ m i : Nat, i ≤ k → k - i < m → ∀ z1 z2 : Option Value,
    G D X A 0 0 (GQ D X A ad 7 (fun r cs => r = some (.int (m0 - nI (cj u v g k))) ∧ cs = jnW D fs nd ag lw hg (fun a => nI (lab u v g k a)) (joF u v g jo k))) ad 66 [some (.ref (ad 0)), some (.int (nI s)), some (.int z), some (.int (m0 - nI (cj u v g i))), some (.int (nI (g - k))), some (.int (nI (g - i) - 1)), z1, z2] [] (jnW D fs nd ag lw hg (fun a => nI (lab u v g i a)) (joF u v g jo i)) := by
  intro m
  induction m with
  | zero => intro i _ h; omega
  | succ m ih =>
    intro i hi hm z1 z2
    have rest : i < k → ∀ (z1 z2 : Option Value), G D X A 0 0 (GQ D X A ad 7 (fun r cs => r = some (.int (m0 - nI (cj u v g k))) ∧ cs = jnW D fs nd ag lw hg (fun a => nI (lab u v g k a)) (joF u v g jo k))) ad 132 [some (.ref (ad 0)), some (.int (nI s)), some (.int z), some (.int (m0 - nI (cj u v g i))), some (.int (nI (g - k))), some (.int (nI (g - i) - 1)), some (.int (nI (lab u v g i (u (g - 1 - i))))), some (.int (nI (lab u v g i (v (g - 1 - i)))))] [] (jnW D fs nd ag lw hg (fun a => nI (lab u v g i a)) (joF u v g jo (i + 1))) := by
      intro hik _ _
      obtain ⟨eu, hu6⟩ := hu (g - 1 - i) (by omega)
      obtain ⟨ev, hv6⟩ := hv (g - 1 - i) (by omega)
      have l1 := lab_le u v g i (u (g - 1 - i))
      have l2 := lab_le u v g i (v (g - 1 - i))
      refine G_iload_n (pc := 132) M dX7_join_132 rfl ?_
      refine G_iload (pc := 133) M dX7_join_133 rfl ?_
      refine G_iload (pc := 135) M dX7_join_135 rfl ?_
      refine G_icmp_eq (pc := 137) M 144 dX7_join_137 (by decide) (fun h137 => ?_) (fun h137 => ?_)
      · have q : lab u v g i (u (g - 1 - i)) = lab u v g i (v (g - 1 - i)) := (nI_eq (by omega) (by omega)).mp h137
        have e : m0 - nI (cj u v g i) - 0 = m0 - nI (cj u v g (i + 1)) := by simp [cj, jnd, q]
        refine G_iconst (pc := 144) (v := 0) M dX7_join_144 (by decide +kernel) ?_
        refine G_isub (pc := 145) M dX7_join_145 ?_
        rw [e]
        refine G_istore_n (pc := 146) M dX7_join_146 (Nat.le_of_ble_eq_true rfl) ?_
        refine G_aload_n (pc := 147) M dX7_join_147 rfl ?_
        refine G_iload (pc := 148) M dX7_join_148 rfl ?_
        refine G_iload (pc := 150) M dX7_join_150 rfl ?_
        refine G_callv (pc := 152) M [0, 5] dX7_join_152 mv_X7_121 (c_unite D _ (fun j => ad (pn [0, 5] j)) fs (fun a => nI (lab u v g i a)) (nI (lab u v g i (u (g - 1 - i)))) (nI (lab u v g i (v (g - 1 - i)))) hf14) rfl ⟨rfl, rfl, trivial⟩ rfl rfl rfl rfl (Nat.le_of_ble_eq_true rfl) (Nat.le_of_ble_eq_true rfl) (Nat.le_of_ble_eq_true rfl) ⟨Nat.zero_le _, Nat.zero_le _⟩ (fun v c1 hq hlen => ?_)
        obtain ⟨rfl, rfl⟩ := hq
        refine G_iinc (pc := 155) (v := -1) M dX7_join_155 rfl (by decide +kernel) (Nat.le_of_ble_eq_true rfl) ?_
        refine G_goto (pc := 158) M 66 dX7_join_158 (by decide) ?_
        refine G_normI 5 (fun a => nI (lab u v g (i + 1) a)) rfl (fun a ha => unN_nI (lab_le u v g i) hu6 hv6 a ha) ?_
        have := ih (i + 1) (by omega) (by omega)
        rw [show nI (g - (i + 1)) - 1 = nI (g - i) - 1 + -1 by rw [m1_sub, show g - i = (g - (i + 1)) + 1 by omega, nI_pred]] at this
        exact this _ _
      · have q : ¬ lab u v g i (u (g - 1 - i)) = lab u v g i (v (g - 1 - i)) := fun w => h137 (by rw [w])
        have e : m0 - nI (cj u v g i) - 1 = m0 - nI (cj u v g (i + 1)) := by rw [sub_nI1]; simp [cj, jnd, q]
        refine G_iconst (pc := 140) (v := 1) M dX7_join_140 (by decide +kernel) ?_
        refine G_goto (pc := 141) M 145 dX7_join_141 (by decide) ?_
        refine G_isub (pc := 145) M dX7_join_145 ?_
        rw [e]
        refine G_istore_n (pc := 146) M dX7_join_146 (Nat.le_of_ble_eq_true rfl) ?_
        refine G_aload_n (pc := 147) M dX7_join_147 rfl ?_
        refine G_iload (pc := 148) M dX7_join_148 rfl ?_
        refine G_iload (pc := 150) M dX7_join_150 rfl ?_
        refine G_callv (pc := 152) M [0, 5] dX7_join_152 mv_X7_121 (c_unite D _ (fun j => ad (pn [0, 5] j)) fs (fun a => nI (lab u v g i a)) (nI (lab u v g i (u (g - 1 - i)))) (nI (lab u v g i (v (g - 1 - i)))) hf14) rfl ⟨rfl, rfl, trivial⟩ rfl rfl rfl rfl (Nat.le_of_ble_eq_true rfl) (Nat.le_of_ble_eq_true rfl) (Nat.le_of_ble_eq_true rfl) ⟨Nat.zero_le _, Nat.zero_le _⟩ (fun v c1 hq hlen => ?_)
        obtain ⟨rfl, rfl⟩ := hq
        refine G_iinc (pc := 155) (v := -1) M dX7_join_155 rfl (by decide +kernel) (Nat.le_of_ble_eq_true rfl) ?_
        refine G_goto (pc := 158) M 66 dX7_join_158 (by decide) ?_
        refine G_normI 5 (fun a => nI (lab u v g (i + 1) a)) rfl (fun a ha => unN_nI (lab_le u v g i) hu6 hv6 a ha) ?_
        have := ih (i + 1) (by omega) (by omega)
        rw [show nI (g - (i + 1)) - 1 = nI (g - i) - 1 + -1 by rw [m1_sub, show g - i = (g - (i + 1)) + 1 by omega, nI_pred]] at this
        exact this _ _
    refine G_iload (pc := 66) M dX7_join_66 rfl ?_
    refine G_iload (pc := 68) M dX7_join_68 rfl ?_
    refine G_icmp_lt (pc := 70) M 161 dX7_join_70 (by decide) (fun h70 => ?_) (fun h70 => ?_)
    · have e : g - i ≤ g - k := (dec_lt (by omega) (by omega)).mp h70
      obtain rfl : i = k := by omega
      refine G_iload_n (pc := 161) M dX7_join_161 rfl ?_
      exact G_iret M hr dX7_join_162 rfl ⟨rfl, rfl⟩
    · have hik : i < k := by
        have : ¬ g - i ≤ g - k := fun w => h70 ((dec_lt (by omega) (by omega)).mpr w)
        omega
      obtain ⟨eu, hu6⟩ := hu (g - 1 - i) (by omega)
      obtain ⟨ev, hv6⟩ := hv (g - 1 - i) (by omega)
      have et : nI (g - i) - 1 = nI (g - 1 - i) := by rw [show g - i = (g - 1 - i) + 1 by omega, nI_pred]
      have l1 := lab_le u v g i (u (g - 1 - i))
      have l2 := lab_le u v g i (v (g - 1 - i))
      refine G_aload_n (pc := 73) M dX7_join_73 rfl ?_
      refine G_getf (pc := 74) M dX7_join_74 fl_X7_54 rfl (by first | rfl | assumption) ?_
      refine G_aload_n (pc := 77) M dX7_join_77 rfl ?_
      refine G_getf (pc := 78) M dX7_join_78 fl_X7_29 rfl (by first | rfl | assumption) ?_
      refine G_sipush (pc := 81) (v := 4200) M dX7_join_81 (by decide +kernel) ?_
      refine G_iload_n (pc := 84) M dX7_join_84 rfl ?_
      refine G_imul (pc := 85) M dX7_join_85 ?_
      refine G_iload (pc := 86) M dX7_join_86 rfl ?_
      refine G_iadd (pc := 88) M dX7_join_88 ?_
      rw [et, ixC]
      refine G_iaload (pc := 89) M dX7_join_89 rfl (by first | assumption | exact vp_in_nI (by omega) (by omega)) ?_
      rw [cl_nI (by omega), eu]
      refine G_iaload (pc := 90) M dX7_join_90 rfl (by first | assumption | exact vp_in_nI (by omega) (by omega)) ?_
      rw [cl_nI (by omega)]
      refine G_istore (pc := 91) M dX7_join_91 (Nat.le_of_ble_eq_true rfl) ?_
      refine G_aload_n (pc := 93) M dX7_join_93 rfl ?_
      refine G_getf (pc := 94) M dX7_join_94 fl_X7_54 rfl (by first | rfl | assumption) ?_
      refine G_aload_n (pc := 97) M dX7_join_97 rfl ?_
      refine G_getf (pc := 98) M dX7_join_98 fl_X7_32 rfl (by first | rfl | assumption) ?_
      refine G_sipush (pc := 101) (v := 4200) M dX7_join_101 (by decide +kernel) ?_
      refine G_iload_n (pc := 104) M dX7_join_104 rfl ?_
      refine G_imul (pc := 105) M dX7_join_105 ?_
      refine G_iload (pc := 106) M dX7_join_106 rfl ?_
      refine G_iadd (pc := 108) M dX7_join_108 ?_
      rw [ixC]
      refine G_iaload (pc := 109) M dX7_join_109 rfl (by first | assumption | exact vp_in_nI (by omega) (by omega)) ?_
      rw [cl_nI (by omega), ev]
      refine G_iaload (pc := 110) M dX7_join_110 rfl (by first | assumption | exact vp_in_nI (by omega) (by omega)) ?_
      rw [cl_nI (by omega)]
      refine G_istore (pc := 111) M dX7_join_111 (Nat.le_of_ble_eq_true rfl) ?_
      refine G_aload_n (pc := 113) M dX7_join_113 rfl ?_
      refine G_getf (pc := 114) M dX7_join_114 fl_X7_57 rfl (by first | rfl | assumption) ?_
      refine G_iload (pc := 117) M dX7_join_117 rfl ?_
      refine G_iload (pc := 119) M dX7_join_119 rfl ?_
      refine G_iload (pc := 121) M dX7_join_121 rfl ?_
      refine G_icmp_eq (pc := 123) M 130 dX7_join_123 (by decide) (fun h123 => ?_) (fun h123 => ?_)
      · have q : lab u v g i (u (g - 1 - i)) = lab u v g i (v (g - 1 - i)) := (nI_eq (by omega) (by omega)).mp h123
        have eb : (0 : Int32) = bz (jnd u v g i) := by simp [jnd, q, bz]
        refine G_iconst (pc := 130) (v := 0) M dX7_join_130 (by decide +kernel) ?_
        refine G_bastore (pc := 131) M dX7_join_131 rfl (by first | assumption | exact vp_in_nI (by omega) (by omega)) ?_
        first | rw [vpn1] | rw [vpn0]
        rw [cl_nI (by omega), show g - 1 - i = g - i - 1 by omega, eb, joF_step u v g jo (by omega), show g - i - 1 = g - 1 - i by omega]
        have := rest hik none none
        rw [et] at this
        exact this
      · have q : ¬ lab u v g i (u (g - 1 - i)) = lab u v g i (v (g - 1 - i)) := fun w => h123 (by rw [w])
        have eb : (1 : Int32) = bz (jnd u v g i) := by simp [jnd, q, bz]
        refine G_iconst (pc := 126) (v := 1) M dX7_join_126 (by decide +kernel) ?_
        refine G_goto (pc := 127) M 131 dX7_join_127 (by decide) ?_
        refine G_bastore (pc := 131) M dX7_join_131 rfl (by first | assumption | exact vp_in_nI (by omega) (by omega)) ?_
        first | rw [vpn1] | rw [vpn0]
        rw [cl_nI (by omega), show g - 1 - i = g - i - 1 by omega, eb, joF_step u v g jo (by omega), show g - i - 1 = g - 1 - i by omega]
        have := rest hik none none
        rw [et] at this
        exact this
theorem jn_init {D : DD} {X : MX} {A : Nat → Prop} (M : CX D X A mi_X7_join.1.cls mi_X7_join.2.1 mi_X7_join.2.2.1 (miR mi_X7_join)) {Q : State → Prop} {ad : Nat → Nat} {fs : List Value} {nd ag lw hg le jo : Nat → Int32} {o1 o2 m0 : Int32} {z5 z6 z7 : Option Value} (hf14 : gt fs 14 = some (.ref (ad 5)))
    (kk : ∀ z4 : Option Value, G D X A 0 0 Q ad 32 [some (.ref (ad 0)), some (.int o1), some (.int o2), some (.int m0), z4, z5, z6, z7] [] (jnW D fs nd ag lw hg (fun a => nI a) jo)) : ∀ m k : Nat, k ≤ 64 → 64 - k < m →
    G D X A 0 0 Q ad 10 [some (.ref (ad 0)), some (.int o1), some (.int o2), some (.int m0), some (.int (nI k)), z5, z6, z7] [] (jnW D fs nd ag lw hg (fun a => if a < k then nI a else le a) jo) := by
  intro m
  induction m with
  | zero => intro k _ h; omega
  | succ m ih =>
    intro k hk hm
    refine G_iload (pc := 10) M dX7_join_10 rfl ?_
    refine G_bipush (pc := 12) (v := 64) M dX7_join_12 (by decide +kernel) ?_
    refine G_icmp_ge (pc := 14) M 32 dX7_join_14 (by decide) (fun h14 => ?_) (fun h14 => ?_)
    · have hk64 : k = 64 := by
        have := (nI_leI (a := 64) (b := k) (by omega) (by omega)).mp h14
        omega
      subst hk64
      refine G_normI 5 (fun a => nI a) rfl (fun a ha => if_pos ha) ?_
      exact kk _
    · have hk64 : k < 64 := Nat.lt_of_not_le (fun q => h14 (nI_le q (by omega)))
      refine G_aload_n (pc := 17) M dX7_join_17 rfl ?_
      refine G_getf (pc := 18) M dX7_join_18 fl_X7_54 rfl (by first | rfl | assumption) ?_
      refine G_iload (pc := 21) M dX7_join_21 rfl ?_
      refine G_iload (pc := 23) M dX7_join_23 rfl ?_
      refine G_iastore (pc := 25) M dX7_join_25 rfl (by first | assumption | exact vp_in_nI (by omega) (by omega)) ?_
      rw [cl_nI (by omega)]
      refine G_iinc (pc := 26) (v := 1) M dX7_join_26 rfl (by decide +kernel) (Nat.le_of_ble_eq_true rfl) ?_
      refine G_goto (pc := 29) M 10 dX7_join_29 (by decide) ?_
      have := ih (k + 1) (by omega) (by omega)
      have e : upd (fun a => if a < k then nI a else le a) k (nI k) = (fun a => if a < k + 1 then nI a else le a) := by
        funext a
        simp only [upd]
        by_cases h : a = k
        · subst h; simp
        · rw [if_neg h]
          by_cases h2 : a < k
          · rw [if_pos h2, if_pos (by omega)]
          · rw [if_neg h2, if_neg (by omega)]
      rw [← e, ← nI_1 k] at this
      exact this
theorem c_join (D : DD) (l : Launch) (ad : Nat → Nat) (fs : List Value) (nd ag lw hg le jo : Nat → Int32) (s g n : Nat) (u v : Nat → Nat) (hs : s < 3) (hg4 : g ≤ 4200) (hn : n < 2 ^ 31) (hag : ag s = nI g) (hu : ∀ t, t < g → lw (4200 * s + t) = nI (u t) ∧ u t < 64) (hv : ∀ t, t < g → hg (4200 * s + t) = nI (v t) ∧ v t < 64)
    (hf0 : gt fs 0 = some (.ref (ad 1))) (hf4 : gt fs 4 = some (.ref (ad 2))) (hf6 : gt fs 6 = some (.ref (ad 3))) (hf7 : gt fs 7 = some (.ref (ad 4))) (hf14 : gt fs 14 = some (.ref (ad 5))) (hf15 : gt fs 15 = some (.ref (ad 6))) :
    Ct D l mi_X7_join [.ref (ad 0), .int (nI s), .int (nI n)] ad (jnW D fs nd ag lw hg le jo) (fun r cs => r = some (.int (nd s - nI (cj u v g (min n g)))) ∧ cs = jnW D fs nd ag lw hg (fun a => nI (lab u v g (min n g) a)) (joF u v g jo (min n g))) := by
  refine Ct.of (by decide +kernel) (Nat.le_of_ble_eq_true rfl) (fun X A hX M hr => ?_)
  subst hX
  have kk : ∀ z4 : Option Value, G D X A 0 0 (GQ D X A ad 7 (fun r cs => r = some (.int (nd s - nI (cj u v g (min n g)))) ∧ cs = jnW D fs nd ag lw hg (fun a => nI (lab u v g (min n g) a)) (joF u v g jo (min n g)))) ad 32 [some (.ref (ad 0)), some (.int (nI s)), some (.int (nI n)), some (.int (nd s)), z4, none, none, none] [] (jnW D fs nd ag lw hg (fun a => nI a) jo) := by
    intro z4
    have fin := jn_loop M hr (nd := nd) (ag := ag) (lw := lw) (hg := hg) (jo := jo) (k := min n g) (z := nI n) (u := u) (v := v) hs hg4 (by omega) hu hv hf0 hf4 hf6 hf7 hf14 hf15 (nd s) (g + 1) 0 (by omega) (by omega) none none
    rw [joF_0, cj, sub_nI0] at fin
    refine G_iload_n (pc := 32) M dX7_join_32 rfl ?_
    refine G_aload_n (pc := 33) M dX7_join_33 rfl ?_
    refine G_getf (pc := 34) M dX7_join_34 fl_X7_23 rfl (by first | rfl | assumption) ?_
    refine G_iload_n (pc := 37) M dX7_join_37 rfl ?_
    refine G_iaload (pc := 38) M dX7_join_38 rfl (by first | assumption | exact vp_in_nI (by omega) (by omega)) ?_
    rw [cl_nI (by omega), hag]
    refine G_icmp_ge (pc := 39) M 53 dX7_join_39 (by decide) (fun h39 => ?_) (fun h39 => ?_)
    · have e : 0 = g - min n g := by
        have := (nI_leI (a := g) (b := n) (by omega) (by omega)).mp h39
        omega
      rw [← e] at fin
      refine G_iconst (pc := 53) (v := 0) M dX7_join_53 (by decide +kernel) ?_
      refine G_istore (pc := 54) M dX7_join_54 (Nat.le_of_ble_eq_true rfl) ?_
      refine G_aload_n (pc := 56) M dX7_join_56 rfl ?_
      refine G_getf (pc := 57) M dX7_join_57 fl_X7_23 rfl (by first | rfl | assumption) ?_
      refine G_iload_n (pc := 60) M dX7_join_60 rfl ?_
      refine G_iaload (pc := 61) M dX7_join_61 rfl (by first | assumption | exact vp_in_nI (by omega) (by omega)) ?_
      rw [cl_nI (by omega), hag]
      refine G_iconst (pc := 62) (v := 1) M dX7_join_62 (by decide +kernel) ?_
      refine G_isub (pc := 63) M dX7_join_63 ?_
      refine G_istore (pc := 64) M dX7_join_64 (Nat.le_of_ble_eq_true rfl) ?_
      exact fin
    · have hng : n < g := Nat.lt_of_not_le (fun w => h39 (nI_le (a := g) (b := n) w (by omega)))
      have e : g - n = g - min n g := by omega
      rw [← e] at fin
      refine G_aload_n (pc := 42) M dX7_join_42 rfl ?_
      refine G_getf (pc := 43) M dX7_join_43 fl_X7_23 rfl (by first | rfl | assumption) ?_
      refine G_iload_n (pc := 46) M dX7_join_46 rfl ?_
      refine G_iaload (pc := 47) M dX7_join_47 rfl (by first | assumption | exact vp_in_nI (by omega) (by omega)) ?_
      rw [cl_nI (by omega), hag]
      refine G_iload_n (pc := 48) M dX7_join_48 rfl ?_
      refine G_isub (pc := 49) M dX7_join_49 ?_
      rw [pk_sub (by omega)]
      refine G_goto (pc := 50) M 54 dX7_join_50 (by decide) ?_
      refine G_istore (pc := 54) M dX7_join_54 (Nat.le_of_ble_eq_true rfl) ?_
      refine G_aload_n (pc := 56) M dX7_join_56 rfl ?_
      refine G_getf (pc := 57) M dX7_join_57 fl_X7_23 rfl (by first | rfl | assumption) ?_
      refine G_iload_n (pc := 60) M dX7_join_60 rfl ?_
      refine G_iaload (pc := 61) M dX7_join_61 rfl (by first | assumption | exact vp_in_nI (by omega) (by omega)) ?_
      rw [cl_nI (by omega), hag]
      refine G_iconst (pc := 62) (v := 1) M dX7_join_62 (by decide +kernel) ?_
      refine G_isub (pc := 63) M dX7_join_63 ?_
      refine G_istore (pc := 64) M dX7_join_64 (Nat.le_of_ble_eq_true rfl) ?_
      exact fin
  refine G_aload_n (pc := 0) M dX7_join_0 rfl ?_
  refine G_getf (pc := 1) M dX7_join_1 fl_X7_7 rfl (by first | rfl | assumption) ?_
  refine G_iload_n (pc := 4) M dX7_join_4 rfl ?_
  refine G_iaload (pc := 5) M dX7_join_5 rfl (by first | assumption | exact vp_in_nI (by omega) (by omega)) ?_
  rw [cl_nI (by omega)]
  refine G_istore_n (pc := 6) M dX7_join_6 (Nat.le_of_ble_eq_true rfl) ?_
  refine G_iconst (pc := 7) (v := 0) M dX7_join_7 (by decide +kernel) ?_
  refine G_istore (pc := 8) M dX7_join_8 (Nat.le_of_ble_eq_true rfl) ?_
  have := jn_init M (le := le) hf14 kk 65 0 (by omega) (by omega)
  simp only [Nat.not_lt_zero, if_false] at this
  exact this
