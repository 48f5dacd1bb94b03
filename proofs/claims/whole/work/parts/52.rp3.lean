--NORM
/-! the reference: tree, since, far, out, same -/
/-- the i-th joined arc from t = g - m on, c joined ones passed -/
def trF (jn : Nat → Bool) (g p : Nat) : Nat → Nat → Option Nat
  | 0, _ => none
  | m + 1, c => bif jn (g - (m + 1)) then (if c = p then some (g - (m + 1)) else trF jn g p m (c + 1)) else trF jn g p m c
def trA (u v : Nat → Nat) (w : Int32) : Option Nat → Int32
  | none => -1
  | some t => if w = 0 then nI (t + 1) else if w = 1 then nI (u t) else nI (v t)
theorem tr_loop {D : DD} {X : MX} {A : Nat → Prop} (M : CX D X A mi_X7_tree.1.cls mi_X7_tree.2.1 mi_X7_tree.2.2.1 (miR mi_X7_tree)) (hr : RT X mi_X7_tree.2.2.2.1) {ad : Nat → Nat} {nd : Nat → Int32} {sl : Nat → Int32} {sr : Nat → Int32} {sd : Nat → Int64} {ag : Nat → Int32} {lo : Nat → Int32} {lw : Nat → Int32} {hg : Nat → Int32} {ct : Nat → Int32} {mt : Nat → Int32} {sm : Nat → Int64} {th : Nat → Int32} {tn : Nat → Int32} {lev : Int32} {le : Nat → Int32} {jo : Nat → Int32} {wy : Nat → Int32} {si g p : Nat} {w z4 : Int32} {u v : Nat → Nat} {jn : Nat → Bool} (hsi : si < 3) (hg4 : g ≤ 4200) (hp : p < 2 ^ 31) (hag : ag si = nI g) (hu : ∀ t, t < g → lw (4200 * si + t) = nI (u t) ∧ u t < 64) (hv : ∀ t, t < g → hg (4200 * si + t) = nI (v t) ∧ v t < 64) (hj : ∀ t, t < g → jo t = bz (jn t)) : ∀ m c : Nat, m ≤ g → c + m ≤ g →
    G D X A 0 0 (GQ D X A ad 17 (fun r cs => r = some (.int (trA u v w (trF jn g p m c))) ∧ cs = rfW D ad nd sl sr sd ag lo lw hg ct mt sm th tn lev le jo wy)) ad 41 [some (.ref (ad 0)), some (.int (nI si)), some (.int (nI p)), some (.int w), some (.int z4), some (.int (nI c)), some (.int (nI (g - m)))] [] (rfW D ad nd sl sr sd ag lo lw hg ct mt sm th tn lev le jo wy) := by
  intro m
  induction m with
  | zero =>
    intro c _ _
    refine G_iload (pc := 41) M dX7_tree_41 rfl ?_
    refine G_aload_n (pc := 43) M dX7_tree_43 rfl ?_
    refine G_getf (pc := 44) M dX7_tree_44 fl_X7_23 rfl (by first | rfl | assumption) ?_
    refine G_iload_n (pc := 47) M dX7_tree_47 rfl ?_
    refine G_iaload (pc := 48) M dX7_tree_48 rfl (by first | assumption | exact vp_in_nI (by omega) (by omega)) ?_
    rw [cl_nI (by omega), hag]
    refine G_icmp_ge (pc := 49) M 123 dX7_tree_49 (by decide) (fun h49 => ?_) (fun h49 => ?_)
    · refine G_iconst (pc := 123) (v := -1) M dX7_tree_123 (by decide +kernel) ?_
      exact G_iret M hr dX7_tree_124 rfl ⟨rfl, rfl⟩
    · exact absurd (nI_le (a := g) (b := g - 0) (by omega) (by omega)) h49
  | succ m ih =>
    intro c hm hc
    obtain ⟨u1, u2⟩ := hu (g - (m + 1)) (by omega)
    obtain ⟨v1, v2⟩ := hv (g - (m + 1)) (by omega)
    have j1 := hj (g - (m + 1)) (by omega)
    refine G_iload (pc := 41) M dX7_tree_41 rfl ?_
    refine G_aload_n (pc := 43) M dX7_tree_43 rfl ?_
    refine G_getf (pc := 44) M dX7_tree_44 fl_X7_23 rfl (by first | rfl | assumption) ?_
    refine G_iload_n (pc := 47) M dX7_tree_47 rfl ?_
    refine G_iaload (pc := 48) M dX7_tree_48 rfl (by first | assumption | exact vp_in_nI (by omega) (by omega)) ?_
    rw [cl_nI (by omega), hag]
    refine G_icmp_ge (pc := 49) M 123 dX7_tree_49 (by decide) (fun h49 => ?_) (fun h49 => ?_)
    · exact absurd ((nI_leI (a := g) (b := g - (m + 1)) (by omega) (by omega)).mp h49) (by omega)
    · refine G_aload_n (pc := 52) M dX7_tree_52 rfl ?_
      refine G_getf (pc := 53) M dX7_tree_53 fl_X7_57 rfl (by first | rfl | assumption) ?_
      refine G_iload (pc := 56) M dX7_tree_56 rfl ?_
      refine G_baload (pc := 58) M dX7_tree_58 rfl (by first | assumption | exact vp_in_nI (by omega) (by omega)) ?_
      rw [cl_nI (by omega), j1]
      refine G_if_eq (pc := 59) M 117 dX7_tree_59 (by decide) (fun h59 => ?_) (fun h59 => ?_)
      · have e5 : trF jn g p (m + 1) c = trF jn g p m c := by rw [trF, bz0 h59]; rfl
        have ec : c + m ≤ g := by omega
        have nx := ih c (by omega) (by omega)
        rw [show g - m = g - (m + 1) + 1 by omega, ← nI_1] at nx
        rw [e5]
        refine G_iinc (pc := 117) (v := 1) M dX7_tree_117 rfl (by decide +kernel) (Nat.le_of_ble_eq_true rfl) ?_
        refine G_goto (pc := 120) M 41 dX7_tree_120 (by decide) ?_
        exact nx
      · have hj1 := bz1 h59
        refine G_iload (pc := 62) M dX7_tree_62 rfl ?_
        refine G_iload_n (pc := 64) M dX7_tree_64 rfl ?_
        refine G_icmp_ne (pc := 65) M 114 dX7_tree_65 (by decide) (fun h65 => ?_) (fun h65 => ?_)
        · have e5 : trF jn g p (m + 1) c = trF jn g p m (c + 1) := by rw [trF, hj1, cond_true, if_neg (fun q => h65 (by rw [q]))]
          have nx := ih (c + 1) (by omega) (by omega)
          rw [show g - m = g - (m + 1) + 1 by omega, ← nI_1, ← nI_1] at nx
          rw [e5]
          refine G_iinc (pc := 114) (v := 1) M dX7_tree_114 rfl (by decide +kernel) (Nat.le_of_ble_eq_true rfl) ?_
          refine G_iinc (pc := 117) (v := 1) M dX7_tree_117 rfl (by decide +kernel) (Nat.le_of_ble_eq_true rfl) ?_
          refine G_goto (pc := 120) M 41 dX7_tree_120 (by decide) ?_
          exact nx
        · have e5 : trF jn g p (m + 1) c = some (g - (m + 1)) := by rw [trF, hj1, cond_true, if_pos ((nI_eq (by omega) hp).mp (by simpa using h65))]
          rw [e5]
          refine G_iload_n (pc := 68) M dX7_tree_68 rfl ?_
          refine G_if_ne (pc := 69) M 79 dX7_tree_69 (by decide) (fun h69 => ?_) (fun h69 => ?_)
          · have e6 := h69
            refine G_iload_n (pc := 79) M dX7_tree_79 rfl ?_
            refine G_iconst (pc := 80) (v := 1) M dX7_tree_80 (by decide +kernel) ?_
            refine G_icmp_ne (pc := 81) M 100 dX7_tree_81 (by decide) (fun h81 => ?_) (fun h81 => ?_)
            · refine G_aload_n (pc := 100) M dX7_tree_100 rfl ?_
              refine G_getf (pc := 101) M dX7_tree_101 fl_X7_32 rfl (by first | rfl | assumption) ?_
              refine G_sipush (pc := 104) (v := 4200) M dX7_tree_104 (by decide +kernel) ?_
              refine G_iload_n (pc := 107) M dX7_tree_107 rfl ?_
              refine G_imul (pc := 108) M dX7_tree_108 ?_
              refine G_iload (pc := 109) M dX7_tree_109 rfl ?_
              refine G_iadd (pc := 111) M dX7_tree_111 ?_
              rw [ixC]
              refine G_iaload (pc := 112) M dX7_tree_112 rfl (by first | assumption | exact vp_in_nI (by omega) (by omega)) ?_
              rw [cl_nI (by omega), v1]
              exact G_iret M hr dX7_tree_113 rfl ⟨by first | rfl | (simp only [trA]; rw [if_neg h69, if_neg h81]), rfl⟩
            · obtain rfl : w = 1 := by simpa using h81
              refine G_aload_n (pc := 84) M dX7_tree_84 rfl ?_
              refine G_getf (pc := 85) M dX7_tree_85 fl_X7_29 rfl (by first | rfl | assumption) ?_
              refine G_sipush (pc := 88) (v := 4200) M dX7_tree_88 (by decide +kernel) ?_
              refine G_iload_n (pc := 91) M dX7_tree_91 rfl ?_
              refine G_imul (pc := 92) M dX7_tree_92 ?_
              refine G_iload (pc := 93) M dX7_tree_93 rfl ?_
              refine G_iadd (pc := 95) M dX7_tree_95 ?_
              rw [ixC]
              refine G_iaload (pc := 96) M dX7_tree_96 rfl (by first | assumption | exact vp_in_nI (by omega) (by omega)) ?_
              rw [cl_nI (by omega), u1]
              refine G_goto (pc := 97) M 113 dX7_tree_97 (by decide) ?_
              exact G_iret M hr dX7_tree_113 rfl ⟨by first | rfl | (simp only [trA]; rw [if_neg h69, if_neg h81]), rfl⟩
          · obtain rfl : w = 0 := by simpa using h69
            refine G_iload (pc := 72) M dX7_tree_72 rfl ?_
            refine G_iconst (pc := 74) (v := 1) M dX7_tree_74 (by decide +kernel) ?_
            refine G_iadd (pc := 75) M dX7_tree_75 ?_
            rw [nI_1]
            refine G_goto (pc := 76) M 113 dX7_tree_76 (by decide) ?_
            exact G_iret M hr dX7_tree_113 rfl ⟨by first | rfl | (simp only [trA]; rw [if_neg h69, if_neg h81]), rfl⟩
theorem r_tree (D : DD) (l : Launch) (ad : Nat → Nat) (nd : Nat → Int32) (sl : Nat → Int32) (sr : Nat → Int32) (sd : Nat → Int64) (ag : Nat → Int32) (lo : Nat → Int32) (lw : Nat → Int32) (hg : Nat → Int32) (ct : Nat → Int32) (mt : Nat → Int32) (sm : Nat → Int64) (th : Nat → Int32) (tn : Nat → Int32) (lev : Int32) (le : Nat → Int32) (jo : Nat → Int32) (wy : Nat → Int32) (s i w : Int32) (g : Nat) (u v : Nat → Nat) (hg4 : g ≤ 4200) (hag : okS s = true → ag s.toNatClampNeg = nI g) (hu : okS s = true → ∀ t, t < g → lw (4200 * s.toNatClampNeg + t) = nI (u t) ∧ u t < 64) (hv : okS s = true → ∀ t, t < g → hg (4200 * s.toNatClampNeg + t) = nI (v t) ∧ v t < 64) : Ct D l mi_X7_tree [.ref (ad 0), .int s, .int i, .int w] ad (rfW D ad nd sl sr sd ag lo lw hg ct mt sm th tn lev le jo wy) (fun r c => r = some (.int (bif okS s && rng 0 2 w && !decide (i < 0) then trA u v w (trF (fun t => jnd u v g (g - 1 - t)) g i.toNatClampNeg g 0) else -1)) ∧ ∃ le2 jo2, c = rfW D ad nd sl sr sd ag lo lw hg ct mt sm th tn lev (le2) (jo2) wy) := by
  refine Ct.of (by decide +kernel) (Nat.le_of_ble_eq_true rfl) (fun X A hX M hr => ?_)
  subst hX
  refine G_iload_n (pc := 0) M dX7_tree_0 rfl ?_
  refine G_calls (pc := 1) M [] dX7_tree_1 ms_X7_64 (c_isStream D _ (fun j => ad (pn [] j)) s) trivial rfl rfl rfl rfl (Nat.le_of_ble_eq_true rfl) (Nat.le_of_ble_eq_true rfl) (Nat.le_of_ble_eq_true rfl) ⟨Nat.zero_le _, Nat.zero_le _⟩ (fun v c1 hq hlen => ?_)
  obtain ⟨rfl, rfl⟩ := hq
  try dsimp only [sall, List.set, Option.toList, List.cons_append, List.nil_append]
  refine G_if_eq (pc := 4) M 20 dX7_tree_4 (by decide) (fun h4 => ?_) (fun h4 => ?_)
  · rw [bz0 h4]
    refine G_iconst (pc := 20) (v := -1) M dX7_tree_20 (by decide +kernel) ?_
    exact G_iret M hr dX7_tree_21 rfl ⟨by first | rfl | simp, le, jo, rfl⟩
  · have hs := bz1 h4
    have hag := hag hs
    have hu := hu hs
    have hv := hv hs
    rw [hs]
    obtain ⟨si, hsi, rfl⟩ := okS_of hs
    rw [cl_nI (n := si) (by omega)] at hag hu hv
    refine G_iload_n (pc := 7) M dX7_tree_7 rfl ?_
    refine G_if_lt (pc := 8) M 20 dX7_tree_8 (by decide) (fun h8 => ?_) (fun h8 => ?_)
    · rw [rng_f1 h8]
      refine G_iconst (pc := 20) (v := -1) M dX7_tree_20 (by decide +kernel) ?_
      exact G_iret M hr dX7_tree_21 rfl ⟨by first | rfl | simp, le, jo, rfl⟩
    · refine G_iload_n (pc := 11) M dX7_tree_11 rfl ?_
      refine G_iconst (pc := 12) (v := 2) M dX7_tree_12 (by decide +kernel) ?_
      refine G_icmp_gt (pc := 13) M 20 dX7_tree_13 (by decide) (fun h13 => ?_) (fun h13 => ?_)
      · rw [rng_f2 (Int32.not_le.mpr h13)]
        refine G_iconst (pc := 20) (v := -1) M dX7_tree_20 (by decide +kernel) ?_
        exact G_iret M hr dX7_tree_21 rfl ⟨by first | rfl | simp, le, jo, rfl⟩
      · rw [rng_t h8 (Int32.not_lt.mp h13)]
        refine G_iload_n (pc := 16) M dX7_tree_16 rfl ?_
        refine G_if_ge (pc := 17) M 22 dX7_tree_17 (by decide) (fun h17 => ?_) (fun h17 => ?_)
        · rw [decide_eq_false (Int32.not_lt.mpr h17)]
          obtain ⟨p, hp, rfl⟩ := nI_of (Int32.not_lt.mpr h17)
          rw [cl_nI hp]
          refine G_aload_n (pc := 22) M dX7_tree_22 rfl ?_
          refine G_iload_n (pc := 23) M dX7_tree_23 rfl ?_
          refine G_aload_n (pc := 24) M dX7_tree_24 rfl ?_
          refine G_getf (pc := 25) M dX7_tree_25 fl_X7_23 rfl (by first | rfl | assumption) ?_
          refine G_iload_n (pc := 28) M dX7_tree_28 rfl ?_
          refine G_iaload (pc := 29) M dX7_tree_29 rfl (by first | assumption | exact vp_in_nI (by omega) (by omega)) ?_
          rw [cl_nI (by omega), hag]
          refine G_callv (pc := 30) M [0, 1, 5, 7, 8, 14, 15] dX7_tree_30 mv_X7_115 (c_join D _ (fun j => ad (pn [0, 1, 5, 7, 8, 14, 15] j)) _ nd ag lw hg le jo si g g u v hsi hg4 (by omega) hag hu hv rfl rfl rfl rfl rfl rfl) rfl ⟨rfl, rfl, rfl, rfl, rfl, rfl, rfl, trivial⟩ rfl rfl rfl rfl (Nat.le_of_ble_eq_true rfl) (Nat.le_of_ble_eq_true rfl) (Nat.le_of_ble_eq_true rfl) ⟨Nat.zero_le _, Nat.zero_le _⟩ (fun v c1 hq hlen => ?_)
          obtain ⟨rfl, rfl⟩ := hq
          try dsimp only [sall, List.set, Option.toList, List.cons_append, List.nil_append]
          rw [Nat.min_self]
          refine G_istore (pc := 33) M dX7_tree_33 (Nat.le_of_ble_eq_true rfl) ?_
          refine G_iconst (pc := 35) (v := 0) M dX7_tree_35 (by decide +kernel) ?_
          refine G_istore (pc := 36) M dX7_tree_36 (Nat.le_of_ble_eq_true rfl) ?_
          refine G_iconst (pc := 38) (v := 0) M dX7_tree_38 (by decide +kernel) ?_
          refine G_istore (pc := 39) M dX7_tree_39 (Nat.le_of_ble_eq_true rfl) ?_
          have := tr_loop M hr (ad := ad) (nd := nd) (sl := sl) (sr := sr) (sd := sd) (ag := ag) (lo := lo) (lw := lw) (hg := hg) (ct := ct) (mt := mt) (sm := sm) (th := th) (tn := tn) (lev := lev) (le := fun a => nI (lab u v g g a)) (jo := joF u v g jo g) (wy := wy) (w := w) (z4 := nd si - nI (cj u v g g)) (jn := fun t => jnd u v g (g - 1 - t)) hsi hg4 hp hag hu hv (fun t ht => by simp only [joF]; rw [if_pos (by omega)]) g 0 (Nat.le_refl g) (by omega)
          rw [Nat.sub_self] at this
          exact G_weak (fun r c q => ⟨q.1, _, _, q.2⟩) this
        · rw [decide_eq_true (Int32.not_le.mp h17)]
          refine G_iconst (pc := 20) (v := -1) M dX7_tree_20 (by decide +kernel) ?_
          exact G_iret M hr dX7_tree_21 rfl ⟨by first | rfl | simp, le, jo, rfl⟩
def cnn (u v : Nat → Nat) (g a b n : Nat) : Prop := lab u v g n a = lab u v g n b
theorem cnn_mono {u v : Nat → Nat} {g a b n : Nat} (h : cnn u v g a b n) : ∀ m, n ≤ m → cnn u v g a b m := by
  intro m hm
  induction m with
  | zero => rw [show n = 0 by omega] at h; exact h
  | succ m ih =>
    by_cases e : n = m + 1
    · rw [← e]; exact h
    · have := ih (by omega)
      unfold cnn at this ⊢
      rw [lab_succ]
      simp only [unN, this]
def sncQ (D : DD) (ad : Nat → Nat) (nd : Nat → Int32) (sl : Nat → Int32) (sr : Nat → Int32) (sd : Nat → Int64) (ag : Nat → Int32) (lo : Nat → Int32) (lw : Nat → Int32) (hg : Nat → Int32) (ct : Nat → Int32) (mt : Nat → Int32) (sm : Nat → Int64) (th : Nat → Int32) (tn : Nat → Int32) (lev : Int32) (le : Nat → Int32) (jo : Nat → Int32) (wy : Nat → Int32) (u v : Nat → Nat) (g a b : Nat) : Option Value → List va_E → Prop := fun r c => (∃ n : Nat, n ≤ g ∧ r = some (.int (nI n)) ∧ cnn u v g a b n ∧ ∀ m, m < n → ¬ cnn u v g a b m) ∧ ∃ le2 jo2, c = rfW D ad nd sl sr sd ag lo lw hg ct mt sm th tn lev (le2) (jo2) wy
theorem snc_loop {D : DD} {X : MX} {A : Nat → Prop} (M : CX D X A mi_X7_since.1.cls mi_X7_since.2.1 mi_X7_since.2.2.1 (miR mi_X7_since)) (hr : RT X mi_X7_since.2.2.2.1) {ad : Nat → Nat} {nd : Nat → Int32} {sl : Nat → Int32} {sr : Nat → Int32} {sd : Nat → Int64} {ag : Nat → Int32} {lo : Nat → Int32} {lw : Nat → Int32} {hg : Nat → Int32} {ct : Nat → Int32} {mt : Nat → Int32} {sm : Nat → Int64} {th : Nat → Int32} {tn : Nat → Int32} {lev : Int32} {le : Nat → Int32} {jo : Nat → Int32} {wy : Nat → Int32} {si g a b : Nat} {z4 : Int32} {u v : Nat → Nat} (hsi : si < 3) (ha : a < 64) (hb : b < 64) (hg4 : g ≤ 4200) (hag : ag si = nI g) (hu : ∀ t, t < g → lw (4200 * si + t) = nI (u t) ∧ u t < 64) (hv : ∀ t, t < g → hg (4200 * si + t) = nI (v t) ∧ v t < 64) : ∀ m fr to : Nat, fr ≤ to → to ≤ g → to - fr < m → cnn u v g a b to → (∀ n, n < fr → ¬ cnn u v g a b n) → ∀ (le1 jo1 : Nat → Int32) (z7 z8 z9 : Option Value),
    G D X A 0 0 (GQ D X A ad 17 (sncQ D ad nd sl sr sd ag lo lw hg ct mt sm th tn lev le jo wy u v g a b)) ad 62 [some (.ref (ad 0)), some (.int (nI si)), some (.int (nI a)), some (.int (nI b)), some (.int z4), some (.int (nI fr)), some (.int (nI to)), z7, z8, z9] [] (rfW D ad nd sl sr sd ag lo lw hg ct mt sm th tn lev (le1) (jo1) wy) := by
  intro m
  induction m with
  | zero => intro fr to _ _ h; omega
  | succ m ih =>
    intro fr to h1 h2 h3 h4 h5 le1 jo1 z7 z8 z9
    have rest : ∀ (c : Bool) (mid : Nat) (le1 jo1 : Nat → Int32) (z8 : Option Value), fr < to → fr ≤ mid → mid < to → (c = true → cnn u v g a b mid) → (c = false → ¬ cnn u v g a b mid) → G D X A 0 0 (GQ D X A ad 17 (sncQ D ad nd sl sr sd ag lo lw hg ct mt sm th tn lev le jo wy u v g a b)) ad 109 [some (.ref (ad 0)), some (.int (nI si)), some (.int (nI a)), some (.int (nI b)), some (.int z4), some (.int (nI fr)), some (.int (nI to)), some (.int (nI mid)), z8, some (.int (bz c))] [] (rfW D ad nd sl sr sd ag lo lw hg ct mt sm th tn lev (le1) (jo1) wy) := by
      intro c mid le1 jo1 z8 q1 q2 q3 q4 q5
      cases c with
      | true =>
        refine G_iload (pc := 109) M dX7_since_109 rfl ?_
        refine G_if_eq (pc := 111) M 119 dX7_since_111 (by decide) (fun h111 => ?_) (fun h111 => ?_)
        · exact absurd h111 (by decide)
        · refine G_iload (pc := 114) M dX7_since_114 rfl ?_
          refine G_goto (pc := 116) M 121 dX7_since_116 (by decide) ?_
          refine G_istore (pc := 121) M dX7_since_121 (Nat.le_of_ble_eq_true rfl) ?_
          refine G_iload (pc := 123) M dX7_since_123 rfl ?_
          refine G_if_eq (pc := 125) M 133 dX7_since_125 (by decide) (fun h125 => ?_) (fun h125 => ?_)
          · exact absurd h125 (by decide)
          · refine G_iload (pc := 128) M dX7_since_128 rfl ?_
            refine G_goto (pc := 130) M 137 dX7_since_130 (by decide) ?_
            refine G_istore (pc := 137) M dX7_since_137 (Nat.le_of_ble_eq_true rfl) ?_
            refine G_goto (pc := 139) M 62 dX7_since_139 (by decide) ?_
            exact ih fr mid (by omega) (by omega) (by omega) (q4 rfl) h5 le1 jo1 _ _ _
      | false =>
        refine G_iload (pc := 109) M dX7_since_109 rfl ?_
        refine G_if_eq (pc := 111) M 119 dX7_since_111 (by decide) (fun h111 => ?_) (fun h111 => ?_)
        · refine G_iload (pc := 119) M dX7_since_119 rfl ?_
          refine G_istore (pc := 121) M dX7_since_121 (Nat.le_of_ble_eq_true rfl) ?_
          refine G_iload (pc := 123) M dX7_since_123 rfl ?_
          refine G_if_eq (pc := 125) M 133 dX7_since_125 (by decide) (fun h125 => ?_) (fun h125 => ?_)
          · refine G_iload (pc := 133) M dX7_since_133 rfl ?_
            refine G_iconst (pc := 135) (v := 1) M dX7_since_135 (by decide +kernel) ?_
            refine G_iadd (pc := 136) M dX7_since_136 ?_
            refine G_istore (pc := 137) M dX7_since_137 (Nat.le_of_ble_eq_true rfl) ?_
            refine G_goto (pc := 139) M 62 dX7_since_139 (by decide) ?_
            rw [nI_1]
            exact ih (mid + 1) to (by omega) (by omega) (by omega) h4 (fun n hn hc => q5 rfl (cnn_mono hc mid (by omega))) le1 jo1 _ _ _
          · exact absurd rfl h125
        · exact absurd rfl h111
    refine G_iload (pc := 62) M dX7_since_62 rfl ?_
    refine G_iload (pc := 64) M dX7_since_64 rfl ?_
    refine G_icmp_ge (pc := 66) M 142 dX7_since_66 (by decide) (fun h66 => ?_) (fun h66 => ?_)
    · have e : fr = to := by
        have := (nI_leI (a := to) (b := fr) (by omega) (by omega)).mp h66
        omega
      subst e
      refine G_iload (pc := 142) M dX7_since_142 rfl ?_
      exact G_iret M hr dX7_since_144 rfl ⟨⟨fr, h2, rfl, h4, h5⟩, le1, jo1, rfl⟩
    · have hlt : fr < to := Nat.lt_of_not_le (fun q => h66 (nI_le q (by omega)))
      refine G_iload (pc := 69) M dX7_since_69 rfl ?_
      refine G_iload (pc := 71) M dX7_since_71 rfl ?_
      refine G_iadd (pc := 73) M dX7_since_73 ?_
      refine G_iconst (pc := 74) (v := 2) M dX7_since_74 (by decide +kernel) ?_
      refine G_idiv (pc := 75) M dX7_since_75 (by decide +kernel) ?_
      rw [nI_add, show (2 : Int32) = nI 2 from rfl, pk_div (by omega) (by omega) (by omega)]
      refine G_istore (pc := 76) M dX7_since_76 (Nat.le_of_ble_eq_true rfl) ?_
      refine G_aload_n (pc := 78) M dX7_since_78 rfl ?_
      refine G_iload_n (pc := 79) M dX7_since_79 rfl ?_
      refine G_iload (pc := 80) M dX7_since_80 rfl ?_
      refine G_callv (pc := 82) M [0, 1, 5, 7, 8, 14, 15] dX7_since_82 mv_X7_115 (c_join D _ (fun j => ad (pn [0, 1, 5, 7, 8, 14, 15] j)) _ nd ag lw hg le1 jo1 si g ((fr + to) / 2) u v hsi hg4 (by omega) hag hu hv rfl rfl rfl rfl rfl rfl) rfl ⟨rfl, rfl, rfl, rfl, rfl, rfl, rfl, trivial⟩ rfl rfl rfl rfl (Nat.le_of_ble_eq_true rfl) (Nat.le_of_ble_eq_true rfl) (Nat.le_of_ble_eq_true rfl) ⟨Nat.zero_le _, Nat.zero_le _⟩ (fun v c1 hq hlen => ?_)
      obtain ⟨rfl, rfl⟩ := hq
      try dsimp only [sall, List.set, Option.toList, List.cons_append, List.nil_append]
      rw [show min ((fr + to) / 2) g = (fr + to) / 2 by omega]
      have l1 := lab_le u v g ((fr + to) / 2) a
      have l2 := lab_le u v g ((fr + to) / 2) b
      refine G_istore (pc := 85) M dX7_since_85 (Nat.le_of_ble_eq_true rfl) ?_
      refine G_aload_n (pc := 87) M dX7_since_87 rfl ?_
      refine G_getf (pc := 88) M dX7_since_88 fl_X7_54 rfl (by first | rfl | assumption) ?_
      refine G_iload_n (pc := 91) M dX7_since_91 rfl ?_
      refine G_iaload (pc := 92) M dX7_since_92 rfl (by first | assumption | exact vp_in_nI (by omega) (by omega)) ?_
      rw [cl_nI (by omega)]
      refine G_aload_n (pc := 93) M dX7_since_93 rfl ?_
      refine G_getf (pc := 94) M dX7_since_94 fl_X7_54 rfl (by first | rfl | assumption) ?_
      refine G_iload_n (pc := 97) M dX7_since_97 rfl ?_
      refine G_iaload (pc := 98) M dX7_since_98 rfl (by first | assumption | exact vp_in_nI (by omega) (by omega)) ?_
      rw [cl_nI (by omega)]
      refine G_icmp_ne (pc := 99) M 106 dX7_since_99 (by decide) (fun h99 => ?_) (fun h99 => ?_)
      · refine G_iconst (pc := 106) (v := 0) M dX7_since_106 (by decide +kernel) ?_
        refine G_istore (pc := 107) M dX7_since_107 (Nat.le_of_ble_eq_true rfl) ?_
        first | exact rest false ((fr + to) / 2) _ _ _ hlt (by omega) (by omega) (fun q => by cases q) (fun _ w => h99 (by show nI _ = nI _; rw [w])) | exact rest true ((fr + to) / 2) _ _ _ hlt (by omega) (by omega) (fun _ => (nI_eq (by omega) (by omega)).mp (by simpa using h99)) (fun q => by cases q)
      · refine G_iconst (pc := 102) (v := 1) M dX7_since_102 (by decide +kernel) ?_
        refine G_goto (pc := 103) M 107 dX7_since_103 (by decide) ?_
        refine G_istore (pc := 107) M dX7_since_107 (Nat.le_of_ble_eq_true rfl) ?_
        first | exact rest false ((fr + to) / 2) _ _ _ hlt (by omega) (by omega) (fun q => by cases q) (fun _ w => h99 (by show nI _ = nI _; rw [w])) | exact rest true ((fr + to) / 2) _ _ _ hlt (by omega) (by omega) (fun _ => (nI_eq (by omega) (by omega)).mp (by simpa using h99)) (fun q => by cases q)
theorem r_since (D : DD) (l : Launch) (ad : Nat → Nat) (nd : Nat → Int32) (sl : Nat → Int32) (sr : Nat → Int32) (sd : Nat → Int64) (ag : Nat → Int32) (lo : Nat → Int32) (lw : Nat → Int32) (hg : Nat → Int32) (ct : Nat → Int32) (mt : Nat → Int32) (sm : Nat → Int64) (th : Nat → Int32) (tn : Nat → Int32) (lev : Int32) (le : Nat → Int32) (jo : Nat → Int32) (wy : Nat → Int32) (s a b : Int32) (nn : Nat) (hnd : okS s = true → nd s.toNatClampNeg = nI nn) (hn : nn ≤ 64) (g : Nat) (u v : Nat → Nat) (hg4 : g ≤ 4200) (hag : okS s = true → ag s.toNatClampNeg = nI g) (hu : okS s = true → ∀ t, t < g → lw (4200 * s.toNatClampNeg + t) = nI (u t) ∧ u t < 64) (hv : okS s = true → ∀ t, t < g → hg (4200 * s.toNatClampNeg + t) = nI (v t) ∧ v t < 64) : Ct D l mi_X7_since [.ref (ad 0), .int s, .int a, .int b] ad (rfW D ad nd sl sr sd ag lo lw hg ct mt sm th tn lev le jo wy) (fun r c => ((okN nd s a && okN nd s b) = false ∧ r = some (.int (-1)) ∧ c = rfW D ad nd sl sr sd ag lo lw hg ct mt sm th tn lev le jo wy) ∨ ((okN nd s a && okN nd s b) = true ∧ ¬ cnn u v g a.toNatClampNeg b.toNatClampNeg g ∧ r = some (.int (-2)) ∧ ∃ le2 jo2, c = rfW D ad nd sl sr sd ag lo lw hg ct mt sm th tn lev (le2) (jo2) wy) ∨ ((okN nd s a && okN nd s b) = true ∧ cnn u v g a.toNatClampNeg b.toNatClampNeg g ∧ sncQ D ad nd sl sr sd ag lo lw hg ct mt sm th tn lev le jo wy u v g a.toNatClampNeg b.toNatClampNeg r c)) := by
  refine Ct.of (by decide +kernel) (Nat.le_of_ble_eq_true rfl) (fun X A hX M hr => ?_)
  subst hX
  refine G_aload_n (pc := 0) M dX7_since_0 rfl ?_
  refine G_iload_n (pc := 1) M dX7_since_1 rfl ?_
  refine G_iload_n (pc := 2) M dX7_since_2 rfl ?_
  refine G_callv (pc := 3) M [0, 1] dX7_since_3 mv_X7_76 (c_isNode D _ (fun j => ad (pn [0, 1] j)) _ nd s a rfl) rfl ⟨rfl, rfl, trivial⟩ rfl rfl rfl rfl (Nat.le_of_ble_eq_true rfl) (Nat.le_of_ble_eq_true rfl) (Nat.le_of_ble_eq_true rfl) ⟨Nat.zero_le _, Nat.zero_le _⟩ (fun v c1 hq hlen => ?_)
  obtain ⟨rfl, rfl⟩ := hq
  try dsimp only [sall, List.set, Option.toList, List.cons_append, List.nil_append]
  refine G_if_eq (pc := 6) M 18 dX7_since_6 (by decide) (fun h6 => ?_) (fun h6 => ?_)
  · have e5 : (okN nd s a && okN nd s b) = false := by rw [bz0 h6]; rfl
    refine G_iconst (pc := 18) (v := -1) M dX7_since_18 (by decide +kernel) ?_
    exact G_iret M hr dX7_since_19 rfl (Or.inl ⟨e5, rfl, rfl⟩)
  · have h6b := bz1 h6
    refine G_aload_n (pc := 9) M dX7_since_9 rfl ?_
    refine G_iload_n (pc := 10) M dX7_since_10 rfl ?_
    refine G_iload_n (pc := 11) M dX7_since_11 rfl ?_
    refine G_callv (pc := 12) M [0, 1] dX7_since_12 mv_X7_76 (c_isNode D _ (fun j => ad (pn [0, 1] j)) _ nd s b rfl) rfl ⟨rfl, rfl, trivial⟩ rfl rfl rfl rfl (Nat.le_of_ble_eq_true rfl) (Nat.le_of_ble_eq_true rfl) (Nat.le_of_ble_eq_true rfl) ⟨Nat.zero_le _, Nat.zero_le _⟩ (fun v c1 hq hlen => ?_)
    obtain ⟨rfl, rfl⟩ := hq
    try dsimp only [sall, List.set, Option.toList, List.cons_append, List.nil_append]
    refine G_if_ne (pc := 15) M 20 dX7_since_15 (by decide) (fun h15 => ?_) (fun h15 => ?_)
    · have h15b := bz1 h15
      have e5 : (okN nd s a && okN nd s b) = true := by rw [h6b, h15b]; rfl
      have hs := okN_s h6b
      have hag := hag hs
      have hu := hu hs
      have hv := hv hs
      obtain ⟨si, k, hsi, rfl, hk, rfl⟩ := okN_of h6b (hnd hs) hn
      obtain ⟨si2, k2, -, -, hk2, rfl⟩ := okN_of h15b (hnd hs) hn
      rw [cl_nI (n := si) (by omega)] at hag hu hv
      rw [cl_nI (n := k) (by omega), cl_nI (n := k2) (by omega)]
      refine G_aload_n (pc := 20) M dX7_since_20 rfl ?_
      refine G_iload_n (pc := 21) M dX7_since_21 rfl ?_
      refine G_aload_n (pc := 22) M dX7_since_22 rfl ?_
      refine G_getf (pc := 23) M dX7_since_23 fl_X7_23 rfl (by first | rfl | assumption) ?_
      refine G_iload_n (pc := 26) M dX7_since_26 rfl ?_
      refine G_iaload (pc := 27) M dX7_since_27 rfl (by first | assumption | exact vp_in_nI (by omega) (by omega)) ?_
      rw [cl_nI (by omega), hag]
      refine G_callv (pc := 28) M [0, 1, 5, 7, 8, 14, 15] dX7_since_28 mv_X7_115 (c_join D _ (fun j => ad (pn [0, 1, 5, 7, 8, 14, 15] j)) _ nd ag lw hg le jo si g g u v hsi hg4 (by omega) hag hu hv rfl rfl rfl rfl rfl rfl) rfl ⟨rfl, rfl, rfl, rfl, rfl, rfl, rfl, trivial⟩ rfl rfl rfl rfl (Nat.le_of_ble_eq_true rfl) (Nat.le_of_ble_eq_true rfl) (Nat.le_of_ble_eq_true rfl) ⟨Nat.zero_le _, Nat.zero_le _⟩ (fun v c1 hq hlen => ?_)
      obtain ⟨rfl, rfl⟩ := hq
      try dsimp only [sall, List.set, Option.toList, List.cons_append, List.nil_append]
      rw [Nat.min_self]
      have l1 := lab_le u v g g k
      have l2 := lab_le u v g g k2
      refine G_istore (pc := 31) M dX7_since_31 (Nat.le_of_ble_eq_true rfl) ?_
      refine G_aload_n (pc := 33) M dX7_since_33 rfl ?_
      refine G_getf (pc := 34) M dX7_since_34 fl_X7_54 rfl (by first | rfl | assumption) ?_
      refine G_iload_n (pc := 37) M dX7_since_37 rfl ?_
      refine G_iaload (pc := 38) M dX7_since_38 rfl (by first | assumption | exact vp_in_nI (by omega) (by omega)) ?_
      rw [cl_nI (by omega)]
      refine G_aload_n (pc := 39) M dX7_since_39 rfl ?_
      refine G_getf (pc := 40) M dX7_since_40 fl_X7_54 rfl (by first | rfl | assumption) ?_
      refine G_iload_n (pc := 43) M dX7_since_43 rfl ?_
      refine G_iaload (pc := 44) M dX7_since_44 rfl (by first | assumption | exact vp_in_nI (by omega) (by omega)) ?_
      rw [cl_nI (by omega)]
      refine G_icmp_eq (pc := 45) M 51 dX7_since_45 (by decide) (fun h45 => ?_) (fun h45 => ?_)
      · have hc : cnn u v g k k2 g := (nI_eq (by omega) (by omega)).mp h45
        refine G_iconst (pc := 51) (v := 0) M dX7_since_51 (by decide +kernel) ?_
        refine G_istore (pc := 52) M dX7_since_52 (Nat.le_of_ble_eq_true rfl) ?_
        refine G_aload_n (pc := 54) M dX7_since_54 rfl ?_
        refine G_getf (pc := 55) M dX7_since_55 fl_X7_23 rfl (by first | rfl | assumption) ?_
        refine G_iload_n (pc := 58) M dX7_since_58 rfl ?_
        refine G_iaload (pc := 59) M dX7_since_59 rfl (by first | assumption | exact vp_in_nI (by omega) (by omega)) ?_
        rw [cl_nI (by omega), hag]
        refine G_istore (pc := 60) M dX7_since_60 (Nat.le_of_ble_eq_true rfl) ?_
        have := snc_loop M hr (ad := ad) (nd := nd) (sl := sl) (sr := sr) (sd := sd) (ag := ag) (lo := lo) (lw := lw) (hg := hg) (ct := ct) (mt := mt) (sm := sm) (th := th) (tn := tn) (lev := lev) (le := le) (jo := jo) (wy := wy) (z4 := nd si - nI (cj u v g g)) (a := k) (b := k2) hsi (by omega) (by omega) hg4 hag hu hv (g + 1) 0 g (by omega) (by omega) (by omega) hc (fun n hn => by omega) (fun a => nI (lab u v g g a)) (joF u v g jo g) none none none
        exact G_weak (fun r c q => Or.inr (Or.inr ⟨e5, hc, q⟩)) this
      · have hc : ¬ cnn u v g k k2 g := fun w => h45 (by show nI _ = nI _; rw [w])
        refine G_bipush (pc := 48) (v := -2) M dX7_since_48 (by decide +kernel) ?_
        exact G_iret M hr dX7_since_50 rfl (Or.inr (Or.inl ⟨e5, hc, rfl, _, _, rfl⟩))
    · have e5 : (okN nd s a && okN nd s b) = false := by rw [bz0 (b := okN nd s b) (by simpa using h15)]; simp
      refine G_iconst (pc := 18) (v := -1) M dX7_since_18 (by decide +kernel) ?_
      exact G_iret M hr dX7_since_19 rfl (Or.inl ⟨e5, rfl, rfl⟩)
theorem r_far (D : DD) (l : Launch) (ad : Nat → Nat) (nd : Nat → Int32) (sl : Nat → Int32) (sr : Nat → Int32) (sd : Nat → Int64) (ag : Nat → Int32) (lo : Nat → Int32) (lw : Nat → Int32) (hg : Nat → Int32) (ct : Nat → Int32) (mt : Nat → Int32) (sm : Nat → Int64) (th : Nat → Int32) (tn : Nat → Int32) (lev : Int32) (le : Nat → Int32) (jo : Nat → Int32) (wy : Nat → Int32) (s a b : Int32) (nn : Nat) (hnd : okS s = true → nd s.toNatClampNeg = nI nn) (hn : nn ≤ 64) (ts : Nat) (x y p : Nat → Nat) (hts : ts ≤ 4200) (htn : okS s = true → tn s.toNatClampNeg = nI ts) (hp : okS s = true → ∀ i, i < ts → th (4200 * s.toNatClampNeg + i) = nI (p i) ∧ p i < 12600 ∧ lw (p i) = nI (x i) ∧ x i < 64 ∧ hg (p i) = nI (y i) ∧ y i < 64) : Ct D l mi_X7_far [.ref (ad 0), .int s, .int a, .int b] ad (rfW D ad nd sl sr sd ag lo lw hg ct mt sm th tn lev le jo wy) (fun r c => r = some (.int (bif okN nd s a && okN nd s b then (if outW x y ts b.toNatClampNeg 64 (wy0 a.toNatClampNeg) b.toNatClampNeg < 0 then -2 else outW x y ts b.toNatClampNeg 64 (wy0 a.toNatClampNeg) b.toNatClampNeg) else -1)) ∧ ∃ wy2, c = rfW D ad nd sl sr sd ag lo lw hg ct mt sm th tn lev le jo (wy2)) := by
  refine Ct.of (by decide +kernel) (Nat.le_of_ble_eq_true rfl) (fun X A hX M hr => ?_)
  subst hX
  refine G_aload_n (pc := 0) M dX7_far_0 rfl ?_
  refine G_iload_n (pc := 1) M dX7_far_1 rfl ?_
  refine G_iload_n (pc := 2) M dX7_far_2 rfl ?_
  refine G_callv (pc := 3) M [0, 1] dX7_far_3 mv_X7_76 (c_isNode D _ (fun j => ad (pn [0, 1] j)) _ nd s a rfl) rfl ⟨rfl, rfl, trivial⟩ rfl rfl rfl rfl (Nat.le_of_ble_eq_true rfl) (Nat.le_of_ble_eq_true rfl) (Nat.le_of_ble_eq_true rfl) ⟨Nat.zero_le _, Nat.zero_le _⟩ (fun v c1 hq hlen => ?_)
  obtain ⟨rfl, rfl⟩ := hq
  try dsimp only [sall, List.set, Option.toList, List.cons_append, List.nil_append]
  refine G_if_eq (pc := 6) M 18 dX7_far_6 (by decide) (fun h6 => ?_) (fun h6 => ?_)
  · rw [bz0 h6]
    refine G_iconst (pc := 18) (v := -1) M dX7_far_18 (by decide +kernel) ?_
    exact G_iret M hr dX7_far_19 rfl ⟨rfl, wy, rfl⟩
  · have h6b := bz1 h6
    rw [h6b]
    refine G_aload_n (pc := 9) M dX7_far_9 rfl ?_
    refine G_iload_n (pc := 10) M dX7_far_10 rfl ?_
    refine G_iload_n (pc := 11) M dX7_far_11 rfl ?_
    refine G_callv (pc := 12) M [0, 1] dX7_far_12 mv_X7_76 (c_isNode D _ (fun j => ad (pn [0, 1] j)) _ nd s b rfl) rfl ⟨rfl, rfl, trivial⟩ rfl rfl rfl rfl (Nat.le_of_ble_eq_true rfl) (Nat.le_of_ble_eq_true rfl) (Nat.le_of_ble_eq_true rfl) ⟨Nat.zero_le _, Nat.zero_le _⟩ (fun v c1 hq hlen => ?_)
    obtain ⟨rfl, rfl⟩ := hq
    try dsimp only [sall, List.set, Option.toList, List.cons_append, List.nil_append]
    refine G_if_ne (pc := 15) M 20 dX7_far_15 (by decide) (fun h15 => ?_) (fun h15 => ?_)
    · have h15b := bz1 h15
      rw [h15b]
      have hs := okN_s h6b
      have htn := htn hs
      have hp := hp hs
      obtain ⟨si, k, hsi, rfl, hk, rfl⟩ := okN_of h6b (hnd hs) hn
      obtain ⟨si2, k2, -, -, hk2, rfl⟩ := okN_of h15b (hnd hs) hn
      rw [cl_nI (n := si) (by omega)] at htn hp
      rw [cl_nI (n := k) (by omega), cl_nI (n := k2) (by omega)]
      refine G_aload_n (pc := 20) M dX7_far_20 rfl ?_
      refine G_iload_n (pc := 21) M dX7_far_21 rfl ?_
      refine G_iload_n (pc := 22) M dX7_far_22 rfl ?_
      refine G_iload_n (pc := 23) M dX7_far_23 rfl ?_
      refine G_callv (pc := 24) M [0, 7, 8, 12, 13, 16] dX7_far_24 mv_X7_83 (c_shortest D _ (fun j => ad (pn [0, 7, 8, 12, 13, 16] j)) _ lw hg th tn wy si k k2 ts x y p hsi (by omega) (by omega) hts htn hp rfl rfl rfl rfl rfl) rfl ⟨rfl, rfl, rfl, rfl, rfl, rfl, trivial⟩ rfl rfl rfl rfl (Nat.le_of_ble_eq_true rfl) (Nat.le_of_ble_eq_true rfl) (Nat.le_of_ble_eq_true rfl) ⟨Nat.zero_le _, Nat.zero_le _⟩ (fun v c1 hq hlen => ?_)
      obtain ⟨rfl, rfl⟩ := hq
      try dsimp only [sall, List.set, Option.toList, List.cons_append, List.nil_append]
      refine G_istore (pc := 27) M dX7_far_27 (Nat.le_of_ble_eq_true rfl) ?_
      refine G_iload (pc := 29) M dX7_far_29 rfl ?_
      refine G_if_ge (pc := 31) M 39 dX7_far_31 (by decide) (fun h31 => ?_) (fun h31 => ?_)
      · rw [if_neg (Int32.not_lt.mpr h31)]
        refine G_iload (pc := 39) M dX7_far_39 rfl ?_
        exact G_iret M hr dX7_far_41 rfl ⟨rfl, _, rfl⟩
      · rw [if_pos (Int32.not_le.mp h31)]
        refine G_bipush (pc := 34) (v := -2) M dX7_far_34 (by decide +kernel) ?_
        refine G_goto (pc := 36) M 41 dX7_far_36 (by decide) ?_
        exact G_iret M hr dX7_far_41 rfl ⟨rfl, _, rfl⟩
    · rw [bz0 (b := okN nd s b) (by simpa using h15)]
      refine G_iconst (pc := 18) (v := -1) M dX7_far_18 (by decide +kernel) ?_
      exact G_iret M hr dX7_far_19 rfl ⟨rfl, wy, rfl⟩
theorem sm_loop {D : DD} {X : MX} {A : Nat → Prop} (M : CX D X A mi_X7_same.1.cls mi_X7_same.2.1 mi_X7_same.2.2.1 (miR mi_X7_same)) (hr : RT X mi_X7_same.2.2.2.1) {ad : Nat → Nat} {nd : Nat → Int32} {sl : Nat → Int32} {sr : Nat → Int32} {sd : Nat → Int64} {ag : Nat → Int32} {lo : Nat → Int32} {lw : Nat → Int32} {hg : Nat → Int32} {ct : Nat → Int32} {mt : Nat → Int32} {sm : Nat → Int64} {th : Nat → Int32} {tn : Nat → Int32} {lev : Int32} {le : Nat → Int32} {jo : Nat → Int32} {wy : Nat → Int32} {si oi : Nat} (hsi : si < 3) (hoi : oi < 3) : ∀ m k : Nat, k ≤ 1920 → 1920 - k < m → alkB (fun j => sm (1920 * si + j)) (fun j => sm (1920 * oi + j)) k = true →
    G D X A 0 0 (GQ D X A ad 17 (fun r c => r = some (.int (bz (alkB (fun j => sm (1920 * si + j)) (fun j => sm (1920 * oi + j)) 1920))) ∧ c = rfW D ad nd sl sr sd ag lo lw hg ct mt sm th tn lev le jo wy)) ad 30 [some (.ref (ad 0)), some (.int (nI si)), some (.int (nI oi)), some (.int (nI k))] [] (rfW D ad nd sl sr sd ag lo lw hg ct mt sm th tn lev le jo wy) := by
  have ixE : ∀ s k : Nat, (1920 : Int32) * nI s + nI k = nI (1920 * s + k) := fun s k => by rw [n1920, pk_mul, nI_add]
  intro m
  induction m with
  | zero => intro k _ h; omega
  | succ m ih =>
    intro k hk hm ha
    refine G_iload_n (pc := 30) M dX7_same_30 rfl ?_
    refine G_sipush (pc := 31) (v := 1920) M dX7_same_31 (by decide +kernel) ?_
    refine G_icmp_ge (pc := 34) M 73 dX7_same_34 (by decide) (fun h34 => ?_) (fun h34 => ?_)
    · have e1 : k = 1920 := by
        have := (nI_leI (a := 1920) (b := k) (by omega) (by omega)).mp h34
        omega
      subst e1
      refine G_iconst (pc := 73) (v := 1) M dX7_same_73 (by decide +kernel) ?_
      exact G_iret M hr dX7_same_74 rfl ⟨by rw [ha]; rfl, rfl⟩
    · have hke : k < 1920 := Nat.lt_of_not_le (fun q => h34 (nI_le q (by omega)))
      refine G_aload_n (pc := 37) M dX7_same_37 rfl ?_
      refine G_getf (pc := 38) M dX7_same_38 fl_X7_41 rfl (by first | rfl | assumption) ?_
      refine G_sipush (pc := 41) (v := 1920) M dX7_same_41 (by decide +kernel) ?_
      refine G_iload_n (pc := 44) M dX7_same_44 rfl ?_
      refine G_imul (pc := 45) M dX7_same_45 ?_
      refine G_iload_n (pc := 46) M dX7_same_46 rfl ?_
      refine G_iadd (pc := 47) M dX7_same_47 ?_
      rw [ixE]
      refine G_laload (pc := 48) M dX7_same_48 rfl (by first | assumption | exact vp_in_nI (by omega) (by omega)) ?_
      rw [cl_nI (by omega)]
      refine G_aload_n (pc := 49) M dX7_same_49 rfl ?_
      refine G_getf (pc := 50) M dX7_same_50 fl_X7_41 rfl (by first | rfl | assumption) ?_
      refine G_sipush (pc := 53) (v := 1920) M dX7_same_53 (by decide +kernel) ?_
      refine G_iload_n (pc := 56) M dX7_same_56 rfl ?_
      refine G_imul (pc := 57) M dX7_same_57 ?_
      refine G_iload_n (pc := 58) M dX7_same_58 rfl ?_
      refine G_iadd (pc := 59) M dX7_same_59 ?_
      rw [ixE]
      refine G_laload (pc := 60) M dX7_same_60 rfl (by first | assumption | exact vp_in_nI (by omega) (by omega)) ?_
      rw [cl_nI (by omega)]
      refine G_lcmp (pc := 61) M dX7_same_61 ?_
      refine G_if_eq (pc := 62) M 67 dX7_same_62 (by decide) (fun h62 => ?_) (fun h62 => ?_)
      · rw [lg_cmp_eq] at h62
        have ha1 : alkB (fun j => sm (1920 * si + j)) (fun j => sm (1920 * oi + j)) (k + 1) = true := by simp [alkB, ha, h62]
        refine G_iinc (pc := 67) (v := 1) M dX7_same_67 rfl (by decide +kernel) (Nat.le_of_ble_eq_true rfl) ?_
        refine G_goto (pc := 70) M 30 dX7_same_70 (by decide) ?_
        rw [nI_1]
        exact ih (k + 1) (by omega) (by omega) ha1
      · rw [lg_cmp_eq] at h62
        have ha1 : alkB (fun j => sm (1920 * si + j)) (fun j => sm (1920 * oi + j)) (k + 1) = false := by simp [alkB, h62]
        refine G_iconst (pc := 65) (v := 0) M dX7_same_65 (by decide +kernel) ?_
        exact G_iret M hr dX7_same_66 rfl ⟨by rw [alkB_mono _ _ ha1 1920 (by omega)]; rfl, rfl⟩
theorem r_same (D : DD) (l : Launch) (ad : Nat → Nat) (nd : Nat → Int32) (sl : Nat → Int32) (sr : Nat → Int32) (sd : Nat → Int64) (ag : Nat → Int32) (lo : Nat → Int32) (lw : Nat → Int32) (hg : Nat → Int32) (ct : Nat → Int32) (mt : Nat → Int32) (sm : Nat → Int64) (th : Nat → Int32) (tn : Nat → Int32) (lev : Int32) (le : Nat → Int32) (jo : Nat → Int32) (wy : Nat → Int32) (s o : Int32) : Ct D l mi_X7_same [.ref (ad 0), .int s, .int o] ad (rfW D ad nd sl sr sd ag lo lw hg ct mt sm th tn lev le jo wy) (fun r c => r = some (.int (bif okS s && okS o then (bif apB nd sl sr sd s.toNatClampNeg o.toNatClampNeg then -3 else bz (alkB (fun j => sm (1920 * s.toNatClampNeg + j)) (fun j => sm (1920 * o.toNatClampNeg + j)) 1920)) else -1)) ∧ c = rfW D ad nd sl sr sd ag lo lw hg ct mt sm th tn lev le jo wy) := by
  refine Ct.of (by decide +kernel) (Nat.le_of_ble_eq_true rfl) (fun X A hX M hr => ?_)
  subst hX
  refine G_iload_n (pc := 0) M dX7_same_0 rfl ?_
  refine G_calls (pc := 1) M [] dX7_same_1 ms_X7_64 (c_isStream D _ (fun j => ad (pn [] j)) s) trivial rfl rfl rfl rfl (Nat.le_of_ble_eq_true rfl) (Nat.le_of_ble_eq_true rfl) (Nat.le_of_ble_eq_true rfl) ⟨Nat.zero_le _, Nat.zero_le _⟩ (fun v c1 hq hlen => ?_)
  obtain ⟨rfl, rfl⟩ := hq
  try dsimp only [sall, List.set, Option.toList, List.cons_append, List.nil_append]
  refine G_if_eq (pc := 4) M 14 dX7_same_4 (by decide) (fun h4 => ?_) (fun h4 => ?_)
  · rw [bz0 h4]
    refine G_iconst (pc := 14) (v := -1) M dX7_same_14 (by decide +kernel) ?_
    exact G_iret M hr dX7_same_15 rfl ⟨rfl, rfl⟩
  · have hs := bz1 h4
    rw [hs]
    refine G_iload_n (pc := 7) M dX7_same_7 rfl ?_
    refine G_calls (pc := 8) M [] dX7_same_8 ms_X7_64 (c_isStream D _ (fun j => ad (pn [] j)) o) trivial rfl rfl rfl rfl (Nat.le_of_ble_eq_true rfl) (Nat.le_of_ble_eq_true rfl) (Nat.le_of_ble_eq_true rfl) ⟨Nat.zero_le _, Nat.zero_le _⟩ (fun v c1 hq hlen => ?_)
    obtain ⟨rfl, rfl⟩ := hq
    try dsimp only [sall, List.set, Option.toList, List.cons_append, List.nil_append]
    refine G_if_ne (pc := 11) M 16 dX7_same_11 (by decide) (fun h11 => ?_) (fun h11 => ?_)
    · have ho := bz1 h11
      rw [ho]
      obtain ⟨si, hsi, rfl⟩ := okS_of hs
      obtain ⟨oi, hoi, rfl⟩ := okS_of ho
      rw [cl_nI (n := si) (by omega), cl_nI (n := oi) (by omega)]
      refine G_aload_n (pc := 16) M dX7_same_16 rfl ?_
      refine G_iload_n (pc := 17) M dX7_same_17 rfl ?_
      refine G_iload_n (pc := 18) M dX7_same_18 rfl ?_
      refine G_callv (pc := 19) M [0, 1, 2, 3, 4] dX7_same_19 mv_X7_105 (c_isApart D _ (fun j => ad (pn [0, 1, 2, 3, 4] j)) _ nd sl sr sd si oi hsi hoi rfl rfl rfl rfl) rfl ⟨rfl, rfl, rfl, rfl, rfl, trivial⟩ rfl rfl rfl rfl (Nat.le_of_ble_eq_true rfl) (Nat.le_of_ble_eq_true rfl) (Nat.le_of_ble_eq_true rfl) ⟨Nat.zero_le _, Nat.zero_le _⟩ (fun v c1 hq hlen => ?_)
      obtain ⟨rfl, rfl⟩ := hq
      try dsimp only [sall, List.set, Option.toList, List.cons_append, List.nil_append]
      refine G_if_eq (pc := 22) M 28 dX7_same_22 (by decide) (fun h22 => ?_) (fun h22 => ?_)
      · rw [bz0 h22]
        simp only [Bool.and_self, cond_true, cond_false]
        refine G_iconst (pc := 28) (v := 0) M dX7_same_28 (by decide +kernel) ?_
        refine G_istore_n (pc := 29) M dX7_same_29 (Nat.le_of_ble_eq_true rfl) ?_
        exact sm_loop M hr hsi hoi 1921 0 (by omega) (by omega) rfl
      · rw [bz1 h22]
        refine G_bipush (pc := 25) (v := -3) M dX7_same_25 (by decide +kernel) ?_
        exact G_iret M hr dX7_same_27 rfl ⟨rfl, rfl⟩
    · rw [bz0 (b := okS o) (by simpa using h11)]
      refine G_iconst (pc := 14) (v := -1) M dX7_same_14 (by decide +kernel) ?_
      exact G_iret M hr dX7_same_15 rfl ⟨rfl, rfl⟩
