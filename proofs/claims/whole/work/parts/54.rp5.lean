--NORM
/-! the reference: begin -/
def zI (f : Nat → Int32) (o n : Nat) : Nat → Int32 := fun j => if o ≤ j ∧ j < o + n then 0 else f j
def zL (f : Nat → Int64) (o n : Nat) : Nat → Int64 := fun j => if o ≤ j ∧ j < o + n then 0 else f j
theorem zI_0 (f : Nat → Int32) (o : Nat) : zI f o 0 = f := by funext j; simp only [zI]; rw [if_neg (by omega)]
theorem zL_0 (f : Nat → Int64) (o : Nat) : zL f o 0 = f := by funext j; simp only [zL]; rw [if_neg (by omega)]
theorem zI_step (f : Nat → Int32) (o n : Nat) : upd (zI f o n) (o + n) 0 = zI f o (n + 1) := by
  funext j
  simp only [upd, zI]
  by_cases h : j = o + n
  · rw [if_pos h, if_pos (by omega)]
  · rw [if_neg h]
    by_cases h2 : o ≤ j ∧ j < o + n
    · rw [if_pos h2, if_pos (by omega)]
    · rw [if_neg h2, if_neg (by omega)]
theorem zL_step (f : Nat → Int64) (o n : Nat) : vp_updL (zL f o n) (o + n) 0 = zL f o (n + 1) := by
  funext j
  simp only [vp_updL, zL]
  by_cases h : j = o + n
  · rw [if_pos h, if_pos (by omega)]
  · rw [if_neg h]
    by_cases h2 : o ≤ j ∧ j < o + n
    · rw [if_pos h2, if_pos (by omega)]
    · rw [if_neg h2, if_neg (by omega)]
theorem ixE (s k : Nat) : (1920 : Int32) * nI s + nI k = nI (1920 * s + k) := by rw [n1920, pk_mul, nI_add]
abbrev bgL (ad : Nat → Nat) (si : Nat) (n k t : Int32) (wd : Int64) (x7 x8 x9 : Option Value) : List (Option Value) := [some (.ref (ad 0)), some (.int (nI si)), some (.int n), some (.int k), some (.int t), some (.long wd), none, x7, x8, x9]
theorem rb_l2 {D : DD} {X : MX} {A : Nat → Prop} (M : CX D X A mi_X7_begin.1.cls mi_X7_begin.2.1 mi_X7_begin.2.2.1 (miR mi_X7_begin)) (hr : RT X mi_X7_begin.2.2.2.1) {ad : Nat → Nat} {nd : Nat → Int32} {sl : Nat → Int32} {sr : Nat → Int32} {sd : Nat → Int64} {ag : Nat → Int32} {lo : Nat → Int32} {lw : Nat → Int32} {hg : Nat → Int32} {ct : Nat → Int32} {mt : Nat → Int32} {sm : Nat → Int64} {th : Nat → Int32} {tn : Nat → Int32} {lev : Int32} {le : Nat → Int32} {jo : Nat → Int32} {wy : Nat → Int32} {si : Nat} {n k t had : Int32} {wd : Int64} {z7 : Option Value} (hsi : si < 3) : ∀ m j : Nat, j ≤ 1920 → 1920 - j < m →
    G D X A 0 0 (GQ D X A ad 17 (fun r c => r = some (.int had) ∧ c = rfW D ad nd sl sr sd ag lo lw hg ct mt (zL sm (1920 * si) 1920) th tn lev le jo wy)) ad 172 (bgL ad si n k t wd z7 (some (.int had)) (some (.int (nI j)))) [] (rfW D ad nd sl sr sd ag lo lw hg ct mt (zL sm (1920 * si) j) th tn lev le jo wy) := by
  intro m
  induction m with
  | zero => intro j _ h; omega
  | succ m ih =>
    intro j hj hm
    refine G_iload (pc := 172) M dX7_begin_172 rfl ?_
    refine G_sipush (pc := 174) (v := 1920) M dX7_begin_174 (by decide +kernel) ?_
    refine G_icmp_ge (pc := 177) M 200 dX7_begin_177 (by decide) (fun h177 => ?_) (fun h177 => ?_)
    · have e : j = 1920 := by
        have := (nI_leI (a := 1920) (b := j) (by omega) (by omega)).mp h177
        omega
      subst e
      refine G_iload (pc := 200) M dX7_begin_200 rfl ?_
      exact G_iret M hr dX7_begin_202 (Eq.trans (b := 17) rfl rfl) ⟨rfl, rfl⟩
    · have hjl : j < 1920 := Nat.lt_of_not_le (fun q => h177 (nI_le q (by omega)))
      refine G_aload_n (pc := 180) M dX7_begin_180 rfl ?_
      refine G_getf (pc := 181) M dX7_begin_181 fl_X7_41 rfl (by first | rfl | assumption) ?_
      refine G_sipush (pc := 184) (v := 1920) M dX7_begin_184 (by decide +kernel) ?_
      refine G_iload_n (pc := 187) M dX7_begin_187 rfl ?_
      refine G_imul (pc := 188) M dX7_begin_188 ?_
      refine G_iload (pc := 189) M dX7_begin_189 rfl ?_
      refine G_iadd (pc := 191) M dX7_begin_191 ?_
      refine G_lconst (pc := 192) (v := 0) M dX7_begin_192 (by decide +kernel) ?_
      rw [ixE]
      refine G_lastore (pc := 193) M dX7_begin_193 rfl (by first | assumption | exact vp_in_nI (by omega) (by omega)) ?_
      try dsimp only [List.set]
      rw [cl_nI (by omega), zL_step]
      refine G_iinc (pc := 194) (v := 1) M dX7_begin_194 rfl (by decide +kernel) (Nat.le_of_ble_eq_true rfl) ?_
      refine G_goto (pc := 197) M 172 dX7_begin_197 (by decide) ?_
      rw [nI_1]
      exact ih (j + 1) (by omega) (by omega)
theorem rb_l1 {D : DD} {X : MX} {A : Nat → Prop} (M : CX D X A mi_X7_begin.1.cls mi_X7_begin.2.1 mi_X7_begin.2.2.1 (miR mi_X7_begin)) (hr : RT X mi_X7_begin.2.2.2.1) {ad : Nat → Nat} {nd : Nat → Int32} {sl : Nat → Int32} {sr : Nat → Int32} {sd : Nat → Int64} {ag : Nat → Int32} {lo : Nat → Int32} {lw : Nat → Int32} {hg : Nat → Int32} {ct : Nat → Int32} {mt : Nat → Int32} {sm : Nat → Int64} {th : Nat → Int32} {tn : Nat → Int32} {lev : Int32} {le : Nat → Int32} {jo : Nat → Int32} {wy : Nat → Int32} {si : Nat} {n k t had : Int32} {wd : Int64} {z7 : Option Value} (hsi : si < 3) : ∀ m j : Nat, j ≤ 64 → 64 - j < m →
    G D X A 0 0 (GQ D X A ad 17 (fun r c => r = some (.int had) ∧ c = rfW D ad nd sl sr sd ag lo lw hg (zI ct (64 * si) 64) (zI mt (64 * si) 64) (zL sm (1920 * si) 1920) th tn lev le jo wy)) ad 130 (bgL ad si n k t wd z7 (some (.int had)) (some (.int (nI j)))) [] (rfW D ad nd sl sr sd ag lo lw hg (zI ct (64 * si) j) (zI mt (64 * si) j) sm th tn lev le jo wy) := by
  intro m
  induction m with
  | zero => intro j _ h; omega
  | succ m ih =>
    intro j hj hm
    refine G_iload (pc := 130) M dX7_begin_130 rfl ?_
    refine G_bipush (pc := 132) (v := 64) M dX7_begin_132 (by decide +kernel) ?_
    refine G_icmp_ge (pc := 134) M 169 dX7_begin_134 (by decide) (fun h134 => ?_) (fun h134 => ?_)
    · have e : j = 64 := by
        have := (nI_leI (a := 64) (b := j) (by omega) (by omega)).mp h134
        omega
      subst e
      refine G_iconst (pc := 169) (v := 0) M dX7_begin_169 (by decide +kernel) ?_
      refine G_istore (pc := 170) M dX7_begin_170 (Nat.le_of_ble_eq_true rfl) ?_
      have := rb_l2 M hr (ad := ad) (nd := nd) (sl := sl) (sr := sr) (sd := sd) (ag := ag) (lo := lo) (lw := lw) (hg := hg) (ct := zI ct (64 * si) 64) (mt := zI mt (64 * si) 64) (sm := sm) (th := th) (tn := tn) (lev := lev) (le := le) (jo := jo) (wy := wy) (n := n) (k := k) (t := t) (had := had) (wd := wd) (z7 := z7) hsi 1921 0 (by omega) (by omega)
      rw [zL_0] at this
      exact this
    · have hjl : j < 64 := Nat.lt_of_not_le (fun q => h134 (nI_le q (by omega)))
      refine G_aload_n (pc := 137) M dX7_begin_137 rfl ?_
      refine G_getf (pc := 138) M dX7_begin_138 fl_X7_35 rfl (by first | rfl | assumption) ?_
      refine G_bipush (pc := 141) (v := 64) M dX7_begin_141 (by decide +kernel) ?_
      refine G_iload_n (pc := 143) M dX7_begin_143 rfl ?_
      refine G_imul (pc := 144) M dX7_begin_144 ?_
      refine G_iload (pc := 145) M dX7_begin_145 rfl ?_
      refine G_iadd (pc := 147) M dX7_begin_147 ?_
      refine G_iconst (pc := 148) (v := 0) M dX7_begin_148 (by decide +kernel) ?_
      rw [ixA]
      refine G_iastore (pc := 149) M dX7_begin_149 rfl (by first | assumption | exact vp_in_nI (by omega) (by omega)) ?_
      try dsimp only [List.set]
      rw [cl_nI (by omega), zI_step]
      refine G_aload_n (pc := 150) M dX7_begin_150 rfl ?_
      refine G_getf (pc := 151) M dX7_begin_151 fl_X7_38 rfl (by first | rfl | assumption) ?_
      refine G_bipush (pc := 154) (v := 64) M dX7_begin_154 (by decide +kernel) ?_
      refine G_iload_n (pc := 156) M dX7_begin_156 rfl ?_
      refine G_imul (pc := 157) M dX7_begin_157 ?_
      refine G_iload (pc := 158) M dX7_begin_158 rfl ?_
      refine G_iadd (pc := 160) M dX7_begin_160 ?_
      refine G_iconst (pc := 161) (v := 0) M dX7_begin_161 (by decide +kernel) ?_
      rw [ixA]
      refine G_iastore (pc := 162) M dX7_begin_162 rfl (by first | assumption | exact vp_in_nI (by omega) (by omega)) ?_
      try dsimp only [List.set]
      rw [cl_nI (by omega), zI_step]
      refine G_iinc (pc := 163) (v := 1) M dX7_begin_163 rfl (by decide +kernel) (Nat.le_of_ble_eq_true rfl) ?_
      refine G_goto (pc := 166) M 130 dX7_begin_166 (by decide) ?_
      rw [nI_1]
      exact ih (j + 1) (by omega) (by omega)
theorem r_begin (D : DD) (l : Launch) (ad : Nat → Nat) (nd : Nat → Int32) (sl : Nat → Int32) (sr : Nat → Int32) (sd : Nat → Int64) (ag : Nat → Int32) (lo : Nat → Int32) (lw : Nat → Int32) (hg : Nat → Int32) (ct : Nat → Int32) (mt : Nat → Int32) (sm : Nat → Int64) (th : Nat → Int32) (tn : Nat → Int32) (lev : Int32) (le : Nat → Int32) (jo : Nat → Int32) (wy : Nat → Int32) (s n k t : Int32) (wd : Int64) : Ct D l mi_X7_begin [.ref (ad 0), .int s, .int n, .int k, .int t, .long wd] ad (rfW D ad nd sl sr sd ag lo lw hg ct mt sm th tn lev le jo wy) (fun r c => (bgB s n k t = false ∧ r = some (.int (-1)) ∧ c = rfW D ad nd sl sr sd ag lo lw hg ct mt sm th tn lev le jo wy) ∨ (bgB s n k t = true ∧ ∃ si, si < 3 ∧ s = nI si ∧ r = some (.int (ag si)) ∧ c = rfW D ad (upd nd si n) (upd sl si k) (upd sr si t) (vp_updL sd si wd) (upd ag si 0) (upd lo si 0) lw hg (zI ct (64 * si) 64) (zI mt (64 * si) 64) (zL sm (1920 * si) 1920) th (upd tn si 0) lev le jo wy)) := by
  refine Ct.of (by decide +kernel) (Nat.le_of_ble_eq_true rfl) (fun X A hX M hr => ?_)
  subst hX
  have e0 : ∀ z : Option Value, bgB s n k t = false → G D X A 0 0 (GQ D X A ad 17 (fun r c => (bgB s n k t = false ∧ r = some (.int (-1)) ∧ c = rfW D ad nd sl sr sd ag lo lw hg ct mt sm th tn lev le jo wy) ∨ (bgB s n k t = true ∧ ∃ si, si < 3 ∧ s = nI si ∧ r = some (.int (ag si)) ∧ c = rfW D ad (upd nd si n) (upd sl si k) (upd sr si t) (vp_updL sd si wd) (upd ag si 0) (upd lo si 0) lw hg (zI ct (64 * si) 64) (zI mt (64 * si) 64) (zL sm (1920 * si) 1920) th (upd tn si 0) lev le jo wy))) ad 59 [some (.ref (ad 0)), some (.int s), some (.int n), some (.int k), some (.int t), some (.long wd), none, z, none, none] [.int 0] (rfW D ad nd sl sr sd ag lo lw hg ct mt sm th tn lev le jo wy) := by
    intro z hb
    refine G_istore (pc := 59) M dX7_begin_59 (Nat.le_of_ble_eq_true rfl) ?_
    refine G_iload (pc := 61) M dX7_begin_61 rfl ?_
    refine G_if_ne (pc := 63) M 68 dX7_begin_63 (by decide) (fun h63 => ?_) (fun h63 => ?_)
    · exact absurd rfl h63
    · refine G_iconst (pc := 66) (v := -1) M dX7_begin_66 (by decide +kernel) ?_
      exact G_iret M hr dX7_begin_67 (Eq.trans (b := 17) rfl rfl) (Or.inl ⟨hb, rfl, rfl⟩)
  have e1 : ∀ z : Option Value, bgB s n k t = true → G D X A 0 0 (GQ D X A ad 17 (fun r c => (bgB s n k t = false ∧ r = some (.int (-1)) ∧ c = rfW D ad nd sl sr sd ag lo lw hg ct mt sm th tn lev le jo wy) ∨ (bgB s n k t = true ∧ ∃ si, si < 3 ∧ s = nI si ∧ r = some (.int (ag si)) ∧ c = rfW D ad (upd nd si n) (upd sl si k) (upd sr si t) (vp_updL sd si wd) (upd ag si 0) (upd lo si 0) lw hg (zI ct (64 * si) 64) (zI mt (64 * si) 64) (zL sm (1920 * si) 1920) th (upd tn si 0) lev le jo wy))) ad 59 [some (.ref (ad 0)), some (.int s), some (.int n), some (.int k), some (.int t), some (.long wd), none, z, none, none] [.int 1] (rfW D ad nd sl sr sd ag lo lw hg ct mt sm th tn lev le jo wy) := by
    intro z hb
    have hs : okS s = true := by
      have := hb
      simp only [bgB, Bool.and_eq_true] at this
      exact this.1.1.1
    obtain ⟨si, hsi, rfl⟩ := okS_of hs
    refine G_istore (pc := 59) M dX7_begin_59 (Nat.le_of_ble_eq_true rfl) ?_
    refine G_iload (pc := 61) M dX7_begin_61 rfl ?_
    refine G_if_ne (pc := 63) M 68 dX7_begin_63 (by decide) (fun h63 => ?_) (fun h63 => ?_)
    · refine G_aload_n (pc := 68) M dX7_begin_68 rfl ?_
      refine G_getf (pc := 69) M dX7_begin_69 fl_X7_23 rfl (by first | rfl | assumption) ?_
      refine G_iload_n (pc := 72) M dX7_begin_72 rfl ?_
      refine G_iaload (pc := 73) M dX7_begin_73 rfl (by first | assumption | exact vp_in_nI (by omega) (by omega)) ?_
      rw [cl_nI (by omega)]
      refine G_istore (pc := 74) M dX7_begin_74 (Nat.le_of_ble_eq_true rfl) ?_
      refine G_aload_n (pc := 76) M dX7_begin_76 rfl ?_
      refine G_getf (pc := 77) M dX7_begin_77 fl_X7_7 rfl (by first | rfl | assumption) ?_
      refine G_iload_n (pc := 80) M dX7_begin_80 rfl ?_
      refine G_iload_n (pc := 81) M dX7_begin_81 rfl ?_
      refine G_iastore (pc := 82) M dX7_begin_82 rfl (by first | assumption | exact vp_in_nI (by omega) (by omega)) ?_
      try dsimp only [List.set]
      rw [cl_nI (by omega)]
      refine G_aload_n (pc := 83) M dX7_begin_83 rfl ?_
      refine G_getf (pc := 84) M dX7_begin_84 fl_X7_13 rfl (by first | rfl | assumption) ?_
      refine G_iload_n (pc := 87) M dX7_begin_87 rfl ?_
      refine G_iload_n (pc := 88) M dX7_begin_88 rfl ?_
      refine G_iastore (pc := 89) M dX7_begin_89 rfl (by first | assumption | exact vp_in_nI (by omega) (by omega)) ?_
      try dsimp only [List.set]
      rw [cl_nI (by omega)]
      refine G_aload_n (pc := 90) M dX7_begin_90 rfl ?_
      refine G_getf (pc := 91) M dX7_begin_91 fl_X7_16 rfl (by first | rfl | assumption) ?_
      refine G_iload_n (pc := 94) M dX7_begin_94 rfl ?_
      refine G_iload (pc := 95) M dX7_begin_95 rfl ?_
      refine G_iastore (pc := 97) M dX7_begin_97 rfl (by first | assumption | exact vp_in_nI (by omega) (by omega)) ?_
      try dsimp only [List.set]
      rw [cl_nI (by omega)]
      refine G_aload_n (pc := 98) M dX7_begin_98 rfl ?_
      refine G_getf (pc := 99) M dX7_begin_99 fl_X7_19 rfl (by first | rfl | assumption) ?_
      refine G_iload_n (pc := 102) M dX7_begin_102 rfl ?_
      refine G_lload (pc := 103) M dX7_begin_103 rfl ?_
      refine G_lastore (pc := 105) M dX7_begin_105 rfl (by first | assumption | exact vp_in_nI (by omega) (by omega)) ?_
      try dsimp only [List.set]
      rw [cl_nI (by omega)]
      refine G_aload_n (pc := 106) M dX7_begin_106 rfl ?_
      refine G_getf (pc := 107) M dX7_begin_107 fl_X7_23 rfl (by first | rfl | assumption) ?_
      refine G_iload_n (pc := 110) M dX7_begin_110 rfl ?_
      refine G_iconst (pc := 111) (v := 0) M dX7_begin_111 (by decide +kernel) ?_
      refine G_iastore (pc := 112) M dX7_begin_112 rfl (by first | assumption | exact vp_in_nI (by omega) (by omega)) ?_
      try dsimp only [List.set]
      rw [cl_nI (by omega)]
      refine G_aload_n (pc := 113) M dX7_begin_113 rfl ?_
      refine G_getf (pc := 114) M dX7_begin_114 fl_X7_26 rfl (by first | rfl | assumption) ?_
      refine G_iload_n (pc := 117) M dX7_begin_117 rfl ?_
      refine G_iconst (pc := 118) (v := 0) M dX7_begin_118 (by decide +kernel) ?_
      refine G_iastore (pc := 119) M dX7_begin_119 rfl (by first | assumption | exact vp_in_nI (by omega) (by omega)) ?_
      try dsimp only [List.set]
      rw [cl_nI (by omega)]
      refine G_aload_n (pc := 120) M dX7_begin_120 rfl ?_
      refine G_getf (pc := 121) M dX7_begin_121 fl_X7_47 rfl (by first | rfl | assumption) ?_
      refine G_iload_n (pc := 124) M dX7_begin_124 rfl ?_
      refine G_iconst (pc := 125) (v := 0) M dX7_begin_125 (by decide +kernel) ?_
      refine G_iastore (pc := 126) M dX7_begin_126 rfl (by first | assumption | exact vp_in_nI (by omega) (by omega)) ?_
      try dsimp only [List.set]
      rw [cl_nI (by omega)]
      refine G_iconst (pc := 127) (v := 0) M dX7_begin_127 (by decide +kernel) ?_
      refine G_istore (pc := 128) M dX7_begin_128 (Nat.le_of_ble_eq_true rfl) ?_
      have := rb_l1 M hr (ad := ad) (nd := upd nd si n) (sl := upd sl si k) (sr := upd sr si t) (sd := vp_updL sd si wd) (ag := upd ag si 0) (lo := upd lo si 0) (lw := lw) (hg := hg) (ct := ct) (mt := mt) (sm := sm) (th := th) (tn := upd tn si 0) (lev := lev) (le := le) (jo := jo) (wy := wy) (n := n) (k := k) (t := t) (had := ag si) (wd := wd) (z7 := some (.int 1)) hsi 65 0 (by omega) (by omega)
      rw [zI_0, zI_0] at this
      exact G_weak (fun r c q => Or.inr ⟨hb, si, hsi, rfl, q.1, q.2⟩) this
    · exact absurd h63 (by decide)
  refine G_iload_n (pc := 0) M dX7_begin_0 rfl ?_
  refine G_calls (pc := 1) M [] dX7_begin_1 ms_X7_64 (c_isStream D _ (fun j => ad (pn [] j)) s) trivial rfl rfl rfl rfl (Nat.le_of_ble_eq_true rfl) (Nat.le_of_ble_eq_true rfl) (Nat.le_of_ble_eq_true rfl) ⟨Nat.zero_le _, Nat.zero_le _⟩ (fun v c1 hq hlen => ?_)
  obtain ⟨rfl, rfl⟩ := hq
  try dsimp only [sall, List.set, Option.toList, List.cons_append, List.nil_append]
  refine G_if_eq (pc := 4) M 58 dX7_begin_4 (by decide) (fun h4 => ?_) (fun h4 => ?_)
  · have hb : bgB s n k t = false := by simp [bgB, bz0 h4]
    refine G_iconst (pc := 58) (v := 0) M dX7_begin_58 (by decide +kernel) ?_
    first | exact e0 _ hb | exact e1 _ hb
  · have hs := bz1 h4
    refine G_iload_n (pc := 7) M dX7_begin_7 rfl ?_
    refine G_iconst (pc := 8) (v := 2) M dX7_begin_8 (by decide +kernel) ?_
    refine G_icmp_lt (pc := 9) M 58 dX7_begin_9 (by decide) (fun h9 => ?_) (fun h9 => ?_)
    · have hb : bgB s n k t = false := by simp [bgB, rng_f1 (hi := 64) h9]
      refine G_iconst (pc := 58) (v := 0) M dX7_begin_58 (by decide +kernel) ?_
      first | exact e0 _ hb | exact e1 _ hb
    · refine G_iload_n (pc := 12) M dX7_begin_12 rfl ?_
      refine G_bipush (pc := 13) (v := 64) M dX7_begin_13 (by decide +kernel) ?_
      refine G_icmp_gt (pc := 15) M 58 dX7_begin_15 (by decide) (fun h15 => ?_) (fun h15 => ?_)
      · have hb : bgB s n k t = false := by simp [bgB, rng_f2 (lo := 2) (Int32.not_le.mpr h15)]
        refine G_iconst (pc := 58) (v := 0) M dX7_begin_58 (by decide +kernel) ?_
        first | exact e0 _ hb | exact e1 _ hb
      · have hn := rng_t h9 (Int32.not_lt.mp h15)
        refine G_iload_n (pc := 18) M dX7_begin_18 rfl ?_
        refine G_iconst (pc := 19) (v := 1) M dX7_begin_19 (by decide +kernel) ?_
        refine G_icmp_lt (pc := 20) M 58 dX7_begin_20 (by decide) (fun h20 => ?_) (fun h20 => ?_)
        · have hb : bgB s n k t = false := by simp [bgB, rng_f1 (hi := 16) h20]
          refine G_iconst (pc := 58) (v := 0) M dX7_begin_58 (by decide +kernel) ?_
          first | exact e0 _ hb | exact e1 _ hb
        · refine G_iload_n (pc := 23) M dX7_begin_23 rfl ?_
          refine G_bipush (pc := 24) (v := 16) M dX7_begin_24 (by decide +kernel) ?_
          refine G_icmp_gt (pc := 26) M 58 dX7_begin_26 (by decide) (fun h26 => ?_) (fun h26 => ?_)
          · have hb : bgB s n k t = false := by simp [bgB, rng_f2 (lo := 1) (Int32.not_le.mpr h26)]
            refine G_iconst (pc := 58) (v := 0) M dX7_begin_58 (by decide +kernel) ?_
            first | exact e0 _ hb | exact e1 _ hb
          · have hk := rng_t h20 (Int32.not_lt.mp h26)
            refine G_iload (pc := 29) M dX7_begin_29 rfl ?_
            refine G_iconst (pc := 31) (v := 1) M dX7_begin_31 (by decide +kernel) ?_
            refine G_icmp_eq (pc := 32) M 54 dX7_begin_32 (by decide) (fun h32 => ?_) (fun h32 => ?_)
            · have hb : bgB s n k t = true := by simp [bgB, hs, hn, hk, okT, h32]
              refine G_iconst (pc := 54) (v := 1) M dX7_begin_54 (by decide +kernel) ?_
              refine G_goto (pc := 55) M 59 dX7_begin_55 (by decide) ?_
              first | exact e0 _ hb | exact e1 _ hb
            · refine G_iload (pc := 35) M dX7_begin_35 rfl ?_
              refine G_iconst (pc := 37) (v := 3) M dX7_begin_37 (by decide +kernel) ?_
              refine G_icmp_eq (pc := 38) M 54 dX7_begin_38 (by decide) (fun h38 => ?_) (fun h38 => ?_)
              · have hb : bgB s n k t = true := by simp [bgB, hs, hn, hk, okT, h38]
                refine G_iconst (pc := 54) (v := 1) M dX7_begin_54 (by decide +kernel) ?_
                refine G_goto (pc := 55) M 59 dX7_begin_55 (by decide) ?_
                first | exact e0 _ hb | exact e1 _ hb
              · refine G_iload (pc := 41) M dX7_begin_41 rfl ?_
                refine G_iconst (pc := 43) (v := 5) M dX7_begin_43 (by decide +kernel) ?_
                refine G_icmp_eq (pc := 44) M 54 dX7_begin_44 (by decide) (fun h44 => ?_) (fun h44 => ?_)
                · have hb : bgB s n k t = true := by simp [bgB, hs, hn, hk, okT, h44]
                  refine G_iconst (pc := 54) (v := 1) M dX7_begin_54 (by decide +kernel) ?_
                  refine G_goto (pc := 55) M 59 dX7_begin_55 (by decide) ?_
                  first | exact e0 _ hb | exact e1 _ hb
                · refine G_iload (pc := 47) M dX7_begin_47 rfl ?_
                  refine G_bipush (pc := 49) (v := 7) M dX7_begin_49 (by decide +kernel) ?_
                  refine G_icmp_ne (pc := 51) M 58 dX7_begin_51 (by decide) (fun h51 => ?_) (fun h51 => ?_)
                  · have hb : bgB s n k t = false := by simp [bgB, okT, h32, h38, h44, h51]
                    refine G_iconst (pc := 58) (v := 0) M dX7_begin_58 (by decide +kernel) ?_
                    first | exact e0 _ hb | exact e1 _ hb
                  · have hb : bgB s n k t = true := by
                      have : t = 7 := by simpa using h51
                      simp [bgB, hs, hn, hk, okT, this]
                    refine G_iconst (pc := 54) (v := 1) M dX7_begin_54 (by decide +kernel) ?_
                    refine G_goto (pc := 55) M 59 dX7_begin_55 (by decide) ?_
                    first | exact e0 _ hb | exact e1 _ hb
