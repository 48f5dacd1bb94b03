/-! the reference: change -/
def rowAdd (S : Nat → Int64) (p : Nat) (key t : Int64) : Nat → Int64 :=
  let S1 := vp_updL S p (S p + t)
  let S2 := vp_updL S1 (p + 1) (S1 (p + 1) + t * key)
  vp_updL S2 (p + 2) (S2 (p + 2) + t * key * key)
/-- the sums of a stream when n levels of an arc of x, y are changed by t -/
def chgR (S : Nat → Int64) (x y : Nat) (key t : Int64) : Nat → Nat → Int64
  | 0 => S
  | n + 1 => rowAdd (rowAdd (chgR S x y key t n) (30 * x + 3 * n) key t) (30 * y + 3 * n) key (-t)
theorem n1920 : (1920 : Int32) = nI 1920 := rfl
theorem ixB (s x n : Nat) : (1920 : Int32) * nI s + 30 * nI x + 3 * nI n = nI (1920 * s + (30 * x + 3 * n)) := by
  rw [n1920, show (30 : Int32) = nI 30 from rfl, show (3 : Int32) = nI 3 from rfl, pk_mul, pk_mul, pk_mul, nI_add, nI_add, Nat.add_assoc]
theorem nI_2 (a : Nat) : nI a + 2 = nI (a + 2) := by rw [show (2 : Int32) = nI 2 from rfl, nI_add]
/-- writing into the window of a stream -/
def winL (w s : Nat) (F S : Nat → Int64) : Nat → Int64 := fun j => if w * s ≤ j ∧ j < w * s + w then S (j - w * s) else F j
theorem winL_at {w s : Nat} {F S : Nat → Int64} {i : Nat} (h : i < w) : winL w s F S (w * s + i) = S i := by
  simp only [winL]
  rw [if_pos (by omega)]
  congr 1
  omega
theorem winL_upd {w s : Nat} {F S : Nat → Int64} {i : Nat} (h : i < w) (v : Int64) : vp_updL (winL w s F S) (w * s + i) v = winL w s F (vp_updL S i v) := by
  funext j
  simp only [winL, vp_updL]
  by_cases e : j = w * s + i
  · subst e
    rw [if_pos rfl, if_pos (by omega), if_pos (by omega)]
  · rw [if_neg e]
    by_cases h2 : w * s ≤ j ∧ j < w * s + w
    · rw [if_pos h2, if_pos h2, if_neg (by omega)]
    · rw [if_neg h2, if_neg h2]
theorem winL_id (w s : Nat) (F : Nat → Int64) : winL w s F (fun j => F (w * s + j)) = F := by
  funext j
  simp only [winL]
  split
  · congr 1; omega
  · rfl
theorem chg_loop {D : DD} {X : MX} {A : Nat → Prop} (M : CX D X A mi_X7_change.1.cls mi_X7_change.2.1 mi_X7_change.2.2.1 (miR mi_X7_change)) (hr : RT X mi_X7_change.2.2.2.1) {ad : Nat → Nat} {fs : List Value} {sd sm S : Nat → Int64} {s x y top : Nat} {key t : Int64} (hs : s < 3) (hx : x < 64) (hy : y < 64) (ht : top ≤ 9) (hf10 : gt fs 10 = some (.ref (ad 2))) {o2 o3 : Option Value} : ∀ m n : Nat, n ≤ top + 1 → top + 1 - n < m → ∀ z1 z2 : Option Value,
    G D X A 0 0 (GQ D X A ad 3 (fun v cs => v = some (.int (nI top)) ∧ cs = [ob 7 fs, la D 3 sd, la D 5760 (winL 1920 s sm (chgR S x y key t (top + 1)))])) ad 49 [some (.ref (ad 0)), some (.int (nI s)), o2, o3, some (.long t), none, some (.int (nI x)), some (.int (nI y)), some (.long key), none, some (.int (nI top)), some (.int (nI n)), z1, z2] [] [ob 7 fs, la D 3 sd, la D 5760 (winL 1920 s sm (chgR S x y key t n))] := by
  intro m
  induction m with
  | zero => intro k _ h; omega
  | succ m ih =>
    intro n hn hm z1 z2
    refine G_iload (pc := 49) M dX7_change_49 rfl ?_
    refine G_iload (pc := 51) M dX7_change_51 rfl ?_
    refine G_icmp_gt (pc := 53) M 196 dX7_change_53 (by decide) (fun h53 => ?_) (fun h53 => ?_)
    · have e : n = top + 1 := by
        have := (nI_ltI (a := top) (b := n) (by omega) (by omega)).mp h53
        omega
      subst e
      refine G_iload (pc := 196) M dX7_change_196 rfl ?_
      exact G_iret M hr dX7_change_198 rfl ⟨rfl, rfl⟩
    · have hlt : n ≤ top := Nat.le_of_not_lt (fun q => h53 (nI_lt q (by omega)))
      refine G_sipush (pc := 56) (v := 1920) M dX7_change_56 (by decide +kernel) ?_
      refine G_iload_n (pc := 59) M dX7_change_59 rfl ?_
      refine G_imul (pc := 60) M dX7_change_60 ?_
      refine G_bipush (pc := 61) (v := 30) M dX7_change_61 (by decide +kernel) ?_
      refine G_iload (pc := 63) M dX7_change_63 rfl ?_
      refine G_imul (pc := 65) M dX7_change_65 ?_
      refine G_iadd (pc := 66) M dX7_change_66 ?_
      refine G_iconst (pc := 67) (v := 3) M dX7_change_67 (by decide +kernel) ?_
      refine G_iload (pc := 68) M dX7_change_68 rfl ?_
      refine G_imul (pc := 70) M dX7_change_70 ?_
      refine G_iadd (pc := 71) M dX7_change_71 ?_
      rw [ixB]
      refine G_istore (pc := 72) M dX7_change_72 (Nat.le_of_ble_eq_true rfl) ?_
      refine G_sipush (pc := 74) (v := 1920) M dX7_change_74 (by decide +kernel) ?_
      refine G_iload_n (pc := 77) M dX7_change_77 rfl ?_
      refine G_imul (pc := 78) M dX7_change_78 ?_
      refine G_bipush (pc := 79) (v := 30) M dX7_change_79 (by decide +kernel) ?_
      refine G_iload (pc := 81) M dX7_change_81 rfl ?_
      refine G_imul (pc := 83) M dX7_change_83 ?_
      refine G_iadd (pc := 84) M dX7_change_84 ?_
      refine G_iconst (pc := 85) (v := 3) M dX7_change_85 (by decide +kernel) ?_
      refine G_iload (pc := 86) M dX7_change_86 rfl ?_
      refine G_imul (pc := 88) M dX7_change_88 ?_
      refine G_iadd (pc := 89) M dX7_change_89 ?_
      rw [ixB]
      refine G_istore (pc := 90) M dX7_change_90 (Nat.le_of_ble_eq_true rfl) ?_
      refine G_aload_n (pc := 92) M dX7_change_92 rfl ?_
      refine G_getf (pc := 93) M dX7_change_93 fl_X7_41 rfl (by first | rfl | assumption) ?_
      refine G_iload (pc := 96) M dX7_change_96 rfl ?_
      first | refine G_dup2 (pc := 98) M dX7_change_98 rfl rfl ?_ | refine G_dup2L (pc := 98) M dX7_change_98 rfl ?_
      refine G_laload (pc := 99) M dX7_change_99 rfl (by first | assumption | exact vp_in_nI (by omega) (by omega)) ?_
      rw [cl_nI (by omega), winL_at (by omega)]
      refine G_lload (pc := 100) M dX7_change_100 rfl ?_
      refine G_ladd (pc := 102) M dX7_change_102 ?_
      refine G_lastore (pc := 103) M dX7_change_103 rfl (by first | assumption | exact vp_in_nI (by omega) (by omega)) ?_
      rw [cl_nI (by omega), winL_upd (by omega)]
      refine G_aload_n (pc := 104) M dX7_change_104 rfl ?_
      refine G_getf (pc := 105) M dX7_change_105 fl_X7_41 rfl (by first | rfl | assumption) ?_
      refine G_iload (pc := 108) M dX7_change_108 rfl ?_
      refine G_iconst (pc := 110) (v := 1) M dX7_change_110 (by decide +kernel) ?_
      refine G_iadd (pc := 111) M dX7_change_111 ?_
      rw [nI_1, Nat.add_assoc (1920 * s) (30 * x + 3 * n) 1]
      first | refine G_dup2 (pc := 112) M dX7_change_112 rfl rfl ?_ | refine G_dup2L (pc := 112) M dX7_change_112 rfl ?_
      refine G_laload (pc := 113) M dX7_change_113 rfl (by first | assumption | exact vp_in_nI (by omega) (by omega)) ?_
      rw [cl_nI (by omega), winL_at (by omega)]
      refine G_lload (pc := 114) M dX7_change_114 rfl ?_
      refine G_lload (pc := 116) M dX7_change_116 rfl ?_
      refine G_lmul (pc := 118) M dX7_change_118 ?_
      refine G_ladd (pc := 119) M dX7_change_119 ?_
      refine G_lastore (pc := 120) M dX7_change_120 rfl (by first | assumption | exact vp_in_nI (by omega) (by omega)) ?_
      rw [cl_nI (by omega), winL_upd (by omega)]
      refine G_aload_n (pc := 121) M dX7_change_121 rfl ?_
      refine G_getf (pc := 122) M dX7_change_122 fl_X7_41 rfl (by first | rfl | assumption) ?_
      refine G_iload (pc := 125) M dX7_change_125 rfl ?_
      refine G_iconst (pc := 127) (v := 2) M dX7_change_127 (by decide +kernel) ?_
      refine G_iadd (pc := 128) M dX7_change_128 ?_
      rw [nI_2, Nat.add_assoc (1920 * s) (30 * x + 3 * n) 2]
      first | refine G_dup2 (pc := 129) M dX7_change_129 rfl rfl ?_ | refine G_dup2L (pc := 129) M dX7_change_129 rfl ?_
      refine G_laload (pc := 130) M dX7_change_130 rfl (by first | assumption | exact vp_in_nI (by omega) (by omega)) ?_
      rw [cl_nI (by omega), winL_at (by omega)]
      refine G_lload (pc := 131) M dX7_change_131 rfl ?_
      refine G_lload (pc := 133) M dX7_change_133 rfl ?_
      refine G_lmul (pc := 135) M dX7_change_135 ?_
      refine G_lload (pc := 136) M dX7_change_136 rfl ?_
      refine G_lmul (pc := 138) M dX7_change_138 ?_
      refine G_ladd (pc := 139) M dX7_change_139 ?_
      refine G_lastore (pc := 140) M dX7_change_140 rfl (by first | assumption | exact vp_in_nI (by omega) (by omega)) ?_
      rw [cl_nI (by omega), winL_upd (by omega)]
      refine G_aload_n (pc := 141) M dX7_change_141 rfl ?_
      refine G_getf (pc := 142) M dX7_change_142 fl_X7_41 rfl (by first | rfl | assumption) ?_
      refine G_iload (pc := 145) M dX7_change_145 rfl ?_
      first | refine G_dup2 (pc := 147) M dX7_change_147 rfl rfl ?_ | refine G_dup2L (pc := 147) M dX7_change_147 rfl ?_
      refine G_laload (pc := 148) M dX7_change_148 rfl (by first | assumption | exact vp_in_nI (by omega) (by omega)) ?_
      rw [cl_nI (by omega), winL_at (by omega)]
      refine G_lload (pc := 149) M dX7_change_149 rfl ?_
      refine G_lsub (pc := 151) M dX7_change_151 ?_
      rw [Int64.sub_eq_add_neg]
      refine G_lastore (pc := 152) M dX7_change_152 rfl (by first | assumption | exact vp_in_nI (by omega) (by omega)) ?_
      rw [cl_nI (by omega), winL_upd (by omega)]
      refine G_aload_n (pc := 153) M dX7_change_153 rfl ?_
      refine G_getf (pc := 154) M dX7_change_154 fl_X7_41 rfl (by first | rfl | assumption) ?_
      refine G_iload (pc := 157) M dX7_change_157 rfl ?_
      refine G_iconst (pc := 159) (v := 1) M dX7_change_159 (by decide +kernel) ?_
      refine G_iadd (pc := 160) M dX7_change_160 ?_
      rw [nI_1, Nat.add_assoc (1920 * s) (30 * y + 3 * n) 1]
      first | refine G_dup2 (pc := 161) M dX7_change_161 rfl rfl ?_ | refine G_dup2L (pc := 161) M dX7_change_161 rfl ?_
      refine G_laload (pc := 162) M dX7_change_162 rfl (by first | assumption | exact vp_in_nI (by omega) (by omega)) ?_
      rw [cl_nI (by omega), winL_at (by omega)]
      refine G_lload (pc := 163) M dX7_change_163 rfl ?_
      refine G_lload (pc := 165) M dX7_change_165 rfl ?_
      refine G_lmul (pc := 167) M dX7_change_167 ?_
      refine G_lsub (pc := 168) M dX7_change_168 ?_
      rw [Int64.sub_eq_add_neg, ← Int64.neg_mul]
      refine G_lastore (pc := 169) M dX7_change_169 rfl (by first | assumption | exact vp_in_nI (by omega) (by omega)) ?_
      rw [cl_nI (by omega), winL_upd (by omega)]
      refine G_aload_n (pc := 170) M dX7_change_170 rfl ?_
      refine G_getf (pc := 171) M dX7_change_171 fl_X7_41 rfl (by first | rfl | assumption) ?_
      refine G_iload (pc := 174) M dX7_change_174 rfl ?_
      refine G_iconst (pc := 176) (v := 2) M dX7_change_176 (by decide +kernel) ?_
      refine G_iadd (pc := 177) M dX7_change_177 ?_
      rw [nI_2, Nat.add_assoc (1920 * s) (30 * y + 3 * n) 2]
      first | refine G_dup2 (pc := 178) M dX7_change_178 rfl rfl ?_ | refine G_dup2L (pc := 178) M dX7_change_178 rfl ?_
      refine G_laload (pc := 179) M dX7_change_179 rfl (by first | assumption | exact vp_in_nI (by omega) (by omega)) ?_
      rw [cl_nI (by omega), winL_at (by omega)]
      refine G_lload (pc := 180) M dX7_change_180 rfl ?_
      refine G_lload (pc := 182) M dX7_change_182 rfl ?_
      refine G_lmul (pc := 184) M dX7_change_184 ?_
      refine G_lload (pc := 185) M dX7_change_185 rfl ?_
      refine G_lmul (pc := 187) M dX7_change_187 ?_
      refine G_lsub (pc := 188) M dX7_change_188 ?_
      rw [Int64.sub_eq_add_neg, ← Int64.neg_mul, ← Int64.neg_mul]
      refine G_lastore (pc := 189) M dX7_change_189 rfl (by first | assumption | exact vp_in_nI (by omega) (by omega)) ?_
      rw [cl_nI (by omega), winL_upd (by omega)]
      refine G_iinc (pc := 190) (v := 1) M dX7_change_190 rfl (by decide +kernel) (Nat.le_of_ble_eq_true rfl) ?_
      refine G_goto (pc := 193) M 49 dX7_change_193 (by decide) ?_
      have := ih (n + 1) (by omega) (by omega)
      rw [← nI_1 n] at this
      exact this _ _
def arcKey (x y : Nat) : Int64 := 64 * (nI x).toInt64 + (nI y).toInt64
theorem c_change (D : DD) (l : Launch) (ad : Nat → Nat) (fs : List Value) (sd sm : Nat → Int64) (s a b : Nat) (t : Int64) (hs : s < 3) (ha : a < 64) (hb : b < 64) (hf3 : gt fs 3 = some (.ref (ad 1))) (hf10 : gt fs 10 = some (.ref (ad 2))) : Ct D l mi_X7_change [.ref (ad 0), .int (nI s), .int (nI a), .int (nI b), .long t] ad [ob 7 fs, la D 3 sd, la D 5760 sm] (fun v c => v = some (.int (nI (lvK (sd s) (arcKey (min a b) (max a b))))) ∧ c = [ob 7 fs, la D 3 sd, la D 5760 (winL 1920 s sm (chgR (fun j => sm (1920 * s + j)) (min a b) (max a b) (arcKey (min a b) (max a b)) t (lvK (sd s) (arcKey (min a b) (max a b)) + 1)))]) := by
  have key : ∀ x y : Nat, x < 64 → y < 64 → min a b = x → max a b = y → ∀ (X : MX) (A : Nat → Prop), CX D X A mi_X7_change.1.cls mi_X7_change.2.1 mi_X7_change.2.2.1 (miR mi_X7_change) → RT X mi_X7_change.2.2.2.1 → ∀ z : Option Value, G D X A 0 0 (GQ D X A ad 3 (fun v c => v = some (.int (nI (lvK (sd s) (arcKey (min a b) (max a b))))) ∧ c = [ob 7 fs, la D 3 sd, la D 5760 (winL 1920 s sm (chgR (fun j => sm (1920 * s + j)) (min a b) (max a b) (arcKey (min a b) (max a b)) t (lvK (sd s) (arcKey (min a b) (max a b)) + 1)))])) ad 24 [some (.ref (ad 0)), some (.int (nI s)), some (.int (nI a)), some (.int (nI b)), some (.long t), none, some (.int (nI x)), some (.int (nI y)), none, none, none, none, none, none] [] [ob 7 fs, la D 3 sd, la D 5760 sm] := by
    intro x y hx hy e1 e2 X A M hr z
    rw [e1, e2]
    refine G_ldc2 (pc := 24) M dX7_change_24 cn_X7_97 ?_
    refine G_iload (pc := 27) M dX7_change_27 rfl ?_
    refine G_i2l (pc := 29) M dX7_change_29 ?_
    refine G_lmul (pc := 30) M dX7_change_30 ?_
    refine G_iload (pc := 31) M dX7_change_31 rfl ?_
    refine G_i2l (pc := 33) M dX7_change_33 ?_
    refine G_ladd (pc := 34) M dX7_change_34 ?_
    refine G_lstore (pc := 35) M dX7_change_35 (Nat.le_of_ble_eq_true rfl) ?_
    refine G_aload_n (pc := 37) M dX7_change_37 rfl ?_
    refine G_iload_n (pc := 38) M dX7_change_38 rfl ?_
    refine G_lload (pc := 39) M dX7_change_39 rfl ?_
    refine G_callv (pc := 41) M [0, 1] dX7_change_41 mv_X7_99 (c_levelOfR D _ (fun j => ad (pn [0, 1] j)) fs sd s (arcKey x y) hs hf3) rfl ⟨rfl, rfl, trivial⟩ rfl rfl rfl rfl (Nat.le_of_ble_eq_true rfl) (Nat.le_of_ble_eq_true rfl) (Nat.le_of_ble_eq_true rfl) ⟨Nat.zero_le _, Nat.zero_le _⟩ (fun v c1 hq hlen => ?_)
    obtain ⟨rfl, rfl⟩ := hq
    refine G_istore (pc := 44) M dX7_change_44 (Nat.le_of_ble_eq_true rfl) ?_
    refine G_iconst (pc := 46) (v := 0) M dX7_change_46 (by decide +kernel) ?_
    refine G_istore (pc := 47) M dX7_change_47 (Nat.le_of_ble_eq_true rfl) ?_
    have := chg_loop M hr (sd := sd) (sm := sm) (S := fun j => sm (1920 * s + j)) (s := s) (x := x) (y := y) (top := lvK (sd s) (arcKey x y)) (key := arcKey x y) (t := t) hs hx hy (lvF_le _ _) hf10 (o2 := some (.int (nI a))) (o3 := some (.int (nI b))) 11 0 (by omega) (by have := lvF_le (mixZ (sd s) (arcKey x y)) 9; simp only [lvK]; omega) none none
    rw [chgR, winL_id] at this
    exact this
  refine Ct.of (by decide +kernel) (Nat.le_of_ble_eq_true rfl) (fun X A hX M hr => ?_)
  subst hX
  refine G_iload_n (pc := 0) M dX7_change_0 rfl ?_
  refine G_iload_n (pc := 1) M dX7_change_1 rfl ?_
  refine G_icmp_ge (pc := 2) M 9 dX7_change_2 (by decide) (fun h2 => ?_) (fun h2 => ?_)
  · have e := (nI_leI (a := b) (b := a) (by omega) (by omega)).mp h2
    refine G_iload_n (pc := 9) M dX7_change_9 rfl ?_
    refine G_istore (pc := 10) M dX7_change_10 (Nat.le_of_ble_eq_true rfl) ?_
    refine G_iload_n (pc := 12) M dX7_change_12 rfl ?_
    refine G_iload_n (pc := 13) M dX7_change_13 rfl ?_
    refine G_icmp_ge (pc := 14) M 21 dX7_change_14 (by decide) (fun h14 => ?_) (fun h14 => ?_)
    · refine G_iload_n (pc := 21) M dX7_change_21 rfl ?_
      refine G_istore (pc := 22) M dX7_change_22 (Nat.le_of_ble_eq_true rfl) ?_
      first | exact key b a (by omega) (by omega) (by omega) (by omega) X A M hr none | exact key a b (by omega) (by omega) (by omega) (by omega) X A M hr none | exact absurd h14 h2 | exact absurd h2 h14
    · refine G_iload_n (pc := 17) M dX7_change_17 rfl ?_
      refine G_goto (pc := 18) M 22 dX7_change_18 (by decide) ?_
      refine G_istore (pc := 22) M dX7_change_22 (Nat.le_of_ble_eq_true rfl) ?_
      first | exact key b a (by omega) (by omega) (by omega) (by omega) X A M hr none | exact key a b (by omega) (by omega) (by omega) (by omega) X A M hr none | exact absurd h14 h2 | exact absurd h2 h14
  · have e := Nat.lt_of_not_le (fun q => h2 (nI_le (a := b) (b := a) q (by omega)))
    refine G_iload_n (pc := 5) M dX7_change_5 rfl ?_
    refine G_goto (pc := 6) M 10 dX7_change_6 (by decide) ?_
    refine G_istore (pc := 10) M dX7_change_10 (Nat.le_of_ble_eq_true rfl) ?_
    refine G_iload_n (pc := 12) M dX7_change_12 rfl ?_
    refine G_iload_n (pc := 13) M dX7_change_13 rfl ?_
    refine G_icmp_ge (pc := 14) M 21 dX7_change_14 (by decide) (fun h14 => ?_) (fun h14 => ?_)
    · refine G_iload_n (pc := 21) M dX7_change_21 rfl ?_
      refine G_istore (pc := 22) M dX7_change_22 (Nat.le_of_ble_eq_true rfl) ?_
      first | exact key b a (by omega) (by omega) (by omega) (by omega) X A M hr none | exact key a b (by omega) (by omega) (by omega) (by omega) X A M hr none | exact absurd h14 h2 | exact absurd h2 h14
    · refine G_iload_n (pc := 17) M dX7_change_17 rfl ?_
      refine G_goto (pc := 18) M 22 dX7_change_18 (by decide) ?_
      refine G_istore (pc := 22) M dX7_change_22 (Nat.le_of_ble_eq_true rfl) ?_
      first | exact key b a (by omega) (by omega) (by omega) (by omega) X A M hr none | exact key a b (by omega) (by omega) (by omega) (by omega) X A M hr none | exact absurd h14 h2 | exact absurd h2 h14
