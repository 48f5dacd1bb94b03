/-! the reference: shortest -/
def rel1 (W : Nat → Int32) (d : Int32) (x y : Nat) : Nat → Int32 := upd W y (if W x = d ∧ W y < 0 then d + 1 else W y)
def rel2 (W : Nat → Int32) (d : Int32) (x y : Nat) : Nat → Int32 := rel1 (rel1 W d x y) d y x
def pasW (x y : Nat → Nat) (W : Nat → Int32) (d : Int32) : Nat → Nat → Int32
  | 0 => W
  | k + 1 => rel2 (pasW x y W d k) d (x k) (y k)
def outW (x y : Nat → Nat) (ts b : Nat) : Nat → (Nat → Int32) → Nat → Int32
  | 0, W => W
  | m + 1, W => if W b < 0 then outW x y ts b m (pasW x y W (nI (64 - (m + 1))) ts) else W
abbrev shW (D : DD) (fs : List Value) (lw hg th tn wy : Nat → Int32) : List va_E := [ob 7 fs, ia D 12600 lw, ia D 12600 hg, ia D 12600 th, ia D 3 tn, ia D 64 wy]
abbrev shL (ad : Nat → Nat) (s a b : Nat) (x4 : Int32) (x5 x6 x7 : Option Value) : List (Option Value) := [some (.ref (ad 0)), some (.int (nI s)), some (.int (nI a)), some (.int (nI b)), some (.int x4), x5, x6, x7]
theorem sh_half {D : DD} {X : MX} {A : Nat → Prop} (M : CX D X A mi_X7_shortest.1.cls mi_X7_shortest.2.1 mi_X7_shortest.2.2.1 (miR mi_X7_shortest)) {Q : State → Prop} {ad : Nat → Nat} {fs : List Value} {lw hg th tn W1 : Nat → Int32} {s a b x y i : Nat} {d : Int32} (hx : x < 64) (hy : y < 64) (hf16 : gt fs 16 = some (.ref (ad 5)))
    (kk : G D X A 0 0 Q ad 56 (shL ad s a b d (some (.int (nI (i + 1)))) (some (.int (nI x))) (some (.int (nI y)))) [] (shW D fs lw hg th tn (rel1 W1 d y x))) : G D X A 0 0 Q ad 150 (shL ad s a b d (some (.int (nI i))) (some (.int (nI x))) (some (.int (nI y)))) [] (shW D fs lw hg th tn W1) := by
  refine G_aload_n (pc := 150) M dX7_shortest_150 rfl ?_
  refine G_getf (pc := 151) M dX7_shortest_151 fl_X7_61 rfl (by first | rfl | assumption) ?_
  refine G_iload (pc := 154) M dX7_shortest_154 rfl ?_
  refine G_aload_n (pc := 156) M dX7_shortest_156 rfl ?_
  refine G_getf (pc := 157) M dX7_shortest_157 fl_X7_61 rfl (by first | rfl | assumption) ?_
  refine G_iload (pc := 160) M dX7_shortest_160 rfl ?_
  refine G_iaload (pc := 162) M dX7_shortest_162 rfl (by first | assumption | exact vp_in_nI (by omega) (by omega)) ?_
  rw [cl_nI (by omega)]
  refine G_iload (pc := 163) M dX7_shortest_163 rfl ?_
  refine G_icmp_ne (pc := 165) M 185 dX7_shortest_165 (by decide) (fun h165 => ?_) (fun h165 => ?_)
  · have e : (if W1 y = d ∧ W1 x < 0 then d + 1 else W1 x) = W1 x := if_neg (fun q => h165 q.1)
    refine G_aload_n (pc := 185) M dX7_shortest_185 rfl ?_
    refine G_getf (pc := 186) M dX7_shortest_186 fl_X7_61 rfl (by first | rfl | assumption) ?_
    refine G_iload (pc := 189) M dX7_shortest_189 rfl ?_
    refine G_iaload (pc := 191) M dX7_shortest_191 rfl (by first | assumption | exact vp_in_nI (by omega) (by omega)) ?_
    rw [cl_nI (by omega)]
    refine G_iastore (pc := 192) M dX7_shortest_192 rfl (by first | assumption | exact vp_in_nI (by omega) (by omega)) ?_
    rw [cl_nI (by omega)]
    refine G_iinc (pc := 193) (v := 1) M dX7_shortest_193 rfl (by decide +kernel) (Nat.le_of_ble_eq_true rfl) ?_
    refine G_goto (pc := 196) M 56 dX7_shortest_196 (by decide) ?_
    rw [rel1, e, ← nI_1 i] at kk
    exact kk
  · refine G_aload_n (pc := 168) M dX7_shortest_168 rfl ?_
    refine G_getf (pc := 169) M dX7_shortest_169 fl_X7_61 rfl (by first | rfl | assumption) ?_
    refine G_iload (pc := 172) M dX7_shortest_172 rfl ?_
    refine G_iaload (pc := 174) M dX7_shortest_174 rfl (by first | assumption | exact vp_in_nI (by omega) (by omega)) ?_
    rw [cl_nI (by omega)]
    refine G_if_ge (pc := 175) M 185 dX7_shortest_175 (by decide) (fun h175 => ?_) (fun h175 => ?_)
    · have e : (if W1 y = d ∧ W1 x < 0 then d + 1 else W1 x) = W1 x := if_neg (fun q => Int32.not_le.mpr q.2 h175)
      refine G_aload_n (pc := 185) M dX7_shortest_185 rfl ?_
      refine G_getf (pc := 186) M dX7_shortest_186 fl_X7_61 rfl (by first | rfl | assumption) ?_
      refine G_iload (pc := 189) M dX7_shortest_189 rfl ?_
      refine G_iaload (pc := 191) M dX7_shortest_191 rfl (by first | assumption | exact vp_in_nI (by omega) (by omega)) ?_
      rw [cl_nI (by omega)]
      refine G_iastore (pc := 192) M dX7_shortest_192 rfl (by first | assumption | exact vp_in_nI (by omega) (by omega)) ?_
      rw [cl_nI (by omega)]
      refine G_iinc (pc := 193) (v := 1) M dX7_shortest_193 rfl (by decide +kernel) (Nat.le_of_ble_eq_true rfl) ?_
      refine G_goto (pc := 196) M 56 dX7_shortest_196 (by decide) ?_
      rw [rel1, e, ← nI_1 i] at kk
      exact kk
    · have e : (if W1 y = d ∧ W1 x < 0 then d + 1 else W1 x) = d + 1 := if_pos ⟨by simpa using h165, Int32.not_le.mp h175⟩
      refine G_iload (pc := 178) M dX7_shortest_178 rfl ?_
      refine G_iconst (pc := 180) (v := 1) M dX7_shortest_180 (by decide +kernel) ?_
      refine G_iadd (pc := 181) M dX7_shortest_181 ?_
      refine G_goto (pc := 182) M 192 dX7_shortest_182 (by decide) ?_
      refine G_iastore (pc := 192) M dX7_shortest_192 rfl (by first | assumption | exact vp_in_nI (by omega) (by omega)) ?_
      rw [cl_nI (by omega)]
      refine G_iinc (pc := 193) (v := 1) M dX7_shortest_193 rfl (by decide +kernel) (Nat.le_of_ble_eq_true rfl) ?_
      refine G_goto (pc := 196) M 56 dX7_shortest_196 (by decide) ?_
      rw [rel1, e, ← nI_1 i] at kk
      exact kk
theorem sh_in {D : DD} {X : MX} {A : Nat → Prop} (M : CX D X A mi_X7_shortest.1.cls mi_X7_shortest.2.1 mi_X7_shortest.2.2.1 (miR mi_X7_shortest)) {Q : State → Prop} {ad : Nat → Nat} {fs : List Value} {lw hg th tn W : Nat → Int32} {s a b ts : Nat} {x y p : Nat → Nat} {d : Int32} (hs : s < 3) (hts : ts ≤ 4200) (htn : tn s = nI ts) (hp : ∀ i, i < ts → th (4200 * s + i) = nI (p i) ∧ p i < 12600 ∧ lw (p i) = nI (x i) ∧ x i < 64 ∧ hg (p i) = nI (y i) ∧ y i < 64)
    (hf6 : gt fs 6 = some (.ref (ad 1))) (hf7 : gt fs 7 = some (.ref (ad 2))) (hf11 : gt fs 11 = some (.ref (ad 3))) (hf12 : gt fs 12 = some (.ref (ad 4))) (hf16 : gt fs 16 = some (.ref (ad 5)))
    (kk : ∀ z5 z6 z7 : Option Value, G D X A 0 0 Q ad 199 (shL ad s a b d z5 z6 z7) [] (shW D fs lw hg th tn (pasW x y W d ts))) : ∀ m i : Nat, i ≤ ts → ts - i < m → ∀ z6 z7 : Option Value,
    G D X A 0 0 Q ad 56 (shL ad s a b d (some (.int (nI i))) z6 z7) [] (shW D fs lw hg th tn (pasW x y W d i)) := by
  intro m
  induction m with
  | zero => intro i _ h; omega
  | succ m ih =>
    intro i hi hm z6 z7
    refine G_iload (pc := 56) M dX7_shortest_56 rfl ?_
    refine G_aload_n (pc := 58) M dX7_shortest_58 rfl ?_
    refine G_getf (pc := 59) M dX7_shortest_59 fl_X7_47 rfl (by first | rfl | assumption) ?_
    refine G_iload_n (pc := 62) M dX7_shortest_62 rfl ?_
    refine G_iaload (pc := 63) M dX7_shortest_63 rfl (by first | assumption | exact vp_in_nI (by omega) (by omega)) ?_
    rw [cl_nI (by omega), htn]
    refine G_icmp_ge (pc := 64) M 199 dX7_shortest_64 (by decide) (fun h64 => ?_) (fun h64 => ?_)
    · have e : i = ts := by
        have := (nI_leI (a := ts) (b := i) (by omega) (by omega)).mp h64
        omega
      subst e
      exact kk _ _ _
    · have hit : i < ts := Nat.lt_of_not_le (fun q => h64 (nI_le q (by omega)))
      obtain ⟨e1, e2, e3, e4, e5, e6⟩ := hp i hit
      refine G_aload_n (pc := 67) M dX7_shortest_67 rfl ?_
      refine G_getf (pc := 68) M dX7_shortest_68 fl_X7_29 rfl (by first | rfl | assumption) ?_
      refine G_aload_n (pc := 71) M dX7_shortest_71 rfl ?_
      refine G_getf (pc := 72) M dX7_shortest_72 fl_X7_44 rfl (by first | rfl | assumption) ?_
      refine G_sipush (pc := 75) (v := 4200) M dX7_shortest_75 (by decide +kernel) ?_
      refine G_iload_n (pc := 78) M dX7_shortest_78 rfl ?_
      refine G_imul (pc := 79) M dX7_shortest_79 ?_
      refine G_iload (pc := 80) M dX7_shortest_80 rfl ?_
      refine G_iadd (pc := 82) M dX7_shortest_82 ?_
      rw [ixC]
      refine G_iaload (pc := 83) M dX7_shortest_83 rfl (by first | assumption | exact vp_in_nI (by omega) (by omega)) ?_
      rw [cl_nI (by omega), e1]
      refine G_iaload (pc := 84) M dX7_shortest_84 rfl (by first | assumption | exact vp_in_nI (by omega) (by omega)) ?_
      rw [cl_nI (by omega), e3]
      refine G_istore (pc := 85) M dX7_shortest_85 (Nat.le_of_ble_eq_true rfl) ?_
      refine G_aload_n (pc := 87) M dX7_shortest_87 rfl ?_
      refine G_getf (pc := 88) M dX7_shortest_88 fl_X7_32 rfl (by first | rfl | assumption) ?_
      refine G_aload_n (pc := 91) M dX7_shortest_91 rfl ?_
      refine G_getf (pc := 92) M dX7_shortest_92 fl_X7_44 rfl (by first | rfl | assumption) ?_
      refine G_sipush (pc := 95) (v := 4200) M dX7_shortest_95 (by decide +kernel) ?_
      refine G_iload_n (pc := 98) M dX7_shortest_98 rfl ?_
      refine G_imul (pc := 99) M dX7_shortest_99 ?_
      refine G_iload (pc := 100) M dX7_shortest_100 rfl ?_
      refine G_iadd (pc := 102) M dX7_shortest_102 ?_
      rw [ixC]
      refine G_iaload (pc := 103) M dX7_shortest_103 rfl (by first | assumption | exact vp_in_nI (by omega) (by omega)) ?_
      rw [cl_nI (by omega), e1]
      refine G_iaload (pc := 104) M dX7_shortest_104 rfl (by first | assumption | exact vp_in_nI (by omega) (by omega)) ?_
      rw [cl_nI (by omega), e5]
      refine G_istore (pc := 105) M dX7_shortest_105 (Nat.le_of_ble_eq_true rfl) ?_
      refine G_aload_n (pc := 107) M dX7_shortest_107 rfl ?_
      refine G_getf (pc := 108) M dX7_shortest_108 fl_X7_61 rfl (by first | rfl | assumption) ?_
      refine G_iload (pc := 111) M dX7_shortest_111 rfl ?_
      refine G_aload_n (pc := 113) M dX7_shortest_113 rfl ?_
      refine G_getf (pc := 114) M dX7_shortest_114 fl_X7_61 rfl (by first | rfl | assumption) ?_
      refine G_iload (pc := 117) M dX7_shortest_117 rfl ?_
      refine G_iaload (pc := 119) M dX7_shortest_119 rfl (by first | assumption | exact vp_in_nI (by omega) (by omega)) ?_
      rw [cl_nI (by omega)]
      refine G_iload (pc := 120) M dX7_shortest_120 rfl ?_
      refine G_icmp_ne (pc := 122) M 142 dX7_shortest_122 (by decide) (fun h122 => ?_) (fun h122 => ?_)
      · have e : (if pasW x y W d i (x i) = d ∧ pasW x y W d i (y i) < 0 then d + 1 else pasW x y W d i (y i)) = pasW x y W d i (y i) := if_neg (fun q => h122 q.1)
        refine G_aload_n (pc := 142) M dX7_shortest_142 rfl ?_
        refine G_getf (pc := 143) M dX7_shortest_143 fl_X7_61 rfl (by first | rfl | assumption) ?_
        refine G_iload (pc := 146) M dX7_shortest_146 rfl ?_
        refine G_iaload (pc := 148) M dX7_shortest_148 rfl (by first | assumption | exact vp_in_nI (by omega) (by omega)) ?_
        rw [cl_nI (by omega)]
        refine G_iastore (pc := 149) M dX7_shortest_149 rfl (by first | assumption | exact vp_in_nI (by omega) (by omega)) ?_
        rw [cl_nI (by omega), ← e]
        exact sh_half M (W1 := rel1 (pasW x y W d i) d (x i) (y i)) e4 e6 hf16 (ih (i + 1) (by omega) (by omega) _ _)
      · refine G_aload_n (pc := 125) M dX7_shortest_125 rfl ?_
        refine G_getf (pc := 126) M dX7_shortest_126 fl_X7_61 rfl (by first | rfl | assumption) ?_
        refine G_iload (pc := 129) M dX7_shortest_129 rfl ?_
        refine G_iaload (pc := 131) M dX7_shortest_131 rfl (by first | assumption | exact vp_in_nI (by omega) (by omega)) ?_
        rw [cl_nI (by omega)]
        refine G_if_ge (pc := 132) M 142 dX7_shortest_132 (by decide) (fun h132 => ?_) (fun h132 => ?_)
        · have e : (if pasW x y W d i (x i) = d ∧ pasW x y W d i (y i) < 0 then d + 1 else pasW x y W d i (y i)) = pasW x y W d i (y i) := if_neg (fun q => Int32.not_le.mpr q.2 h132)
          refine G_aload_n (pc := 142) M dX7_shortest_142 rfl ?_
          refine G_getf (pc := 143) M dX7_shortest_143 fl_X7_61 rfl (by first | rfl | assumption) ?_
          refine G_iload (pc := 146) M dX7_shortest_146 rfl ?_
          refine G_iaload (pc := 148) M dX7_shortest_148 rfl (by first | assumption | exact vp_in_nI (by omega) (by omega)) ?_
          rw [cl_nI (by omega)]
          refine G_iastore (pc := 149) M dX7_shortest_149 rfl (by first | assumption | exact vp_in_nI (by omega) (by omega)) ?_
          rw [cl_nI (by omega), ← e]
          exact sh_half M (W1 := rel1 (pasW x y W d i) d (x i) (y i)) e4 e6 hf16 (ih (i + 1) (by omega) (by omega) _ _)
        · have e : (if pasW x y W d i (x i) = d ∧ pasW x y W d i (y i) < 0 then d + 1 else pasW x y W d i (y i)) = d + 1 := if_pos ⟨by simpa using h122, Int32.not_le.mp h132⟩
          refine G_iload (pc := 135) M dX7_shortest_135 rfl ?_
          refine G_iconst (pc := 137) (v := 1) M dX7_shortest_137 (by decide +kernel) ?_
          refine G_iadd (pc := 138) M dX7_shortest_138 ?_
          refine G_goto (pc := 139) M 149 dX7_shortest_139 (by decide) ?_
          refine G_iastore (pc := 149) M dX7_shortest_149 rfl (by first | assumption | exact vp_in_nI (by omega) (by omega)) ?_
          rw [cl_nI (by omega), ← e]
          exact sh_half M (W1 := rel1 (pasW x y W d i) d (x i) (y i)) e4 e6 hf16 (ih (i + 1) (by omega) (by omega) _ _)
theorem sh_out {D : DD} {X : MX} {A : Nat → Prop} (M : CX D X A mi_X7_shortest.1.cls mi_X7_shortest.2.1 mi_X7_shortest.2.2.1 (miR mi_X7_shortest)) (hr : RT X mi_X7_shortest.2.2.2.1) {ad : Nat → Nat} {fs : List Value} {lw hg th tn : Nat → Int32} {s a b ts : Nat} {x y p : Nat → Nat} (hs : s < 3) (hb : b < 64) (hts : ts ≤ 4200) (htn : tn s = nI ts) (hp : ∀ i, i < ts → th (4200 * s + i) = nI (p i) ∧ p i < 12600 ∧ lw (p i) = nI (x i) ∧ x i < 64 ∧ hg (p i) = nI (y i) ∧ y i < 64)
    (hf6 : gt fs 6 = some (.ref (ad 1))) (hf7 : gt fs 7 = some (.ref (ad 2))) (hf11 : gt fs 11 = some (.ref (ad 3))) (hf12 : gt fs 12 = some (.ref (ad 4))) (hf16 : gt fs 16 = some (.ref (ad 5))) : ∀ m : Nat, m ≤ 64 → ∀ (W : Nat → Int32) (z5 z6 z7 : Option Value),
    G D X A 0 0 (GQ D X A ad 6 (fun v cs => v = some (.int (outW x y ts b m W b)) ∧ cs = shW D fs lw hg th tn (outW x y ts b m W))) ad 37 (shL ad s a b (nI (64 - m)) z5 z6 z7) [] (shW D fs lw hg th tn W) := by
  intro m
  induction m with
  | zero =>
    intro _ W z5 z6 z7
    refine G_iload (pc := 37) M dX7_shortest_37 rfl ?_
    refine G_bipush (pc := 39) (v := 64) M dX7_shortest_39 (by decide +kernel) ?_
    refine G_icmp_ge (pc := 41) M 205 dX7_shortest_41 (by decide) (fun h41 => ?_) (fun h41 => ?_)
    · refine G_aload_n (pc := 205) M dX7_shortest_205 rfl ?_
      refine G_getf (pc := 206) M dX7_shortest_206 fl_X7_61 rfl (by first | rfl | assumption) ?_
      refine G_iload_n (pc := 209) M dX7_shortest_209 rfl ?_
      refine G_iaload (pc := 210) M dX7_shortest_210 rfl (by first | assumption | exact vp_in_nI (by omega) (by omega)) ?_
      rw [cl_nI (by omega)]
      exact G_iret M hr dX7_shortest_211 rfl ⟨rfl, rfl⟩
    · exact absurd (nI_le (a := 64) (b := 64 - 0) (by omega) (by omega)) h41
  | succ m ih =>
    intro hm W z5 z6 z7
    have nx : W b < 0 → ∀ z5 z6 z7 : Option Value, G D X A 0 0 (GQ D X A ad 6 (fun v cs => v = some (.int (outW x y ts b (m + 1) W b)) ∧ cs = shW D fs lw hg th tn (outW x y ts b (m + 1) W))) ad 199 (shL ad s a b (nI (64 - (m + 1))) z5 z6 z7) [] (shW D fs lw hg th tn (pasW x y W (nI (64 - (m + 1))) ts)) := by
      intro h50 z5 z6 z7
      refine G_iinc (pc := 199) (v := 1) M dX7_shortest_199 rfl (by decide +kernel) (Nat.le_of_ble_eq_true rfl) ?_
      refine G_goto (pc := 202) M 37 dX7_shortest_202 (by decide) ?_
      have := ih (by omega) (pasW x y W (nI (64 - (m + 1))) ts)
      rw [show 64 - m = 64 - (m + 1) + 1 by omega, ← nI_1] at this
      rw [outW, if_pos h50]
      exact this _ _ _
    refine G_iload (pc := 37) M dX7_shortest_37 rfl ?_
    refine G_bipush (pc := 39) (v := 64) M dX7_shortest_39 (by decide +kernel) ?_
    refine G_icmp_ge (pc := 41) M 205 dX7_shortest_41 (by decide) (fun h41 => ?_) (fun h41 => ?_)
    · exact absurd ((nI_leI (a := 64) (b := 64 - (m + 1)) (by omega) (by omega)).mp h41) (by omega)
    · refine G_aload_n (pc := 44) M dX7_shortest_44 rfl ?_
      refine G_getf (pc := 45) M dX7_shortest_45 fl_X7_61 rfl (by first | rfl | assumption) ?_
      refine G_iload_n (pc := 48) M dX7_shortest_48 rfl ?_
      refine G_iaload (pc := 49) M dX7_shortest_49 rfl (by first | assumption | exact vp_in_nI (by omega) (by omega)) ?_
      rw [cl_nI (by omega)]
      refine G_if_ge (pc := 50) M 205 dX7_shortest_50 (by decide) (fun h50 => ?_) (fun h50 => ?_)
      · have h50b := Int32.not_lt.mpr h50
        refine G_aload_n (pc := 205) M dX7_shortest_205 rfl ?_
        refine G_getf (pc := 206) M dX7_shortest_206 fl_X7_61 rfl (by first | rfl | assumption) ?_
        refine G_iload_n (pc := 209) M dX7_shortest_209 rfl ?_
        refine G_iaload (pc := 210) M dX7_shortest_210 rfl (by first | assumption | exact vp_in_nI (by omega) (by omega)) ?_
        rw [cl_nI (by omega)]
        exact G_iret M hr dX7_shortest_211 rfl ⟨by rw [outW, if_neg h50b], by rw [outW, if_neg h50b]⟩
      · have h50b := Int32.not_le.mp h50
        refine G_iconst (pc := 53) (v := 0) M dX7_shortest_53 (by decide +kernel) ?_
        refine G_istore (pc := 54) M dX7_shortest_54 (Nat.le_of_ble_eq_true rfl) ?_
        exact sh_in M hs hts htn hp hf6 hf7 hf11 hf12 hf16 (nx h50b) (ts + 1) 0 (by omega) (by omega) _ _
def wy0 (a : Nat) : Nat → Int32 := fun k => if k = a then 0 else -1
theorem sh_init {D : DD} {X : MX} {A : Nat → Prop} (M : CX D X A mi_X7_shortest.1.cls mi_X7_shortest.2.1 mi_X7_shortest.2.2.1 (miR mi_X7_shortest)) {Q : State → Prop} {ad : Nat → Nat} {fs : List Value} {lw hg th tn wy : Nat → Int32} {s a b : Nat} (ha : a < 64) (hf16 : gt fs 16 = some (.ref (ad 5))) {z5 z6 z7 : Option Value}
    (kk : ∀ z4 : Int32, G D X A 0 0 Q ad 34 (shL ad s a b z4 z5 z6 z7) [] (shW D fs lw hg th tn (wy0 a))) : ∀ m k : Nat, k ≤ 64 → 64 - k < m →
    G D X A 0 0 Q ad 3 (shL ad s a b (nI k) z5 z6 z7) [] (shW D fs lw hg th tn (fun j => if j < k then wy0 a j else wy j)) := by
  intro m
  induction m with
  | zero => intro k _ h; omega
  | succ m ih =>
    intro k hk hm
    refine G_iload (pc := 3) M dX7_shortest_3 rfl ?_
    refine G_bipush (pc := 5) (v := 64) M dX7_shortest_5 (by decide +kernel) ?_
    refine G_icmp_ge (pc := 7) M 34 dX7_shortest_7 (by decide) (fun h7 => ?_) (fun h7 => ?_)
    · have hk64 : k = 64 := by
        have := (nI_leI (a := 64) (b := k) (by omega) (by omega)).mp h7
        omega
      subst hk64
      refine G_normI 5 (wy0 a) rfl (fun j hj => if_pos hj) ?_
      exact kk _
    · have hk64 : k < 64 := Nat.lt_of_not_le (fun q => h7 (nI_le q (by omega)))
      have st : upd (fun j => if j < k then wy0 a j else wy j) k (wy0 a k) = (fun j => if j < k + 1 then wy0 a j else wy j) := by
        funext j
        simp only [upd]
        by_cases h : j = k
        · subst h; simp
        · rw [if_neg h]
          by_cases h2 : j < k
          · rw [if_pos h2, if_pos (by omega)]
          · rw [if_neg h2, if_neg (by omega)]
      refine G_aload_n (pc := 10) M dX7_shortest_10 rfl ?_
      refine G_getf (pc := 11) M dX7_shortest_11 fl_X7_61 rfl (by first | rfl | assumption) ?_
      refine G_iload (pc := 14) M dX7_shortest_14 rfl ?_
      refine G_iload (pc := 16) M dX7_shortest_16 rfl ?_
      refine G_iload_n (pc := 18) M dX7_shortest_18 rfl ?_
      refine G_icmp_ne (pc := 19) M 26 dX7_shortest_19 (by decide) (fun h19 => ?_) (fun h19 => ?_)
      · have e : wy0 a k = -1 := if_neg (fun q => h19 (by rw [q]))
        refine G_iconst (pc := 26) (v := -1) M dX7_shortest_26 (by decide +kernel) ?_
        refine G_iastore (pc := 27) M dX7_shortest_27 rfl (by first | assumption | exact vp_in_nI (by omega) (by omega)) ?_
        rw [cl_nI (by omega), ← e]
        refine G_iinc (pc := 28) (v := 1) M dX7_shortest_28 rfl (by decide +kernel) (Nat.le_of_ble_eq_true rfl) ?_
        refine G_goto (pc := 31) M 3 dX7_shortest_31 (by decide) ?_
        have := ih (k + 1) (by omega) (by omega)
        rw [← st, ← nI_1 k] at this
        exact this
      · have e : wy0 a k = 0 := if_pos ((nI_eq (by omega) (by omega)).mp (by simpa using h19))
        refine G_iconst (pc := 22) (v := 0) M dX7_shortest_22 (by decide +kernel) ?_
        refine G_goto (pc := 23) M 27 dX7_shortest_23 (by decide) ?_
        refine G_iastore (pc := 27) M dX7_shortest_27 rfl (by first | assumption | exact vp_in_nI (by omega) (by omega)) ?_
        rw [cl_nI (by omega), ← e]
        refine G_iinc (pc := 28) (v := 1) M dX7_shortest_28 rfl (by decide +kernel) (Nat.le_of_ble_eq_true rfl) ?_
        refine G_goto (pc := 31) M 3 dX7_shortest_31 (by decide) ?_
        have := ih (k + 1) (by omega) (by omega)
        rw [← st, ← nI_1 k] at this
        exact this
theorem c_shortest (D : DD) (l : Launch) (ad : Nat → Nat) (fs : List Value) (lw hg th tn wy : Nat → Int32) (s a b ts : Nat) (x y p : Nat → Nat) (hs : s < 3) (ha : a < 64) (hb : b < 64) (hts : ts ≤ 4200) (htn : tn s = nI ts) (hp : ∀ i, i < ts → th (4200 * s + i) = nI (p i) ∧ p i < 12600 ∧ lw (p i) = nI (x i) ∧ x i < 64 ∧ hg (p i) = nI (y i) ∧ y i < 64)
    (hf6 : gt fs 6 = some (.ref (ad 1))) (hf7 : gt fs 7 = some (.ref (ad 2))) (hf11 : gt fs 11 = some (.ref (ad 3))) (hf12 : gt fs 12 = some (.ref (ad 4))) (hf16 : gt fs 16 = some (.ref (ad 5))) :
    Ct D l mi_X7_shortest [.ref (ad 0), .int (nI s), .int (nI a), .int (nI b)] ad (shW D fs lw hg th tn wy) (fun v cs => v = some (.int (outW x y ts b 64 (wy0 a) b)) ∧ cs = shW D fs lw hg th tn (outW x y ts b 64 (wy0 a))) := by
  refine Ct.of (by decide +kernel) (Nat.le_of_ble_eq_true rfl) (fun X A hX M hr => ?_)
  subst hX
  have kk : ∀ z4 : Int32, G D X A 0 0 (GQ D X A ad 6 (fun v cs => v = some (.int (outW x y ts b 64 (wy0 a) b)) ∧ cs = shW D fs lw hg th tn (outW x y ts b 64 (wy0 a)))) ad 34 (shL ad s a b z4 none none none) [] (shW D fs lw hg th tn (wy0 a)) := by
    intro z4
    refine G_iconst (pc := 34) (v := 0) M dX7_shortest_34 (by decide +kernel) ?_
    refine G_istore (pc := 35) M dX7_shortest_35 (Nat.le_of_ble_eq_true rfl) ?_
    exact sh_out M hr hs hb hts htn hp hf6 hf7 hf11 hf12 hf16 64 (by omega) (wy0 a) _ _ _
  refine G_iconst (pc := 0) (v := 0) M dX7_shortest_0 (by decide +kernel) ?_
  refine G_istore (pc := 1) M dX7_shortest_1 (Nat.le_of_ble_eq_true rfl) ?_
  have := sh_init M (wy := wy) ha hf16 kk 65 0 (by omega) (by omega)
  simp only [Nat.not_lt_zero, if_false] at this
  exact this
