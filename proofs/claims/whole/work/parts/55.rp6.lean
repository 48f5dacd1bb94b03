--NORM
/-! the reference: add -/
theorem ra_t3 {D : DD} {X : MX} {A : Nat → Prop} (M : CX D X A mi_X7_add.1.cls mi_X7_add.2.1 mi_X7_add.2.2.1 (miR mi_X7_add)) (hr : RT X mi_X7_add.2.2.2.1) {ad : Nat → Nat} {nd : Nat → Int32} {sl : Nat → Int32} {sr : Nat → Int32} {sd : Nat → Int64} {ag : Nat → Int32} {lo : Nat → Int32} {lw : Nat → Int32} {hg : Nat → Int32} {ct : Nat → Int32} {mt : Nat → Int32} {sm : Nat → Int64} {th : Nat → Int32} {tn : Nat → Int32} {lev : Int32} {le : Nat → Int32} {jo : Nat → Int32} {wy : Nat → Int32} {si a b g : Nat} {z4 z5 : Int32} {z6 : Option Value} (hsi : si < 3) (ha : a < 64) (hb : b < 64) (hag : ag si = nI g) :
    G D X A 0 0 (GQ D X A ad 17 (fun r c => r = some (.int (nI g)) ∧ c = rfW D ad nd sl sr sd ag lo lw hg ct mt (winL 1920 si sm (chgR (fun j => sm (1920 * si + j)) (min a b) (max a b) (arcKey (min a b) (max a b)) 1 (lvK (sd si) (arcKey (min a b) (max a b)) + 1))) th tn lev le jo wy)) ad 205 [some (.ref (ad 0)), some (.int (nI si)), some (.int (nI a)), some (.int (nI b)), some (.int z4), some (.int z5), z6] [] (rfW D ad nd sl sr sd ag lo lw hg ct mt sm th tn lev le jo wy) := by
  refine G_aload_n (pc := 205) M dX7_add_205 rfl ?_
  refine G_iload_n (pc := 206) M dX7_add_206 rfl ?_
  refine G_iload_n (pc := 207) M dX7_add_207 rfl ?_
  refine G_iload_n (pc := 208) M dX7_add_208 rfl ?_
  refine G_lconst (pc := 209) (v := 1) M dX7_add_209 (by decide +kernel) ?_
  refine G_callv (pc := 210) M [0, 4, 11] dX7_add_210 mv_X7_87 (c_change D _ (fun j => ad (pn [0, 4, 11] j)) _ sd sm si a b 1 hsi ha hb rfl rfl) rfl ⟨rfl, rfl, rfl, trivial⟩ rfl rfl rfl rfl (Nat.le_of_ble_eq_true rfl) (Nat.le_of_ble_eq_true rfl) (Nat.le_of_ble_eq_true rfl) ⟨Nat.zero_le _, Nat.zero_le _⟩ (fun v c1 hq hlen => ?_)
  obtain ⟨rfl, rfl⟩ := hq
  try dsimp only [sall, List.set, Option.toList, List.cons_append, List.nil_append]
  generalize lvK (sd si) (arcKey (min a b) (max a b)) = L
  refine G_istore (pc := 213) M dX7_add_213 (Nat.le_of_ble_eq_true rfl) ?_
  refine G_aload_n (pc := 215) M dX7_add_215 rfl ?_
  refine G_getf (pc := 216) M dX7_add_216 fl_X7_23 rfl (by first | rfl | assumption) ?_
  refine G_iload_n (pc := 219) M dX7_add_219 rfl ?_
  refine G_iaload (pc := 220) M dX7_add_220 rfl (by first | assumption | exact vp_in_nI (by omega) (by omega)) ?_
  rw [cl_nI (by omega), hag]
  exact G_iret M hr dX7_add_221 (Eq.trans (b := 17) rfl rfl) ⟨rfl, rfl⟩
theorem ra_t2 {D : DD} {X : MX} {A : Nat → Prop} (M : CX D X A mi_X7_add.1.cls mi_X7_add.2.1 mi_X7_add.2.2.1 (miR mi_X7_add)) (hr : RT X mi_X7_add.2.2.2.1) {ad : Nat → Nat} {nd : Nat → Int32} {sl : Nat → Int32} {sr : Nat → Int32} {sd : Nat → Int64} {ag : Nat → Int32} {lo : Nat → Int32} {lw : Nat → Int32} {hg : Nat → Int32} {ct : Nat → Int32} {mt : Nat → Int32} {sm : Nat → Int64} {th : Nat → Int32} {tn : Nat → Int32} {lev : Int32} {le : Nat → Int32} {jo : Nat → Int32} {wy : Nat → Int32} {si a b g : Nat} {z4 z5 : Int32} {z6 : Option Value} (hsi : si < 3) (ha : a < 64) (hb : b < 64) (hag : ag si = nI g) :
    G D X A 0 0 (GQ D X A ad 17 (fun r c => r = some (.int (nI g)) ∧ c = rfW D ad nd sl sr sd ag lo lw hg ct ((if mt (64 * si + a) = 0 ∧ mt (64 * si + b) = 0 then upd (upd mt (64 * si + a) (nI (b + 1))) (64 * si + b) (nI (a + 1)) else mt)) (winL 1920 si sm (chgR (fun j => sm (1920 * si + j)) (min a b) (max a b) (arcKey (min a b) (max a b)) 1 (lvK (sd si) (arcKey (min a b) (max a b)) + 1))) th tn lev le jo wy)) ad 149 [some (.ref (ad 0)), some (.int (nI si)), some (.int (nI a)), some (.int (nI b)), some (.int z4), some (.int z5), z6] [] (rfW D ad nd sl sr sd ag lo lw hg ct mt sm th tn lev le jo wy) := by
  by_cases hm : mt (64 * si + a) = 0 ∧ mt (64 * si + b) = 0
  · rw [if_pos hm]
    refine G_aload_n (pc := 149) M dX7_add_149 rfl ?_
    refine G_getf (pc := 150) M dX7_add_150 fl_X7_38 rfl (by first | rfl | assumption) ?_
    refine G_bipush (pc := 153) (v := 64) M dX7_add_153 (by decide +kernel) ?_
    refine G_iload_n (pc := 155) M dX7_add_155 rfl ?_
    refine G_imul (pc := 156) M dX7_add_156 ?_
    refine G_iload_n (pc := 157) M dX7_add_157 rfl ?_
    refine G_iadd (pc := 158) M dX7_add_158 ?_
    rw [ixA]
    refine G_iaload (pc := 159) M dX7_add_159 rfl (by first | assumption | exact vp_in_nI (by omega) (by omega)) ?_
    rw [cl_nI (by omega)]
    refine G_if_ne (pc := 160) M 205 dX7_add_160 (by decide) (fun h160 => ?_) (fun h160 => ?_)
    · exact absurd hm.1 h160
    · refine G_aload_n (pc := 163) M dX7_add_163 rfl ?_
      refine G_getf (pc := 164) M dX7_add_164 fl_X7_38 rfl (by first | rfl | assumption) ?_
      refine G_bipush (pc := 167) (v := 64) M dX7_add_167 (by decide +kernel) ?_
      refine G_iload_n (pc := 169) M dX7_add_169 rfl ?_
      refine G_imul (pc := 170) M dX7_add_170 ?_
      refine G_iload_n (pc := 171) M dX7_add_171 rfl ?_
      refine G_iadd (pc := 172) M dX7_add_172 ?_
      rw [ixA]
      refine G_iaload (pc := 173) M dX7_add_173 rfl (by first | assumption | exact vp_in_nI (by omega) (by omega)) ?_
      rw [cl_nI (by omega)]
      refine G_if_ne (pc := 174) M 205 dX7_add_174 (by decide) (fun h174 => ?_) (fun h174 => ?_)
      · exact absurd hm.2 h174
      · refine G_aload_n (pc := 177) M dX7_add_177 rfl ?_
        refine G_getf (pc := 178) M dX7_add_178 fl_X7_38 rfl (by first | rfl | assumption) ?_
        refine G_bipush (pc := 181) (v := 64) M dX7_add_181 (by decide +kernel) ?_
        refine G_iload_n (pc := 183) M dX7_add_183 rfl ?_
        refine G_imul (pc := 184) M dX7_add_184 ?_
        refine G_iload_n (pc := 185) M dX7_add_185 rfl ?_
        refine G_iadd (pc := 186) M dX7_add_186 ?_
        refine G_iload_n (pc := 187) M dX7_add_187 rfl ?_
        refine G_iconst (pc := 188) (v := 1) M dX7_add_188 (by decide +kernel) ?_
        refine G_iadd (pc := 189) M dX7_add_189 ?_
        rw [nI_1]
        rw [ixA]
        refine G_iastore (pc := 190) M dX7_add_190 rfl (by first | assumption | exact vp_in_nI (by omega) (by omega)) ?_
        try dsimp only [List.set]
        rw [cl_nI (by omega)]
        refine G_aload_n (pc := 191) M dX7_add_191 rfl ?_
        refine G_getf (pc := 192) M dX7_add_192 fl_X7_38 rfl (by first | rfl | assumption) ?_
        refine G_bipush (pc := 195) (v := 64) M dX7_add_195 (by decide +kernel) ?_
        refine G_iload_n (pc := 197) M dX7_add_197 rfl ?_
        refine G_imul (pc := 198) M dX7_add_198 ?_
        refine G_iload_n (pc := 199) M dX7_add_199 rfl ?_
        refine G_iadd (pc := 200) M dX7_add_200 ?_
        refine G_iload_n (pc := 201) M dX7_add_201 rfl ?_
        refine G_iconst (pc := 202) (v := 1) M dX7_add_202 (by decide +kernel) ?_
        refine G_iadd (pc := 203) M dX7_add_203 ?_
        rw [nI_1]
        rw [ixA]
        refine G_iastore (pc := 204) M dX7_add_204 rfl (by first | assumption | exact vp_in_nI (by omega) (by omega)) ?_
        try dsimp only [List.set]
        rw [cl_nI (by omega)]
        exact ra_t3 M hr (nd := nd) (sl := sl) (sr := sr) (sd := sd) (ag := ag) (lo := lo) (lw := lw) (hg := hg) (ct := ct) (mt := upd (upd mt (64 * si + a) (nI (b + 1))) (64 * si + b) (nI (a + 1))) (sm := sm) (th := th) (tn := tn) (lev := lev) (le := le) (jo := jo) (wy := wy) hsi ha hb hag
  · rw [if_neg hm]
    refine G_aload_n (pc := 149) M dX7_add_149 rfl ?_
    refine G_getf (pc := 150) M dX7_add_150 fl_X7_38 rfl (by first | rfl | assumption) ?_
    refine G_bipush (pc := 153) (v := 64) M dX7_add_153 (by decide +kernel) ?_
    refine G_iload_n (pc := 155) M dX7_add_155 rfl ?_
    refine G_imul (pc := 156) M dX7_add_156 ?_
    refine G_iload_n (pc := 157) M dX7_add_157 rfl ?_
    refine G_iadd (pc := 158) M dX7_add_158 ?_
    rw [ixA]
    refine G_iaload (pc := 159) M dX7_add_159 rfl (by first | assumption | exact vp_in_nI (by omega) (by omega)) ?_
    rw [cl_nI (by omega)]
    refine G_if_ne (pc := 160) M 205 dX7_add_160 (by decide) (fun h160 => ?_) (fun h160 => ?_)
    · exact ra_t3 M hr hsi ha hb hag
    · refine G_aload_n (pc := 163) M dX7_add_163 rfl ?_
      refine G_getf (pc := 164) M dX7_add_164 fl_X7_38 rfl (by first | rfl | assumption) ?_
      refine G_bipush (pc := 167) (v := 64) M dX7_add_167 (by decide +kernel) ?_
      refine G_iload_n (pc := 169) M dX7_add_169 rfl ?_
      refine G_imul (pc := 170) M dX7_add_170 ?_
      refine G_iload_n (pc := 171) M dX7_add_171 rfl ?_
      refine G_iadd (pc := 172) M dX7_add_172 ?_
      rw [ixA]
      refine G_iaload (pc := 173) M dX7_add_173 rfl (by first | assumption | exact vp_in_nI (by omega) (by omega)) ?_
      rw [cl_nI (by omega)]
      refine G_if_ne (pc := 174) M 205 dX7_add_174 (by decide) (fun h174 => ?_) (fun h174 => ?_)
      · exact ra_t3 M hr hsi ha hb hag
      · exact absurd ⟨by simpa using h160, by simpa using h174⟩ hm
theorem ra_t1 {D : DD} {X : MX} {A : Nat → Prop} (M : CX D X A mi_X7_add.1.cls mi_X7_add.2.1 mi_X7_add.2.2.1 (miR mi_X7_add)) (hr : RT X mi_X7_add.2.2.2.1) {ad : Nat → Nat} {nd : Nat → Int32} {sl : Nat → Int32} {sr : Nat → Int32} {sd : Nat → Int64} {ag : Nat → Int32} {lo : Nat → Int32} {lw : Nat → Int32} {hg : Nat → Int32} {ct : Nat → Int32} {mt : Nat → Int32} {sm : Nat → Int64} {th : Nat → Int32} {tn : Nat → Int32} {lev : Int32} {le : Nat → Int32} {jo : Nat → Int32} {wy : Nat → Int32} {si a b g st ts : Nat} {d : Int32} {z6 : Option Value} (hsi : si < 3) (ha : a < 64) (hb : b < 64) (hgl : g < 4200) (hts : ts < 4200) (hag : ag si = nI (g + 1)) (hsr : sr si = nI st) (htn : tn si = nI ts) :
    G D X A 0 0 (GQ D X A ad 17 (fun r c => r = some (.int (nI (g + 1))) ∧ c = rfW D ad nd sl sr sd ag lo lw hg ct ((if mt (64 * si + a) = 0 ∧ mt (64 * si + b) = 0 then upd (upd mt (64 * si + a) (nI (b + 1))) (64 * si + b) (nI (a + 1)) else mt)) (winL 1920 si sm (chgR (fun j => sm (1920 * si + j)) (min a b) (max a b) (arcKey (min a b) (max a b)) 1 (lvK (sd si) (arcKey (min a b) (max a b)) + 1))) (if d < 0 ∨ nI st < d then upd th (4200 * si + ts) (nI (4200 * si + g)) else th) (if d < 0 ∨ nI st < d then upd tn si (nI (ts + 1)) else tn) lev le jo wy)) ad 104 [some (.ref (ad 0)), some (.int (nI si)), some (.int (nI a)), some (.int (nI b)), some (.int (nI (4200 * si + g))), some (.int d), z6] [] (rfW D ad nd sl sr sd ag lo lw hg ct mt sm th tn lev le jo wy) := by
  by_cases hd : d < 0 ∨ nI st < d
  · rw [if_pos hd, if_pos hd]
    refine G_iload (pc := 104) M dX7_add_104 rfl ?_
    refine G_if_lt (pc := 106) M 120 dX7_add_106 (by decide) (fun h106 => ?_) (fun h106 => ?_)
    · refine G_aload_n (pc := 120) M dX7_add_120 rfl ?_
      refine G_getf (pc := 121) M dX7_add_121 fl_X7_44 rfl (by first | rfl | assumption) ?_
      refine G_sipush (pc := 124) (v := 4200) M dX7_add_124 (by decide +kernel) ?_
      refine G_iload_n (pc := 127) M dX7_add_127 rfl ?_
      refine G_imul (pc := 128) M dX7_add_128 ?_
      refine G_aload_n (pc := 129) M dX7_add_129 rfl ?_
      refine G_getf (pc := 130) M dX7_add_130 fl_X7_47 rfl (by first | rfl | assumption) ?_
      refine G_iload_n (pc := 133) M dX7_add_133 rfl ?_
      refine G_iaload (pc := 134) M dX7_add_134 rfl (by first | assumption | exact vp_in_nI (by omega) (by omega)) ?_
      rw [cl_nI (by omega), htn]
      refine G_iadd (pc := 135) M dX7_add_135 ?_
      refine G_iload (pc := 136) M dX7_add_136 rfl ?_
      rw [ixC]
      refine G_iastore (pc := 138) M dX7_add_138 rfl (by first | assumption | exact vp_in_nI (by omega) (by omega)) ?_
      try dsimp only [List.set]
      rw [cl_nI (by omega)]
      refine G_aload_n (pc := 139) M dX7_add_139 rfl ?_
      refine G_getf (pc := 140) M dX7_add_140 fl_X7_47 rfl (by first | rfl | assumption) ?_
      refine G_iload_n (pc := 143) M dX7_add_143 rfl ?_
      first | refine G_dup2 (pc := 144) M dX7_add_144 rfl rfl ?_ | refine G_dup2L (pc := 144) M dX7_add_144 rfl ?_
      refine G_iaload (pc := 145) M dX7_add_145 rfl (by first | assumption | exact vp_in_nI (by omega) (by omega)) ?_
      rw [cl_nI (by omega), htn]
      refine G_iconst (pc := 146) (v := 1) M dX7_add_146 (by decide +kernel) ?_
      refine G_iadd (pc := 147) M dX7_add_147 ?_
      rw [nI_1]
      refine G_iastore (pc := 148) M dX7_add_148 rfl (by first | assumption | exact vp_in_nI (by omega) (by omega)) ?_
      try dsimp only [List.set]
      rw [cl_nI (by omega)]
      exact ra_t2 M hr (nd := nd) (sl := sl) (sr := sr) (sd := sd) (ag := ag) (lo := lo) (lw := lw) (hg := hg) (ct := ct) (mt := mt) (sm := sm) (th := upd th (4200 * si + ts) (nI (4200 * si + g))) (tn := upd tn si (nI (ts + 1))) (lev := lev) (le := le) (jo := jo) (wy := wy) hsi ha hb hag
    · refine G_iload (pc := 109) M dX7_add_109 rfl ?_
      refine G_aload_n (pc := 111) M dX7_add_111 rfl ?_
      refine G_getf (pc := 112) M dX7_add_112 fl_X7_16 rfl (by first | rfl | assumption) ?_
      refine G_iload_n (pc := 115) M dX7_add_115 rfl ?_
      refine G_iaload (pc := 116) M dX7_add_116 rfl (by first | assumption | exact vp_in_nI (by omega) (by omega)) ?_
      rw [cl_nI (by omega), hsr]
      refine G_icmp_le (pc := 117) M 149 dX7_add_117 (by decide) (fun h117 => ?_) (fun h117 => ?_)
      · exact absurd hd (by rintro (q | q); exact h106 q; exact Int32.not_lt.mpr h117 q)
      · refine G_aload_n (pc := 120) M dX7_add_120 rfl ?_
        refine G_getf (pc := 121) M dX7_add_121 fl_X7_44 rfl (by first | rfl | assumption) ?_
        refine G_sipush (pc := 124) (v := 4200) M dX7_add_124 (by decide +kernel) ?_
        refine G_iload_n (pc := 127) M dX7_add_127 rfl ?_
        refine G_imul (pc := 128) M dX7_add_128 ?_
        refine G_aload_n (pc := 129) M dX7_add_129 rfl ?_
        refine G_getf (pc := 130) M dX7_add_130 fl_X7_47 rfl (by first | rfl | assumption) ?_
        refine G_iload_n (pc := 133) M dX7_add_133 rfl ?_
        refine G_iaload (pc := 134) M dX7_add_134 rfl (by first | assumption | exact vp_in_nI (by omega) (by omega)) ?_
        rw [cl_nI (by omega), htn]
        refine G_iadd (pc := 135) M dX7_add_135 ?_
        refine G_iload (pc := 136) M dX7_add_136 rfl ?_
        rw [ixC]
        refine G_iastore (pc := 138) M dX7_add_138 rfl (by first | assumption | exact vp_in_nI (by omega) (by omega)) ?_
        try dsimp only [List.set]
        rw [cl_nI (by omega)]
        refine G_aload_n (pc := 139) M dX7_add_139 rfl ?_
        refine G_getf (pc := 140) M dX7_add_140 fl_X7_47 rfl (by first | rfl | assumption) ?_
        refine G_iload_n (pc := 143) M dX7_add_143 rfl ?_
        first | refine G_dup2 (pc := 144) M dX7_add_144 rfl rfl ?_ | refine G_dup2L (pc := 144) M dX7_add_144 rfl ?_
        refine G_iaload (pc := 145) M dX7_add_145 rfl (by first | assumption | exact vp_in_nI (by omega) (by omega)) ?_
        rw [cl_nI (by omega), htn]
        refine G_iconst (pc := 146) (v := 1) M dX7_add_146 (by decide +kernel) ?_
        refine G_iadd (pc := 147) M dX7_add_147 ?_
        rw [nI_1]
        refine G_iastore (pc := 148) M dX7_add_148 rfl (by first | assumption | exact vp_in_nI (by omega) (by omega)) ?_
        try dsimp only [List.set]
        rw [cl_nI (by omega)]
        exact ra_t2 M hr (nd := nd) (sl := sl) (sr := sr) (sd := sd) (ag := ag) (lo := lo) (lw := lw) (hg := hg) (ct := ct) (mt := mt) (sm := sm) (th := upd th (4200 * si + ts) (nI (4200 * si + g))) (tn := upd tn si (nI (ts + 1))) (lev := lev) (le := le) (jo := jo) (wy := wy) hsi ha hb hag
  · rw [if_neg hd, if_neg hd]
    refine G_iload (pc := 104) M dX7_add_104 rfl ?_
    refine G_if_lt (pc := 106) M 120 dX7_add_106 (by decide) (fun h106 => ?_) (fun h106 => ?_)
    · exact absurd (Or.inl h106) hd
    · refine G_iload (pc := 109) M dX7_add_109 rfl ?_
      refine G_aload_n (pc := 111) M dX7_add_111 rfl ?_
      refine G_getf (pc := 112) M dX7_add_112 fl_X7_16 rfl (by first | rfl | assumption) ?_
      refine G_iload_n (pc := 115) M dX7_add_115 rfl ?_
      refine G_iaload (pc := 116) M dX7_add_116 rfl (by first | assumption | exact vp_in_nI (by omega) (by omega)) ?_
      rw [cl_nI (by omega), hsr]
      refine G_icmp_le (pc := 117) M 149 dX7_add_117 (by decide) (fun h117 => ?_) (fun h117 => ?_)
      · exact ra_t2 M hr hsi ha hb hag
      · exact absurd (Or.inr (Int32.not_le.mp h117)) hd
theorem ra_t0 {D : DD} {X : MX} {A : Nat → Prop} (M : CX D X A mi_X7_add.1.cls mi_X7_add.2.1 mi_X7_add.2.2.1 (miR mi_X7_add)) (hr : RT X mi_X7_add.2.2.2.1) {ad : Nat → Nat} {nd : Nat → Int32} {sl : Nat → Int32} {sr : Nat → Int32} {sd : Nat → Int64} {ag : Nat → Int32} {lo : Nat → Int32} {lw : Nat → Int32} {hg : Nat → Int32} {ct : Nat → Int32} {mt : Nat → Int32} {sm : Nat → Int64} {th : Nat → Int32} {tn : Nat → Int32} {lev : Int32} {le : Nat → Int32} {jo : Nat → Int32} {wy : Nat → Int32} {si a b g st ts : Nat} {x y p : Nat → Nat} {z5 z6 : Option Value} (hsi : si < 3) (ha : a < 64) (hb : b < 64) (hg4 : g < 4200) (hts : ts < 4200) (hag : ag si = nI g) (hsr : sr si = nI st) (htn : tn si = nI ts) (hp : ∀ i, i < ts → th (4200 * si + i) = nI (p i) ∧ p i < 12600 ∧ lw (p i) = nI (x i) ∧ x i < 64 ∧ hg (p i) = nI (y i) ∧ y i < 64) :
    G D X A 0 0 (GQ D X A ad 17 (fun r c => r = some (.int (nI (g + 1))) ∧ ∃ wy2, c = rfW D ad nd sl sr sd (upd ag si (nI (g + 1))) lo lw hg ct ((if mt (64 * si + a) = 0 ∧ mt (64 * si + b) = 0 then upd (upd mt (64 * si + a) (nI (b + 1))) (64 * si + b) (nI (a + 1)) else mt)) (winL 1920 si sm (chgR (fun j => sm (1920 * si + j)) (min a b) (max a b) (arcKey (min a b) (max a b)) 1 (lvK (sd si) (arcKey (min a b) (max a b)) + 1))) ((if outW x y ts b 64 (wy0 a) b < 0 ∨ nI st < outW x y ts b 64 (wy0 a) b then upd th (4200 * si + ts) (nI (4200 * si + g)) else th)) ((if outW x y ts b 64 (wy0 a) b < 0 ∨ nI st < outW x y ts b 64 (wy0 a) b then upd tn si (nI (ts + 1)) else tn)) lev le jo (wy2))) ad 85 [some (.ref (ad 0)), some (.int (nI si)), some (.int (nI a)), some (.int (nI b)), some (.int (nI (4200 * si + g))), z5, z6] [] (rfW D ad nd sl sr sd ag lo lw hg ct mt sm th tn lev le jo wy) := by
  refine G_aload_n (pc := 85) M dX7_add_85 rfl ?_
  refine G_getf (pc := 86) M dX7_add_86 fl_X7_23 rfl (by first | rfl | assumption) ?_
  refine G_iload_n (pc := 89) M dX7_add_89 rfl ?_
  first | refine G_dup2 (pc := 90) M dX7_add_90 rfl rfl ?_ | refine G_dup2L (pc := 90) M dX7_add_90 rfl ?_
  refine G_iaload (pc := 91) M dX7_add_91 rfl (by first | assumption | exact vp_in_nI (by omega) (by omega)) ?_
  rw [cl_nI (by omega), hag]
  refine G_iconst (pc := 92) (v := 1) M dX7_add_92 (by decide +kernel) ?_
  refine G_iadd (pc := 93) M dX7_add_93 ?_
  rw [nI_1]
  refine G_iastore (pc := 94) M dX7_add_94 rfl (by first | assumption | exact vp_in_nI (by omega) (by omega)) ?_
  try dsimp only [List.set]
  rw [cl_nI (by omega)]
  refine G_aload_n (pc := 95) M dX7_add_95 rfl ?_
  refine G_iload_n (pc := 96) M dX7_add_96 rfl ?_
  refine G_iload_n (pc := 97) M dX7_add_97 rfl ?_
  refine G_iload_n (pc := 98) M dX7_add_98 rfl ?_
  refine G_callv (pc := 99) M [0, 7, 8, 12, 13, 16] dX7_add_99 mv_X7_83 (c_shortest D _ (fun j => ad (pn [0, 7, 8, 12, 13, 16] j)) _ lw hg th tn wy si a b ts x y p hsi ha hb (by omega) htn hp rfl rfl rfl rfl rfl) rfl ⟨rfl, rfl, rfl, rfl, rfl, rfl, trivial⟩ rfl rfl rfl rfl (Nat.le_of_ble_eq_true rfl) (Nat.le_of_ble_eq_true rfl) (Nat.le_of_ble_eq_true rfl) ⟨Nat.zero_le _, Nat.zero_le _⟩ (fun v c1 hq hlen => ?_)
  obtain ⟨rfl, rfl⟩ := hq
  try dsimp only [sall, List.set, Option.toList, List.cons_append, List.nil_append]
  refine G_istore (pc := 102) M dX7_add_102 (Nat.le_of_ble_eq_true rfl) ?_
  exact G_weak (fun r c q => ⟨q.1, _, q.2⟩) (ra_t1 M hr (nd := nd) (sl := sl) (sr := sr) (sd := sd) (ag := upd ag si (nI (g + 1))) (lo := lo) (lw := lw) (hg := hg) (ct := ct) (mt := mt) (sm := sm) (th := th) (tn := tn) (lev := lev) (le := le) (jo := jo) (wy := outW x y ts b 64 (wy0 a)) (g := g) (st := st) (ts := ts) (d := outW x y ts b 64 (wy0 a) b) hsi ha hb hg4 hts (by simp [upd]) hsr htn)
theorem r_add (D : DD) (l : Launch) (ad : Nat → Nat) (nd : Nat → Int32) (sl : Nat → Int32) (sr : Nat → Int32) (sd : Nat → Int64) (ag : Nat → Int32) (lo : Nat → Int32) (lw : Nat → Int32) (hg : Nat → Int32) (ct : Nat → Int32) (mt : Nat → Int32) (sm : Nat → Int64) (th : Nat → Int32) (tn : Nat → Int32) (lev : Int32) (le : Nat → Int32) (jo : Nat → Int32) (wy : Nat → Int32) (s av bv : Int32) (nn g st ts : Nat) (x y p : Nat → Nat) (hnd : okS s = true → nd s.toNatClampNeg = nI nn) (hn : nn ≤ 64) (hg4 : g < 4200) (hts : ts < 4200) (hag : okS s = true → ag s.toNatClampNeg = nI g) (hsr : okS s = true → sr s.toNatClampNeg = nI st) (htn : okS s = true → tn s.toNatClampNeg = nI ts) (hp : okS s = true → ∀ i, i < ts → th (4200 * s.toNatClampNeg + i) = nI (p i) ∧ p i < 12600 ∧ p i ≠ 4200 * s.toNatClampNeg + g ∧ lw (p i) = nI (x i) ∧ x i < 64 ∧ hg (p i) = nI (y i) ∧ y i < 64) :
    Ct D l mi_X7_add [.ref (ad 0), .int s, .int av, .int bv] ad (rfW D ad nd sl sr sd ag lo lw hg ct mt sm th tn lev le jo wy) (fun r c => (arB nd s av bv = false ∧ r = some (.int (-1)) ∧ c = rfW D ad nd sl sr sd ag lo lw hg ct mt sm th tn lev le jo wy) ∨ (∃ si a b, si < 3 ∧ s = nI si ∧ a < nn ∧ av = nI a ∧ b < nn ∧ bv = nI b ∧ ¬ a = b ∧ arB nd s av bv = true ∧ r = some (.int (nI (g + 1))) ∧ ∃ wy2, c = rfW D ad nd sl sr sd (upd ag si (nI (g + 1))) (cntL (cntL lo ct (sl si) si a) (cntC ct (sl si) si a) (sl si) si b) (upd lw (4200 * si + g) (nI (min a b))) (upd hg (4200 * si + g) (nI (max a b))) (cntC (cntC ct (sl si) si a) (sl si) si b) ((if mt (64 * si + a) = 0 ∧ mt (64 * si + b) = 0 then upd (upd mt (64 * si + a) (nI (b + 1))) (64 * si + b) (nI (a + 1)) else mt)) (winL 1920 si sm (chgR (fun j => sm (1920 * si + j)) (min a b) (max a b) (arcKey (min a b) (max a b)) 1 (lvK (sd si) (arcKey (min a b) (max a b)) + 1))) ((if outW x y ts b 64 (wy0 a) b < 0 ∨ nI st < outW x y ts b 64 (wy0 a) b then upd th (4200 * si + ts) (nI (4200 * si + g)) else th)) ((if outW x y ts b 64 (wy0 a) b < 0 ∨ nI st < outW x y ts b 64 (wy0 a) b then upd tn si (nI (ts + 1)) else tn)) lev le jo (wy2))) := by
  refine Ct.of (by decide +kernel) (Nat.le_of_ble_eq_true rfl) (fun X A hX M hr => ?_)
  subst hX
  refine G_aload_n (pc := 0) M dX7_add_0 rfl ?_
  refine G_iload_n (pc := 1) M dX7_add_1 rfl ?_
  refine G_iload_n (pc := 2) M dX7_add_2 rfl ?_
  refine G_callv (pc := 3) M [0, 1] dX7_add_3 mv_X7_76 (c_isNode D _ (fun j => ad (pn [0, 1] j)) _ nd s av rfl) rfl ⟨rfl, rfl, trivial⟩ rfl rfl rfl rfl (Nat.le_of_ble_eq_true rfl) (Nat.le_of_ble_eq_true rfl) (Nat.le_of_ble_eq_true rfl) ⟨Nat.zero_le _, Nat.zero_le _⟩ (fun v c1 hq hlen => ?_)
  obtain ⟨rfl, rfl⟩ := hq
  try dsimp only [sall, List.set, Option.toList, List.cons_append, List.nil_append]
  refine G_if_eq (pc := 6) M 23 dX7_add_6 (by decide) (fun h6 => ?_) (fun h6 => ?_)
  · have e5 : arB nd s av bv = false := by simp [arB, bz0 h6]
    refine G_iconst (pc := 23) (v := -1) M dX7_add_23 (by decide +kernel) ?_
    exact G_iret M hr dX7_add_24 (Eq.trans (b := 17) rfl rfl) (Or.inl ⟨e5, rfl, rfl⟩)
  · have h6b := bz1 h6
    refine G_aload_n (pc := 9) M dX7_add_9 rfl ?_
    refine G_iload_n (pc := 10) M dX7_add_10 rfl ?_
    refine G_iload_n (pc := 11) M dX7_add_11 rfl ?_
    refine G_callv (pc := 12) M [0, 1] dX7_add_12 mv_X7_76 (c_isNode D _ (fun j => ad (pn [0, 1] j)) _ nd s bv rfl) rfl ⟨rfl, rfl, trivial⟩ rfl rfl rfl rfl (Nat.le_of_ble_eq_true rfl) (Nat.le_of_ble_eq_true rfl) (Nat.le_of_ble_eq_true rfl) ⟨Nat.zero_le _, Nat.zero_le _⟩ (fun v c1 hq hlen => ?_)
    obtain ⟨rfl, rfl⟩ := hq
    try dsimp only [sall, List.set, Option.toList, List.cons_append, List.nil_append]
    refine G_if_eq (pc := 15) M 23 dX7_add_15 (by decide) (fun h15 => ?_) (fun h15 => ?_)
    · have e5 : arB nd s av bv = false := by simp [arB, bz0 h15]
      refine G_iconst (pc := 23) (v := -1) M dX7_add_23 (by decide +kernel) ?_
      exact G_iret M hr dX7_add_24 (Eq.trans (b := 17) rfl rfl) (Or.inl ⟨e5, rfl, rfl⟩)
    · have h15b := bz1 h15
      refine G_iload_n (pc := 18) M dX7_add_18 rfl ?_
      refine G_iload_n (pc := 19) M dX7_add_19 rfl ?_
      refine G_icmp_ne (pc := 20) M 25 dX7_add_20 (by decide) (fun h20 => ?_) (fun h20 => ?_)
      · have e5 : arB nd s av bv = true := by simp [arB, h6b, h15b, h20]
        have hs := okN_s h6b
        have hnd := hnd hs
        have hag := hag hs
        have hsr := hsr hs
        have htn := htn hs
        have hp := hp hs
        obtain ⟨si, a, hsi, rfl, hk, rfl⟩ := okN_of h6b hnd hn
        obtain ⟨si2, b, -, -, hk2, rfl⟩ := okN_of h15b hnd hn
        rw [cl_nI (n := si) (by omega)] at hag hsr htn hp
        have hp2 : ∀ i, i < ts → th (4200 * si + i) = nI (p i) ∧ p i < 12600 ∧ (upd lw (4200 * si + g) (nI (min a b))) (p i) = nI (x i) ∧ x i < 64 ∧ (upd hg (4200 * si + g) (nI (max a b))) (p i) = nI (y i) ∧ y i < 64 := by
          intro i hi
          obtain ⟨q1, q2, q3, q4, q5, q6, q7⟩ := hp i hi
          exact ⟨q1, q2, by simp only [upd]; rw [if_neg q3]; exact q4, q5, by simp only [upd]; rw [if_neg q3]; exact q6, q7⟩
        have fin85 : ∀ m1 m2 : Int32, m1 = nI (min a b) → m2 = nI (max a b) → ∀ z5 z6 : Option Value, G D X A 0 0 (GQ D X A ad 17 (fun r c => (arB nd (nI si) (nI a) (nI b) = false ∧ r = some (.int (-1)) ∧ c = rfW D ad nd sl sr sd ag lo lw hg ct mt sm th tn lev le jo wy) ∨ (∃ si2 a2 b2, si2 < 3 ∧ nI si = nI si2 ∧ a2 < nn ∧ nI a = nI a2 ∧ b2 < nn ∧ nI b = nI b2 ∧ ¬ a2 = b2 ∧ arB nd (nI si) (nI a) (nI b) = true ∧ r = some (.int (nI (g + 1))) ∧ ∃ wy2, c = rfW D ad nd sl sr sd (upd ag si2 (nI (g + 1))) (cntL (cntL lo ct (sl si2) si2 a2) (cntC ct (sl si2) si2 a2) (sl si2) si2 b2) (upd lw (4200 * si2 + g) (nI (min a2 b2))) (upd hg (4200 * si2 + g) (nI (max a2 b2))) (cntC (cntC ct (sl si2) si2 a2) (sl si2) si2 b2) ((if mt (64 * si2 + a2) = 0 ∧ mt (64 * si2 + b2) = 0 then upd (upd mt (64 * si2 + a2) (nI (b2 + 1))) (64 * si2 + b2) (nI (a2 + 1)) else mt)) (winL 1920 si2 sm (chgR (fun j => sm (1920 * si2 + j)) (min a2 b2) (max a2 b2) (arcKey (min a2 b2) (max a2 b2)) 1 (lvK (sd si2) (arcKey (min a2 b2) (max a2 b2)) + 1))) ((if outW x y ts b2 64 (wy0 a2) b2 < 0 ∨ nI st < outW x y ts b2 64 (wy0 a2) b2 then upd th (4200 * si2 + ts) (nI (4200 * si2 + g)) else th)) ((if outW x y ts b2 64 (wy0 a2) b2 < 0 ∨ nI st < outW x y ts b2 64 (wy0 a2) b2 then upd tn si2 (nI (ts + 1)) else tn)) lev le jo (wy2)))) ad 85 [some (.ref (ad 0)), some (.int (nI si)), some (.int (nI a)), some (.int (nI b)), some (.int (nI (4200 * si + g))), z5, z6] [] (rfW D ad nd sl sr sd ag (cntL (cntL lo ct (sl si) si a) (cntC ct (sl si) si a) (sl si) si b) (upd lw (4200 * si + g) m1) (upd hg (4200 * si + g) m2) (cntC (cntC ct (sl si) si a) (sl si) si b) mt sm th tn lev le jo wy) := by
          intro m1 m2 e1 e2 z5 z6
          subst e1 e2
          exact G_weak (fun r c q => Or.inr ⟨si, a, b, hsi, rfl, hk, rfl, hk2, rfl, fun z => h20 (by rw [z]), e5, q.1, q.2⟩) (ra_t0 M hr (nd := nd) (sl := sl) (sr := sr) (sd := sd) (ag := ag) (lo := cntL (cntL lo ct (sl si) si a) (cntC ct (sl si) si a) (sl si) si b) (lw := upd lw (4200 * si + g) (nI (min a b))) (hg := upd hg (4200 * si + g) (nI (max a b))) (ct := cntC (cntC ct (sl si) si a) (sl si) si b) (mt := mt) (sm := sm) (th := th) (tn := tn) (lev := lev) (le := le) (jo := jo) (wy := wy) (p := p) (st := st) hsi (by omega) (by omega) hg4 hts hag hsr htn hp2)
        have hmn : ¬ nI b ≤ nI a → nI a = nI (min a b) ∧ nI b = nI (max a b) := fun q => by
          have : ¬ b ≤ a := fun z => q (nI_le z (by omega))
          rw [Nat.min_eq_left (by omega), Nat.max_eq_right (by omega)]
          exact ⟨rfl, rfl⟩
        have hmx : nI b ≤ nI a → nI b = nI (min a b) ∧ nI a = nI (max a b) := fun q => by
          have : b ≤ a := (nI_leI (by omega) (by omega)).mp q
          rw [Nat.min_eq_right (by omega), Nat.max_eq_left (by omega)]
          exact ⟨rfl, rfl⟩
        refine G_aload_n (pc := 25) M dX7_add_25 rfl ?_
        refine G_iload_n (pc := 26) M dX7_add_26 rfl ?_
        refine G_iload_n (pc := 27) M dX7_add_27 rfl ?_
        refine G_callv (pc := 28) M [0, 2, 6, 9] dX7_add_28 mv_X7_80 (c_count D _ (fun j => ad (pn [0, 2, 6, 9] j)) _ sl lo ct si a hsi (by omega) rfl rfl rfl) rfl ⟨rfl, rfl, rfl, rfl, trivial⟩ rfl rfl rfl rfl (Nat.le_of_ble_eq_true rfl) (Nat.le_of_ble_eq_true rfl) (Nat.le_of_ble_eq_true rfl) ⟨Nat.zero_le _, Nat.zero_le _⟩ (fun v c1 hq hlen => ?_)
        obtain ⟨rfl, rfl⟩ := hq
        try dsimp only [sall, List.set, Option.toList, List.cons_append, List.nil_append]
        refine G_aload_n (pc := 31) M dX7_add_31 rfl ?_
        refine G_iload_n (pc := 32) M dX7_add_32 rfl ?_
        refine G_iload_n (pc := 33) M dX7_add_33 rfl ?_
        refine G_callv (pc := 34) M [0, 2, 6, 9] dX7_add_34 mv_X7_80 (c_count D _ (fun j => ad (pn [0, 2, 6, 9] j)) _ sl (cntL lo ct (sl si) si a) (cntC ct (sl si) si a) si b hsi (by omega) rfl rfl rfl) rfl ⟨rfl, rfl, rfl, rfl, trivial⟩ rfl rfl rfl rfl (Nat.le_of_ble_eq_true rfl) (Nat.le_of_ble_eq_true rfl) (Nat.le_of_ble_eq_true rfl) ⟨Nat.zero_le _, Nat.zero_le _⟩ (fun v c1 hq hlen => ?_)
        obtain ⟨rfl, rfl⟩ := hq
        try dsimp only [sall, List.set, Option.toList, List.cons_append, List.nil_append]
        refine G_sipush (pc := 37) (v := 4200) M dX7_add_37 (by decide +kernel) ?_
        refine G_iload_n (pc := 40) M dX7_add_40 rfl ?_
        refine G_imul (pc := 41) M dX7_add_41 ?_
        refine G_aload_n (pc := 42) M dX7_add_42 rfl ?_
        refine G_getf (pc := 43) M dX7_add_43 fl_X7_23 rfl (by first | rfl | assumption) ?_
        refine G_iload_n (pc := 46) M dX7_add_46 rfl ?_
        refine G_iaload (pc := 47) M dX7_add_47 rfl (by first | assumption | exact vp_in_nI (by omega) (by omega)) ?_
        rw [cl_nI (by omega), hag]
        refine G_iadd (pc := 48) M dX7_add_48 ?_
        rw [ixC]
        refine G_istore (pc := 49) M dX7_add_49 (Nat.le_of_ble_eq_true rfl) ?_
        refine G_aload_n (pc := 51) M dX7_add_51 rfl ?_
        refine G_getf (pc := 52) M dX7_add_52 fl_X7_29 rfl (by first | rfl | assumption) ?_
        refine G_iload (pc := 55) M dX7_add_55 rfl ?_
        refine G_iload_n (pc := 57) M dX7_add_57 rfl ?_
        refine G_iload_n (pc := 58) M dX7_add_58 rfl ?_
        refine G_icmp_ge (pc := 59) M 66 dX7_add_59 (by decide) (fun h59 => ?_) (fun h59 => ?_)
        · refine G_iload_n (pc := 66) M dX7_add_66 rfl ?_
          refine G_iastore (pc := 67) M dX7_add_67 rfl (vp_in_nI (by omega) (by omega)) ?_
          try dsimp only [List.set]
          rw [cl_nI (by omega)]
          refine G_aload_n (pc := 68) M dX7_add_68 rfl ?_
          refine G_getf (pc := 69) M dX7_add_69 fl_X7_32 rfl (by first | rfl | assumption) ?_
          refine G_iload (pc := 72) M dX7_add_72 rfl ?_
          refine G_iload_n (pc := 74) M dX7_add_74 rfl ?_
          refine G_iload_n (pc := 75) M dX7_add_75 rfl ?_
          refine G_icmp_ge (pc := 76) M 83 dX7_add_76 (by decide) (fun h76 => ?_) (fun h76 => ?_)
          · refine G_iload_n (pc := 83) M dX7_add_83 rfl ?_
            refine G_iastore (pc := 84) M dX7_add_84 rfl (vp_in_nI (by omega) (by omega)) ?_
            try dsimp only [List.set]
            rw [cl_nI (by omega)]
            first | exact absurd h76 h59 | exact absurd h59 h76 | exact fin85 _ _ (hmx h59).1 (hmx h59).2 _ _ | exact fin85 _ _ (hmn h59).1 (hmn h59).2 _ _
          · refine G_iload_n (pc := 79) M dX7_add_79 rfl ?_
            refine G_goto (pc := 80) M 84 dX7_add_80 (by decide) ?_
            refine G_iastore (pc := 84) M dX7_add_84 rfl (vp_in_nI (by omega) (by omega)) ?_
            try dsimp only [List.set]
            rw [cl_nI (by omega)]
            first | exact absurd h76 h59 | exact absurd h59 h76 | exact fin85 _ _ (hmx h59).1 (hmx h59).2 _ _ | exact fin85 _ _ (hmn h59).1 (hmn h59).2 _ _
        · refine G_iload_n (pc := 62) M dX7_add_62 rfl ?_
          refine G_goto (pc := 63) M 67 dX7_add_63 (by decide) ?_
          refine G_iastore (pc := 67) M dX7_add_67 rfl (vp_in_nI (by omega) (by omega)) ?_
          try dsimp only [List.set]
          rw [cl_nI (by omega)]
          refine G_aload_n (pc := 68) M dX7_add_68 rfl ?_
          refine G_getf (pc := 69) M dX7_add_69 fl_X7_32 rfl (by first | rfl | assumption) ?_
          refine G_iload (pc := 72) M dX7_add_72 rfl ?_
          refine G_iload_n (pc := 74) M dX7_add_74 rfl ?_
          refine G_iload_n (pc := 75) M dX7_add_75 rfl ?_
          refine G_icmp_ge (pc := 76) M 83 dX7_add_76 (by decide) (fun h76 => ?_) (fun h76 => ?_)
          · refine G_iload_n (pc := 83) M dX7_add_83 rfl ?_
            refine G_iastore (pc := 84) M dX7_add_84 rfl (vp_in_nI (by omega) (by omega)) ?_
            try dsimp only [List.set]
            rw [cl_nI (by omega)]
            first | exact absurd h76 h59 | exact absurd h59 h76 | exact fin85 _ _ (hmx h59).1 (hmx h59).2 _ _ | exact fin85 _ _ (hmn h59).1 (hmn h59).2 _ _
          · refine G_iload_n (pc := 79) M dX7_add_79 rfl ?_
            refine G_goto (pc := 80) M 84 dX7_add_80 (by decide) ?_
            refine G_iastore (pc := 84) M dX7_add_84 rfl (vp_in_nI (by omega) (by omega)) ?_
            try dsimp only [List.set]
            rw [cl_nI (by omega)]
            first | exact absurd h76 h59 | exact absurd h59 h76 | exact fin85 _ _ (hmx h59).1 (hmx h59).2 _ _ | exact fin85 _ _ (hmn h59).1 (hmn h59).2 _ _
      · have e5 : arB nd s av bv = false := by
          have : av = bv := by simpa using h20
          simp [arB, this]
        refine G_iconst (pc := 23) (v := -1) M dX7_add_23 (by decide +kernel) ?_
        exact G_iret M hr dX7_add_24 (Eq.trans (b := 17) rfl rfl) (Or.inl ⟨e5, rfl, rfl⟩)
