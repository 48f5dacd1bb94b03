--NORM
/-! the reference: out, begin, take -/
theorem ro_end {D : DD} {X : MX} {A : Nat → Prop} (M : CX D X A mi_X7_out.1.cls mi_X7_out.2.1 mi_X7_out.2.2.1 (miR mi_X7_out)) (hr : RT X mi_X7_out.2.2.2.1) {ad : Nat → Nat} {nd : Nat → Int32} {sl : Nat → Int32} {sr : Nat → Int32} {sd : Nat → Int64} {ag : Nat → Int32} {lo : Nat → Int32} {lw : Nat → Int32} {hg : Nat → Int32} {ct : Nat → Int32} {mt : Nat → Int32} {sm : Nat → Int64} {th : Nat → Int32} {tn : Nat → Int32} {lev : Int32} {le : Nat → Int32} {jo : Nat → Int32} {wy : Nat → Int32} {si nn : Nat} {set : Int64} (hsi : si < 3) (hnn : nn ≤ 64) (hnd : nd si = nI nn) (z4 z5 z6 z7 z8 z9 : Option Value) :
    G D X A 0 0 (GQ D X A ad 17 (fun r c => r = some (.int (bif notB (fun j => sm (1920 * si + j)) set nn then -4 else -5)) ∧ c = rfW D ad nd sl sr sd ag lo lw hg ct mt sm th tn lev le jo wy)) ad 144 [some (.ref (ad 0)), some (.int (nI si)), some (.long set), none, z4, z5, z6, z7, z8, z9] [] (rfW D ad nd sl sr sd ag lo lw hg ct mt sm th tn lev le jo wy) := by
  have e1 : ∀ z : Option Value, notB (fun j => sm (1920 * si + j)) set nn = true → G D X A 0 0 (GQ D X A ad 17 (fun r c => r = some (.int (bif notB (fun j => sm (1920 * si + j)) set nn then -4 else -5)) ∧ c = rfW D ad nd sl sr sd ag lo lw hg ct mt sm th tn lev le jo wy)) ad 188 [some (.ref (ad 0)), some (.int (nI si)), some (.long set), none, z, z5, z6, z7, z8, z9] [.int 1] (rfW D ad nd sl sr sd ag lo lw hg ct mt sm th tn lev le jo wy) := by
    intro z hb
    refine G_istore (pc := 188) M dX7_out_188 (Nat.le_of_ble_eq_true rfl) ?_
    refine G_iload (pc := 190) M dX7_out_190 rfl ?_
    refine G_if_eq (pc := 192) M 200 dX7_out_192 (by decide) (fun h192 => ?_) (fun h192 => ?_)
    · exact absurd h192 (by decide)
    · refine G_bipush (pc := 195) (v := -4) M dX7_out_195 (by decide +kernel) ?_
      refine G_goto (pc := 197) M 202 dX7_out_197 (by decide) ?_
      exact G_iret M hr dX7_out_202 rfl ⟨by rw [hb]; rfl, rfl⟩
  have e0 : ∀ z : Option Value, notB (fun j => sm (1920 * si + j)) set nn = false → G D X A 0 0 (GQ D X A ad 17 (fun r c => r = some (.int (bif notB (fun j => sm (1920 * si + j)) set nn then -4 else -5)) ∧ c = rfW D ad nd sl sr sd ag lo lw hg ct mt sm th tn lev le jo wy)) ad 188 [some (.ref (ad 0)), some (.int (nI si)), some (.long set), none, z, z5, z6, z7, z8, z9] [.int 0] (rfW D ad nd sl sr sd ag lo lw hg ct mt sm th tn lev le jo wy) := by
    intro z hb
    refine G_istore (pc := 188) M dX7_out_188 (Nat.le_of_ble_eq_true rfl) ?_
    refine G_iload (pc := 190) M dX7_out_190 rfl ?_
    refine G_if_eq (pc := 192) M 200 dX7_out_192 (by decide) (fun h192 => ?_) (fun h192 => ?_)
    · refine G_bipush (pc := 200) (v := -5) M dX7_out_200 (by decide +kernel) ?_
      exact G_iret M hr dX7_out_202 rfl ⟨by rw [hb]; rfl, rfl⟩
    · exact absurd rfl h192
  refine G_aload_n (pc := 144) M dX7_out_144 rfl ?_
  refine G_iload_n (pc := 145) M dX7_out_145 rfl ?_
  refine G_lload_n (pc := 146) M dX7_out_146 rfl ?_
  refine G_iconst (pc := 147) (v := 0) M dX7_out_147 (by decide +kernel) ?_
  refine G_iconst (pc := 148) (v := 0) M dX7_out_148 (by decide +kernel) ?_
  refine G_callv (pc := 149) M [0, 1, 11] dX7_out_149 mv_X7_124 (c_ofSet D _ (fun j => ad (pn [0, 1, 11] j)) _ nd sm si nn 0 0 set hsi hnn hnd (by omega) (by omega) rfl rfl) rfl ⟨rfl, rfl, rfl, trivial⟩ rfl rfl rfl rfl (Nat.le_of_ble_eq_true rfl) (Nat.le_of_ble_eq_true rfl) (Nat.le_of_ble_eq_true rfl) ⟨Nat.zero_le _, Nat.zero_le _⟩ (fun v c1 hq hlen => ?_)
  obtain ⟨rfl, rfl⟩ := hq
  try dsimp only [sall, List.set, Option.toList, List.cons_append, List.nil_append]
  refine G_lconst (pc := 152) (v := 0) M dX7_out_152 (by decide +kernel) ?_
  refine G_lcmp (pc := 153) M dX7_out_153 ?_
  refine G_if_ne (pc := 154) M 187 dX7_out_154 (by decide) (fun h154 => ?_) (fun h154 => ?_)
  · rw [lg_cmp_eq] at h154
    refine G_iconst (pc := 187) (v := 0) M dX7_out_187 (by decide +kernel) ?_
    first | exact e0 _ (by simp_all [notB]) | exact e1 _ (by simp_all [notB])
  · rw [lg_cmp_eq] at h154
    refine G_aload_n (pc := 157) M dX7_out_157 rfl ?_
    refine G_iload_n (pc := 158) M dX7_out_158 rfl ?_
    refine G_lload_n (pc := 159) M dX7_out_159 rfl ?_
    refine G_iconst (pc := 160) (v := 0) M dX7_out_160 (by decide +kernel) ?_
    refine G_iconst (pc := 161) (v := 1) M dX7_out_161 (by decide +kernel) ?_
    refine G_callv (pc := 162) M [0, 1, 11] dX7_out_162 mv_X7_124 (c_ofSet D _ (fun j => ad (pn [0, 1, 11] j)) _ nd sm si nn 0 1 set hsi hnn hnd (by omega) (by omega) rfl rfl) rfl ⟨rfl, rfl, rfl, trivial⟩ rfl rfl rfl rfl (Nat.le_of_ble_eq_true rfl) (Nat.le_of_ble_eq_true rfl) (Nat.le_of_ble_eq_true rfl) ⟨Nat.zero_le _, Nat.zero_le _⟩ (fun v c1 hq hlen => ?_)
    obtain ⟨rfl, rfl⟩ := hq
    try dsimp only [sall, List.set, Option.toList, List.cons_append, List.nil_append]
    refine G_lconst (pc := 165) (v := 0) M dX7_out_165 (by decide +kernel) ?_
    refine G_lcmp (pc := 166) M dX7_out_166 ?_
    refine G_if_ne (pc := 167) M 187 dX7_out_167 (by decide) (fun h167 => ?_) (fun h167 => ?_)
    · rw [lg_cmp_eq] at h167
      refine G_iconst (pc := 187) (v := 0) M dX7_out_187 (by decide +kernel) ?_
      first | exact e0 _ (by simp_all [notB]) | exact e1 _ (by simp_all [notB])
    · rw [lg_cmp_eq] at h167
      refine G_aload_n (pc := 170) M dX7_out_170 rfl ?_
      refine G_iload_n (pc := 171) M dX7_out_171 rfl ?_
      refine G_lload_n (pc := 172) M dX7_out_172 rfl ?_
      refine G_iconst (pc := 173) (v := 0) M dX7_out_173 (by decide +kernel) ?_
      refine G_iconst (pc := 174) (v := 2) M dX7_out_174 (by decide +kernel) ?_
      refine G_callv (pc := 175) M [0, 1, 11] dX7_out_175 mv_X7_124 (c_ofSet D _ (fun j => ad (pn [0, 1, 11] j)) _ nd sm si nn 0 2 set hsi hnn hnd (by omega) (by omega) rfl rfl) rfl ⟨rfl, rfl, rfl, trivial⟩ rfl rfl rfl rfl (Nat.le_of_ble_eq_true rfl) (Nat.le_of_ble_eq_true rfl) (Nat.le_of_ble_eq_true rfl) ⟨Nat.zero_le _, Nat.zero_le _⟩ (fun v c1 hq hlen => ?_)
      obtain ⟨rfl, rfl⟩ := hq
      try dsimp only [sall, List.set, Option.toList, List.cons_append, List.nil_append]
      refine G_lconst (pc := 178) (v := 0) M dX7_out_178 (by decide +kernel) ?_
      refine G_lcmp (pc := 179) M dX7_out_179 ?_
      refine G_if_ne (pc := 180) M 187 dX7_out_180 (by decide) (fun h180 => ?_) (fun h180 => ?_)
      · rw [lg_cmp_eq] at h180
        refine G_iconst (pc := 187) (v := 0) M dX7_out_187 (by decide +kernel) ?_
        first | exact e0 _ (by simp_all [notB]) | exact e1 _ (by simp_all [notB])
      · rw [lg_cmp_eq] at h180
        refine G_iconst (pc := 183) (v := 1) M dX7_out_183 (by decide +kernel) ?_
        refine G_goto (pc := 184) M 188 dX7_out_184 (by decide) ?_
        first | exact e0 _ (by simp_all [notB]) | exact e1 _ (by simp_all [notB])
theorem ro_loop {D : DD} {X : MX} {A : Nat → Prop} (M : CX D X A mi_X7_out.1.cls mi_X7_out.2.1 mi_X7_out.2.2.1 (miR mi_X7_out)) (hr : RT X mi_X7_out.2.2.2.1) {ad : Nat → Nat} {nd : Nat → Int32} {sl : Nat → Int32} {sr : Nat → Int32} {sd : Nat → Int64} {ag : Nat → Int32} {lo : Nat → Int32} {lw : Nat → Int32} {hg : Nat → Int32} {ct : Nat → Int32} {mt : Nat → Int32} {sm : Nat → Int64} {th : Nat → Int32} {tn : Nat → Int32} {lev : Int32} {le : Nat → Int32} {jo : Nat → Int32} {wy : Nat → Int32} {si nn : Nat} {set : Int64} (hsi : si < 3) (hnn : nn ≤ 64) (hnd : nd si = nI nn) : ∀ m : Nat, m ≤ 10 → ∀ z5 z6 z7 z8 z9 : Option Value,
    G D X A 0 0 (GQ D X A ad 17 (fun r c => r = some (.int (oA (fun j => sm (1920 * si + j)) set nn (oS (fun j => sm (1920 * si + j)) set nn m))) ∧ c = rfW D ad nd sl sr sd ag lo lw hg ct mt sm th tn (oL (oS (fun j => sm (1920 * si + j)) set nn m)) le jo wy)) ad 19 [some (.ref (ad 0)), some (.int (nI si)), some (.long set), none, some (.int (nI m - 1)), z5, z6, z7, z8, z9] [] (rfW D ad nd sl sr sd ag lo lw hg ct mt sm th tn (-2) le jo wy) := by
  intro m
  induction m with
  | zero =>
    intro _ z5 z6 z7 z8 z9
    refine G_iload (pc := 19) M dX7_out_19 rfl ?_
    refine G_if_lt (pc := 21) M 144 dX7_out_21 (by decide) (fun h21 => ?_) (fun h21 => ?_)
    · exact ro_end M hr hsi hnn hnd _ _ _ _ _ _
    · exact absurd ((dec_neg (by omega)).mpr rfl) h21
  | succ m ih =>
    intro hm z5 z6 z7 z8 z9
    rw [nI_pred]
    generalize hc : osum (fun j => sm (1920 * si + j)) set (3 * m) nn = c
    generalize he : osum (fun j => sm (1920 * si + j)) set (3 * m + 1) nn = e
    generalize hf : osum (fun j => sm (1920 * si + j)) set (3 * m + 2) nn = f
    have nxt : oK (fun j => sm (1920 * si + j)) set m nn = none → ∀ z5 z6 z7 z8 z9 : Option Value, G D X A 0 0 (GQ D X A ad 17 (fun r c => r = some (.int (oA (fun j => sm (1920 * si + j)) set nn (oS (fun j => sm (1920 * si + j)) set nn (m + 1)))) ∧ c = rfW D ad nd sl sr sd ag lo lw hg ct mt sm th tn (oL (oS (fun j => sm (1920 * si + j)) set nn (m + 1))) le jo wy)) ad 138 [some (.ref (ad 0)), some (.int (nI si)), some (.long set), none, some (.int (nI m)), z5, z6, z7, z8, z9] [] (rfW D ad nd sl sr sd ag lo lw hg ct mt sm th tn (-2) le jo wy) := by
      intro ho z5 z6 z7 z8 z9
      refine G_iinc (pc := 138) (v := -1) M dX7_out_138 rfl (by decide +kernel) (Nat.le_of_ble_eq_true rfl) ?_
      refine G_goto (pc := 141) M 19 dX7_out_141 (by decide) ?_
      have := ih (by omega)
      rw [m1_sub]
      simp only [oS, ho]
      exact this _ _ _ _ _
    have e0 : oK (fun j => sm (1920 * si + j)) set m nn = none → ∀ z9 : Option Value, ∀ x5 x7 : Int64, G D X A 0 0 (GQ D X A ad 17 (fun r c => r = some (.int (oA (fun j => sm (1920 * si + j)) set nn (oS (fun j => sm (1920 * si + j)) set nn (m + 1)))) ∧ c = rfW D ad nd sl sr sd ag lo lw hg ct mt sm th tn (oL (oS (fun j => sm (1920 * si + j)) set nn (m + 1))) le jo wy)) ad 107 [some (.ref (ad 0)), some (.int (nI si)), some (.long set), none, some (.int (nI m)), some (.long x5), none, some (.long x7), none, z9] [.int 0] (rfW D ad nd sl sr sd ag lo lw hg ct mt sm th tn (-2) le jo wy) := by
      intro ho z9 x5 x7
      refine G_istore (pc := 107) M dX7_out_107 (Nat.le_of_ble_eq_true rfl) ?_
      refine G_iload (pc := 109) M dX7_out_109 rfl ?_
      refine G_if_eq (pc := 111) M 138 dX7_out_111 (by decide) (fun h111 => ?_) (fun h111 => ?_)
      · exact nxt ho _ _ _ _ _
      · exact absurd rfl h111
    have e1 : ∀ kk : Nat, kk < 4096 → (c = 1 ∨ c = -1) → c * e = lN kk → c * f = lN kk * lN kk → ∀ z9 : Option Value, G D X A 0 0 (GQ D X A ad 17 (fun r c => r = some (.int (oA (fun j => sm (1920 * si + j)) set nn (oS (fun j => sm (1920 * si + j)) set nn (m + 1)))) ∧ c = rfW D ad nd sl sr sd ag lo lw hg ct mt sm th tn (oL (oS (fun j => sm (1920 * si + j)) set nn (m + 1))) le jo wy)) ad 107 [some (.ref (ad 0)), some (.int (nI si)), some (.long set), none, some (.int (nI m)), some (.long c), none, some (.long (lN kk)), none, z9] [.int 1] (rfW D ad nd sl sr sd ag lo lw hg ct mt sm th tn (-2) le jo wy) := by
      intro kk hk h0 h1 h2 z9
      have yes : ldB set nn kk c = true → oK (fun j => sm (1920 * si + j)) set m nn = some kk := fun hh => oK_some (by rw [hc]; exact h0) hk (by rw [hc, he]; exact h1) (by rw [hc, hf]; exact h2) (by rw [hc]; exact hh)
      have no : ldB set nn kk c = false → oK (fun j => sm (1920 * si + j)) set m nn = none := fun hh => oK_none2 (fun k2 a b _ d => by
        rw [hc, he, h1] at b
        rw [hc] at d
        have := lN_inj4 hk a b
        subst this
        rw [hh] at d
        cases d)
      refine G_istore (pc := 107) M dX7_out_107 (Nat.le_of_ble_eq_true rfl) ?_
      refine G_iload (pc := 109) M dX7_out_109 rfl ?_
      refine G_if_eq (pc := 111) M 138 dX7_out_111 (by decide) (fun h111 => ?_) (fun h111 => ?_)
      · exact absurd h111 (by decide)
      · refine G_aload_n (pc := 114) M dX7_out_114 rfl ?_
        refine G_iload_n (pc := 115) M dX7_out_115 rfl ?_
        refine G_lload_n (pc := 116) M dX7_out_116 rfl ?_
        refine G_lload (pc := 117) M dX7_out_117 rfl ?_
        refine G_l2i (pc := 119) M dX7_out_119 ?_
        rw [lN_i]
        refine G_lload (pc := 120) M dX7_out_120 rfl ?_
        refine G_callv (pc := 122) M [0, 1] dX7_out_122 mv_X7_130 (c_leads D _ (fun j => ad (pn [0, 1] j)) _ nd si nn kk set c hsi hnn hnd hk rfl) rfl ⟨rfl, rfl, trivial⟩ rfl rfl rfl rfl (Nat.le_of_ble_eq_true rfl) (Nat.le_of_ble_eq_true rfl) (Nat.le_of_ble_eq_true rfl) ⟨Nat.zero_le _, Nat.zero_le _⟩ (fun v c1 hq hlen => ?_)
        obtain ⟨rfl, rfl⟩ := hq
        try dsimp only [sall, List.set, Option.toList, List.cons_append, List.nil_append]
        refine G_if_eq (pc := 125) M 138 dX7_out_125 (by decide) (fun h125 => ?_) (fun h125 => ?_)
        · have ho := no (bz0 h125)
          exact nxt ho _ _ _ _ _
        · have ho := yes (bz1 h125)
          refine G_aload_n (pc := 128) M dX7_out_128 rfl ?_
          refine G_iload (pc := 129) M dX7_out_129 rfl ?_
          refine G_putfi (pc := 131) M dX7_out_131 fl_X7_50 rfl (Nat.le_of_ble_eq_true rfl) ?_
          try dsimp only [List.set]
          refine G_lload (pc := 134) M dX7_out_134 rfl ?_
          refine G_l2i (pc := 136) M dX7_out_136 ?_
          rw [lN_i]
          exact G_iret M hr dX7_out_137 rfl ⟨by simp only [oS, oA, ho], by simp only [oS, oL, ho]⟩
    refine G_iload (pc := 19) M dX7_out_19 rfl ?_
    refine G_if_lt (pc := 21) M 144 dX7_out_21 (by decide) (fun h21 => ?_) (fun h21 => ?_)
    · exact absurd h21 (nI_pos (by omega))
    · refine G_aload_n (pc := 24) M dX7_out_24 rfl ?_
      refine G_iload_n (pc := 25) M dX7_out_25 rfl ?_
      refine G_lload_n (pc := 26) M dX7_out_26 rfl ?_
      refine G_iload (pc := 27) M dX7_out_27 rfl ?_
      refine G_iconst (pc := 29) (v := 0) M dX7_out_29 (by decide +kernel) ?_
      refine G_callv (pc := 30) M [0, 1, 11] dX7_out_30 mv_X7_124 (c_ofSet D _ (fun j => ad (pn [0, 1, 11] j)) _ nd sm si nn m 0 set hsi hnn hnd (by omega) (by omega) rfl rfl) rfl ⟨rfl, rfl, rfl, trivial⟩ rfl rfl rfl rfl (Nat.le_of_ble_eq_true rfl) (Nat.le_of_ble_eq_true rfl) (Nat.le_of_ble_eq_true rfl) ⟨Nat.zero_le _, Nat.zero_le _⟩ (fun v c1 hq hlen => ?_)
      obtain ⟨rfl, rfl⟩ := hq
      try dsimp only [sall, List.set, Option.toList, List.cons_append, List.nil_append]
      rw [Nat.add_zero (3 * m), hc]
      refine G_lstore (pc := 33) M dX7_out_33 (Nat.le_of_ble_eq_true rfl) ?_
      refine G_lload (pc := 35) M dX7_out_35 rfl ?_
      refine G_aload_n (pc := 37) M dX7_out_37 rfl ?_
      refine G_iload_n (pc := 38) M dX7_out_38 rfl ?_
      refine G_lload_n (pc := 39) M dX7_out_39 rfl ?_
      refine G_iload (pc := 40) M dX7_out_40 rfl ?_
      refine G_iconst (pc := 42) (v := 1) M dX7_out_42 (by decide +kernel) ?_
      refine G_callv (pc := 43) M [0, 1, 11] dX7_out_43 mv_X7_124 (c_ofSet D _ (fun j => ad (pn [0, 1, 11] j)) _ nd sm si nn m 1 set hsi hnn hnd (by omega) (by omega) rfl rfl) rfl ⟨rfl, rfl, rfl, trivial⟩ rfl rfl rfl rfl (Nat.le_of_ble_eq_true rfl) (Nat.le_of_ble_eq_true rfl) (Nat.le_of_ble_eq_true rfl) ⟨Nat.zero_le _, Nat.zero_le _⟩ (fun v c1 hq hlen => ?_)
      obtain ⟨rfl, rfl⟩ := hq
      try dsimp only [sall, List.set, Option.toList, List.cons_append, List.nil_append]
      rw [he]
      refine G_lmul (pc := 46) M dX7_out_46 ?_
      refine G_lstore (pc := 47) M dX7_out_47 (Nat.le_of_ble_eq_true rfl) ?_
      refine G_lload (pc := 49) M dX7_out_49 rfl ?_
      refine G_lconst (pc := 51) (v := 1) M dX7_out_51 (by decide +kernel) ?_
      refine G_lcmp (pc := 52) M dX7_out_52 ?_
      refine G_if_eq (pc := 53) M 65 dX7_out_53 (by decide) (fun h53 => ?_) (fun h53 => ?_)
      · rw [lg_cmp_eq] at h53
        have h0 : c = 1 ∨ c = -1 := Or.inl h53
        refine G_lload (pc := 65) M dX7_out_65 rfl ?_
        refine G_lconst (pc := 67) (v := 0) M dX7_out_67 (by decide +kernel) ?_
        refine G_lcmp (pc := 68) M dX7_out_68 ?_
        refine G_if_lt (pc := 69) M 106 dX7_out_69 (by decide) (fun h69 => ?_) (fun h69 => ?_)
        · rw [lg_cmp_lt] at h69
          have ho : oK (fun j => sm (1920 * si + j)) set m nn = none := oK_none2 (fun k2 a b _ _ => by
            rw [hc, he] at b
            rw [b, Int64.lt_iff_toInt_lt, lN_toInt (by omega)] at h69
            exact absurd h69 (by simp))
          refine G_iconst (pc := 106) (v := 0) M dX7_out_106 (by decide +kernel) ?_
          first | exact e0 ho _ _ _ | (rw [hkk]; exact e1 kk (by omega) h0 hkk (by rw [h99b, hkk]) _)
        · rw [lg_cmp_lt] at h69
          obtain ⟨kk, hk63, hkk⟩ := pk_lOf h69
          refine G_lload (pc := 72) M dX7_out_72 rfl ?_
          refine G_ldc2 (pc := 74) M dX7_out_74 cn_X7_128 ?_
          refine G_lcmp (pc := 77) M dX7_out_77 ?_
          refine G_if_ge (pc := 78) M 106 dX7_out_78 (by decide) (fun h78 => ?_) (fun h78 => ?_)
          · rw [lg_cmp_ge, hkk, show (4096 : Int64) = lN 4096 from rfl, pk_lLE (by omega) hk63] at h78
            have ho : oK (fun j => sm (1920 * si + j)) set m nn = none := oK_none2 (fun k2 a b _ d => by
              rw [hc, he, hkk] at b
              have := (pk_lEQ hk63 (by omega)).mp b
              omega)
            refine G_iconst (pc := 106) (v := 0) M dX7_out_106 (by decide +kernel) ?_
            first | exact e0 ho _ _ _ | (rw [hkk]; exact e1 kk (by omega) h0 hkk (by rw [h99b, hkk]) _)
          · rw [lg_cmp_ge, hkk, show (4096 : Int64) = lN 4096 from rfl, pk_lLE (by omega) hk63] at h78
            refine G_lload (pc := 81) M dX7_out_81 rfl ?_
            refine G_aload_n (pc := 83) M dX7_out_83 rfl ?_
            refine G_iload_n (pc := 84) M dX7_out_84 rfl ?_
            refine G_lload_n (pc := 85) M dX7_out_85 rfl ?_
            refine G_iload (pc := 86) M dX7_out_86 rfl ?_
            refine G_iconst (pc := 88) (v := 2) M dX7_out_88 (by decide +kernel) ?_
            refine G_callv (pc := 89) M [0, 1, 11] dX7_out_89 mv_X7_124 (c_ofSet D _ (fun j => ad (pn [0, 1, 11] j)) _ nd sm si nn m 2 set hsi hnn hnd (by omega) (by omega) rfl rfl) rfl ⟨rfl, rfl, rfl, trivial⟩ rfl rfl rfl rfl (Nat.le_of_ble_eq_true rfl) (Nat.le_of_ble_eq_true rfl) (Nat.le_of_ble_eq_true rfl) ⟨Nat.zero_le _, Nat.zero_le _⟩ (fun v c1 hq hlen => ?_)
            obtain ⟨rfl, rfl⟩ := hq
            try dsimp only [sall, List.set, Option.toList, List.cons_append, List.nil_append]
            rw [hf]
            refine G_lmul (pc := 92) M dX7_out_92 ?_
            refine G_lload (pc := 93) M dX7_out_93 rfl ?_
            refine G_lload (pc := 95) M dX7_out_95 rfl ?_
            refine G_lmul (pc := 97) M dX7_out_97 ?_
            refine G_lcmp (pc := 98) M dX7_out_98 ?_
            refine G_if_ne (pc := 99) M 106 dX7_out_99 (by decide) (fun h99 => ?_) (fun h99 => ?_)
            · rw [lg_cmp_eq] at h99
              have ho : oK (fun j => sm (1920 * si + j)) set m nn = none := oK_none2 (fun k2 a b d _ => by
                rw [hc, he] at b
                rw [hc, hf, ← b] at d
                exact h99 d)
              refine G_iconst (pc := 106) (v := 0) M dX7_out_106 (by decide +kernel) ?_
              first | exact e0 ho _ _ _ | (rw [hkk]; exact e1 kk (by omega) h0 hkk (by rw [h99b, hkk]) _)
            · rw [lg_cmp_eq] at h99
              have h99b : c * f = c * e * (c * e) := by simpa using h99
              refine G_iconst (pc := 102) (v := 1) M dX7_out_102 (by decide +kernel) ?_
              refine G_goto (pc := 103) M 107 dX7_out_103 (by decide) ?_
              first | exact e0 ho _ _ _ | (rw [hkk]; exact e1 kk (by omega) h0 hkk (by rw [h99b, hkk]) _)
      · rw [lg_cmp_eq] at h53
        refine G_lload (pc := 56) M dX7_out_56 rfl ?_
        refine G_ldc2 (pc := 58) M dX7_out_58 cn_X7_103 ?_
        refine G_lcmp (pc := 61) M dX7_out_61 ?_
        refine G_if_ne (pc := 62) M 106 dX7_out_62 (by decide) (fun h62 => ?_) (fun h62 => ?_)
        · rw [lg_cmp_eq] at h62
          have ho : oK (fun j => sm (1920 * si + j)) set m nn = none := oK_none1 (by rw [hc]; exact h53) (by rw [hc]; exact h62)
          refine G_iconst (pc := 106) (v := 0) M dX7_out_106 (by decide +kernel) ?_
          first | exact e0 ho _ _ _ | (rw [hkk]; exact e1 kk (by omega) h0 hkk (by rw [h99b, hkk]) _)
        · rw [lg_cmp_eq] at h62
          have h0 : c = 1 ∨ c = -1 := Or.inr (by simpa using h62)
          refine G_lload (pc := 65) M dX7_out_65 rfl ?_
          refine G_lconst (pc := 67) (v := 0) M dX7_out_67 (by decide +kernel) ?_
          refine G_lcmp (pc := 68) M dX7_out_68 ?_
          refine G_if_lt (pc := 69) M 106 dX7_out_69 (by decide) (fun h69 => ?_) (fun h69 => ?_)
          · rw [lg_cmp_lt] at h69
            have ho : oK (fun j => sm (1920 * si + j)) set m nn = none := oK_none2 (fun k2 a b _ _ => by
              rw [hc, he] at b
              rw [b, Int64.lt_iff_toInt_lt, lN_toInt (by omega)] at h69
              exact absurd h69 (by simp))
            refine G_iconst (pc := 106) (v := 0) M dX7_out_106 (by decide +kernel) ?_
            first | exact e0 ho _ _ _ | (rw [hkk]; exact e1 kk (by omega) h0 hkk (by rw [h99b, hkk]) _)
          · rw [lg_cmp_lt] at h69
            obtain ⟨kk, hk63, hkk⟩ := pk_lOf h69
            refine G_lload (pc := 72) M dX7_out_72 rfl ?_
            refine G_ldc2 (pc := 74) M dX7_out_74 cn_X7_128 ?_
            refine G_lcmp (pc := 77) M dX7_out_77 ?_
            refine G_if_ge (pc := 78) M 106 dX7_out_78 (by decide) (fun h78 => ?_) (fun h78 => ?_)
            · rw [lg_cmp_ge, hkk, show (4096 : Int64) = lN 4096 from rfl, pk_lLE (by omega) hk63] at h78
              have ho : oK (fun j => sm (1920 * si + j)) set m nn = none := oK_none2 (fun k2 a b _ d => by
                rw [hc, he, hkk] at b
                have := (pk_lEQ hk63 (by omega)).mp b
                omega)
              refine G_iconst (pc := 106) (v := 0) M dX7_out_106 (by decide +kernel) ?_
              first | exact e0 ho _ _ _ | (rw [hkk]; exact e1 kk (by omega) h0 hkk (by rw [h99b, hkk]) _)
            · rw [lg_cmp_ge, hkk, show (4096 : Int64) = lN 4096 from rfl, pk_lLE (by omega) hk63] at h78
              refine G_lload (pc := 81) M dX7_out_81 rfl ?_
              refine G_aload_n (pc := 83) M dX7_out_83 rfl ?_
              refine G_iload_n (pc := 84) M dX7_out_84 rfl ?_
              refine G_lload_n (pc := 85) M dX7_out_85 rfl ?_
              refine G_iload (pc := 86) M dX7_out_86 rfl ?_
              refine G_iconst (pc := 88) (v := 2) M dX7_out_88 (by decide +kernel) ?_
              refine G_callv (pc := 89) M [0, 1, 11] dX7_out_89 mv_X7_124 (c_ofSet D _ (fun j => ad (pn [0, 1, 11] j)) _ nd sm si nn m 2 set hsi hnn hnd (by omega) (by omega) rfl rfl) rfl ⟨rfl, rfl, rfl, trivial⟩ rfl rfl rfl rfl (Nat.le_of_ble_eq_true rfl) (Nat.le_of_ble_eq_true rfl) (Nat.le_of_ble_eq_true rfl) ⟨Nat.zero_le _, Nat.zero_le _⟩ (fun v c1 hq hlen => ?_)
              obtain ⟨rfl, rfl⟩ := hq
              try dsimp only [sall, List.set, Option.toList, List.cons_append, List.nil_append]
              rw [hf]
              refine G_lmul (pc := 92) M dX7_out_92 ?_
              refine G_lload (pc := 93) M dX7_out_93 rfl ?_
              refine G_lload (pc := 95) M dX7_out_95 rfl ?_
              refine G_lmul (pc := 97) M dX7_out_97 ?_
              refine G_lcmp (pc := 98) M dX7_out_98 ?_
              refine G_if_ne (pc := 99) M 106 dX7_out_99 (by decide) (fun h99 => ?_) (fun h99 => ?_)
              · rw [lg_cmp_eq] at h99
                have ho : oK (fun j => sm (1920 * si + j)) set m nn = none := oK_none2 (fun k2 a b d _ => by
                  rw [hc, he] at b
                  rw [hc, hf, ← b] at d
                  exact h99 d)
                refine G_iconst (pc := 106) (v := 0) M dX7_out_106 (by decide +kernel) ?_
                first | exact e0 ho _ _ _ | (rw [hkk]; exact e1 kk (by omega) h0 hkk (by rw [h99b, hkk]) _)
              · rw [lg_cmp_eq] at h99
                have h99b : c * f = c * e * (c * e) := by simpa using h99
                refine G_iconst (pc := 102) (v := 1) M dX7_out_102 (by decide +kernel) ?_
                refine G_goto (pc := 103) M 107 dX7_out_103 (by decide) ?_
                first | exact e0 ho _ _ _ | (rw [hkk]; exact e1 kk (by omega) h0 hkk (by rw [h99b, hkk]) _)
theorem r_out (D : DD) (l : Launch) (ad : Nat → Nat) (nd : Nat → Int32) (sl : Nat → Int32) (sr : Nat → Int32) (sd : Nat → Int64) (ag : Nat → Int32) (lo : Nat → Int32) (lw : Nat → Int32) (hg : Nat → Int32) (ct : Nat → Int32) (mt : Nat → Int32) (sm : Nat → Int64) (th : Nat → Int32) (tn : Nat → Int32) (lev : Int32) (le : Nat → Int32) (jo : Nat → Int32) (wy : Nat → Int32) (s : Int32) (set : Int64) (nn : Nat) (hnd : okS s = true → nd s.toNatClampNeg = nI nn) (hnn : nn ≤ 64) : Ct D l mi_X7_out [.ref (ad 0), .int s, .long set] ad (rfW D ad nd sl sr sd ag lo lw hg ct mt sm th tn lev le jo wy) (fun r c => r = some (.int (bif okS s then oA (fun j => sm (1920 * s.toNatClampNeg + j)) set nn (oS (fun j => sm (1920 * s.toNatClampNeg + j)) set nn 10) else -1)) ∧ c = rfW D ad nd sl sr sd ag lo lw hg ct mt sm th tn (bif okS s then oL (oS (fun j => sm (1920 * s.toNatClampNeg + j)) set nn 10) else lev) le jo wy) := by
  refine Ct.of (by decide +kernel) (Nat.le_of_ble_eq_true rfl) (fun X A hX M hr => ?_)
  subst hX
  refine G_iload_n (pc := 0) M dX7_out_0 rfl ?_
  refine G_calls (pc := 1) M [] dX7_out_1 ms_X7_64 (c_isStream D _ (fun j => ad (pn [] j)) s) trivial rfl rfl rfl rfl (Nat.le_of_ble_eq_true rfl) (Nat.le_of_ble_eq_true rfl) (Nat.le_of_ble_eq_true rfl) ⟨Nat.zero_le _, Nat.zero_le _⟩ (fun v c1 hq hlen => ?_)
  obtain ⟨rfl, rfl⟩ := hq
  try dsimp only [sall, List.set, Option.toList, List.cons_append, List.nil_append]
  refine G_if_ne (pc := 4) M 9 dX7_out_4 (by decide) (fun h4 => ?_) (fun h4 => ?_)
  · have hs := bz1 h4
    have hnd := hnd hs
    rw [hs]
    obtain ⟨si, hsi, rfl⟩ := okS_of hs
    rw [cl_nI (n := si) (by omega)] at hnd
    rw [cl_nI (n := si) (by omega)]
    refine G_aload_n (pc := 9) M dX7_out_9 rfl ?_
    refine G_bipush (pc := 10) (v := -2) M dX7_out_10 (by decide +kernel) ?_
    refine G_putfi (pc := 12) M dX7_out_12 fl_X7_50 rfl (Nat.le_of_ble_eq_true rfl) ?_
    try dsimp only [List.set]
    refine G_bipush (pc := 15) (v := 9) M dX7_out_15 (by decide +kernel) ?_
    refine G_istore (pc := 17) M dX7_out_17 (Nat.le_of_ble_eq_true rfl) ?_
    exact ro_loop M hr (lev := lev) hsi hnn hnd 10 (by omega) _ _ _ _ _
  · rw [bz0 (b := okS s) (by simpa using h4)]
    refine G_iconst (pc := 7) (v := -1) M dX7_out_7 (by decide +kernel) ?_
    exact G_iret M hr dX7_out_8 rfl ⟨rfl, rfl⟩
theorem r_take (D : DD) (l : Launch) (ad : Nat → Nat) (nd : Nat → Int32) (sl : Nat → Int32) (sr : Nat → Int32) (sd : Nat → Int64) (ag : Nat → Int32) (lo : Nat → Int32) (lw : Nat → Int32) (hg : Nat → Int32) (ct : Nat → Int32) (mt : Nat → Int32) (sm : Nat → Int64) (th : Nat → Int32) (tn : Nat → Int32) (lev : Int32) (le : Nat → Int32) (jo : Nat → Int32) (wy : Nat → Int32) (s a b : Int32) (nn : Nat) (hnd : okS s = true → nd s.toNatClampNeg = nI nn) (hn : nn ≤ 64) : Ct D l mi_X7_take [.ref (ad 0), .int s, .int a, .int b] ad (rfW D ad nd sl sr sd ag lo lw hg ct mt sm th tn lev le jo wy) (fun r c => (arB nd s a b = false ∧ r = some (.int (-1)) ∧ c = rfW D ad nd sl sr sd ag lo lw hg ct mt sm th tn lev le jo wy) ∨ (∃ si x y, si < 3 ∧ s = nI si ∧ x < nn ∧ a = nI x ∧ y < nn ∧ b = nI y ∧ ¬ x = y ∧ arB nd s a b = true ∧ r = some (.int (nI (lvK (sd si) (arcKey (min x y) (max x y))))) ∧ c = rfW D ad nd sl sr sd ag lo lw hg ct mt (winL 1920 si sm (chgR (fun j => sm (1920 * si + j)) (min x y) (max x y) (arcKey (min x y) (max x y)) (-1) (lvK (sd si) (arcKey (min x y) (max x y)) + 1))) th tn lev le jo wy)) := by
  refine Ct.of (by decide +kernel) (Nat.le_of_ble_eq_true rfl) (fun X A hX M hr => ?_)
  subst hX
  refine G_aload_n (pc := 0) M dX7_take_0 rfl ?_
  refine G_iload_n (pc := 1) M dX7_take_1 rfl ?_
  refine G_iload_n (pc := 2) M dX7_take_2 rfl ?_
  refine G_callv (pc := 3) M [0, 1] dX7_take_3 mv_X7_76 (c_isNode D _ (fun j => ad (pn [0, 1] j)) _ nd s a rfl) rfl ⟨rfl, rfl, trivial⟩ rfl rfl rfl rfl (Nat.le_of_ble_eq_true rfl) (Nat.le_of_ble_eq_true rfl) (Nat.le_of_ble_eq_true rfl) ⟨Nat.zero_le _, Nat.zero_le _⟩ (fun v c1 hq hlen => ?_)
  obtain ⟨rfl, rfl⟩ := hq
  try dsimp only [sall, List.set, Option.toList, List.cons_append, List.nil_append]
  refine G_if_eq (pc := 6) M 23 dX7_take_6 (by decide) (fun h6 => ?_) (fun h6 => ?_)
  · have e5 : arB nd s a b = false := by simp [arB, bz0 h6]
    refine G_iconst (pc := 23) (v := -1) M dX7_take_23 (by decide +kernel) ?_
    exact G_iret M hr dX7_take_24 rfl (Or.inl ⟨e5, rfl, rfl⟩)
  · have h6b := bz1 h6
    refine G_aload_n (pc := 9) M dX7_take_9 rfl ?_
    refine G_iload_n (pc := 10) M dX7_take_10 rfl ?_
    refine G_iload_n (pc := 11) M dX7_take_11 rfl ?_
    refine G_callv (pc := 12) M [0, 1] dX7_take_12 mv_X7_76 (c_isNode D _ (fun j => ad (pn [0, 1] j)) _ nd s b rfl) rfl ⟨rfl, rfl, trivial⟩ rfl rfl rfl rfl (Nat.le_of_ble_eq_true rfl) (Nat.le_of_ble_eq_true rfl) (Nat.le_of_ble_eq_true rfl) ⟨Nat.zero_le _, Nat.zero_le _⟩ (fun v c1 hq hlen => ?_)
    obtain ⟨rfl, rfl⟩ := hq
    try dsimp only [sall, List.set, Option.toList, List.cons_append, List.nil_append]
    refine G_if_eq (pc := 15) M 23 dX7_take_15 (by decide) (fun h15 => ?_) (fun h15 => ?_)
    · have e5 : arB nd s a b = false := by simp [arB, bz0 h15]
      refine G_iconst (pc := 23) (v := -1) M dX7_take_23 (by decide +kernel) ?_
      exact G_iret M hr dX7_take_24 rfl (Or.inl ⟨e5, rfl, rfl⟩)
    · have h15b := bz1 h15
      refine G_iload_n (pc := 18) M dX7_take_18 rfl ?_
      refine G_iload_n (pc := 19) M dX7_take_19 rfl ?_
      refine G_icmp_ne (pc := 20) M 25 dX7_take_20 (by decide) (fun h20 => ?_) (fun h20 => ?_)
      · have e5 : arB nd s a b = true := by simp [arB, h6b, h15b, h20]
        have hs := okN_s h6b
        have hnd := hnd hs
        obtain ⟨si, k, hsi, rfl, hk, rfl⟩ := okN_of h6b hnd hn
        obtain ⟨si2, k2, -, -, hk2, rfl⟩ := okN_of h15b hnd hn
        refine G_aload_n (pc := 25) M dX7_take_25 rfl ?_
        refine G_iload_n (pc := 26) M dX7_take_26 rfl ?_
        refine G_iload_n (pc := 27) M dX7_take_27 rfl ?_
        refine G_iload_n (pc := 28) M dX7_take_28 rfl ?_
        refine G_ldc2 (pc := 29) M dX7_take_29 cn_X7_103 ?_
        refine G_callv (pc := 32) M [0, 4, 11] dX7_take_32 mv_X7_87 (c_change D _ (fun j => ad (pn [0, 4, 11] j)) _ sd sm si k k2 (-1) hsi (by omega) (by omega) rfl rfl) rfl ⟨rfl, rfl, rfl, trivial⟩ rfl rfl rfl rfl (Nat.le_of_ble_eq_true rfl) (Nat.le_of_ble_eq_true rfl) (Nat.le_of_ble_eq_true rfl) ⟨Nat.zero_le _, Nat.zero_le _⟩ (fun v c1 hq hlen => ?_)
        obtain ⟨rfl, rfl⟩ := hq
        try dsimp only [sall, List.set, Option.toList, List.cons_append, List.nil_append]
        generalize hL : lvK (sd si) (arcKey (min k k2) (max k k2)) = L
        exact G_iret M hr dX7_take_35 (Eq.trans (b := 17) rfl rfl) (Or.inr ⟨si, k, k2, hsi, rfl, hk, rfl, hk2, rfl, fun q => h20 (by rw [q]), e5, by rw [hL], by rw [hL]⟩)
      · have e5 : arB nd s a b = false := by
          have : a = b := by simpa using h20
          simp [arB, this]
        refine G_iconst (pc := 23) (v := -1) M dX7_take_23 (by decide +kernel) ?_
        exact G_iret M hr dX7_take_24 rfl (Or.inl ⟨e5, rfl, rfl⟩)
