/-! Rows.keyOutOf -/
/-- the key that leads out of the set at level lv -/
def oK (S : Nat → Int64) (set : Int64) (lv nn : Nat) : Option Nat :=
  if (osum S set (3 * lv) nn = 1 ∨ osum S set (3 * lv) nn = -1) ∧ ∃ kk : Nat, kk < 4096 ∧ osum S set (3 * lv) nn * osum S set (3 * lv + 1) nn = lN kk ∧ osum S set (3 * lv) nn * osum S set (3 * lv + 2) nn = lN kk * lN kk ∧ ldB set nn kk (osum S set (3 * lv) nn) = true
  then some (osum S set (3 * lv) nn * osum S set (3 * lv + 1) nn).toInt.toNat else none
theorem oK_none1 {S : Nat → Int64} {set : Int64} {lv nn : Nat} (h1 : ¬ osum S set (3 * lv) nn = 1) (h2 : ¬ osum S set (3 * lv) nn = -1) : oK S set lv nn = none := if_neg (fun h => h.1.elim h1 h2)
theorem oK_none2 {S : Nat → Int64} {set : Int64} {lv nn : Nat} (h : ∀ kk : Nat, kk < 4096 → osum S set (3 * lv) nn * osum S set (3 * lv + 1) nn = lN kk → osum S set (3 * lv) nn * osum S set (3 * lv + 2) nn = lN kk * lN kk → ldB set nn kk (osum S set (3 * lv) nn) = true → False) : oK S set lv nn = none := if_neg (fun ⟨_, kk, a, b, c, d⟩ => h kk a b c d)
theorem lN_toNat {k : Nat} (h : k < 4096) : (lN k).toInt.toNat = k := by rw [lN_toInt (by omega)]; omega
theorem oK_some {S : Nat → Int64} {set : Int64} {lv nn kk : Nat} (h0 : osum S set (3 * lv) nn = 1 ∨ osum S set (3 * lv) nn = -1) (h1 : kk < 4096) (h2 : osum S set (3 * lv) nn * osum S set (3 * lv + 1) nn = lN kk) (h3 : osum S set (3 * lv) nn * osum S set (3 * lv + 2) nn = lN kk * lN kk) (h4 : ldB set nn kk (osum S set (3 * lv) nn) = true) : oK S set lv nn = some kk := by
  rw [oK, if_pos ⟨h0, kk, h1, h2, h3, h4⟩, h2, lN_toNat h1]
theorem lN_inj4 {a b : Nat} (ha : a < 4096) (hb : b < 4096) (h : lN a = lN b) : a = b := (lN_eq (by omega) (by omega)).mp h
theorem ldB_big {set : Int64} {nn kk : Nat} {c : Int64} (h : 64 * nn ≤ kk) : ldB set nn kk c = false := by
  by_cases h1 : kk / 64 < kk % 64
  · have : ¬ kk % 64 < nn := by omega
    simp [ldB, this]
  · simp [ldB, h1]
theorem c_keyOutOf (D : DD) (l : Launch) (ad : Nat → Nat) (nn lv : Nat) (sd set : Int64) (S : Nat → Int64) (hnn : nn ≤ 64) (hlv : lv < 10) : Ct D l mi_X3_keyOutOf [.ref (ad 0), .long set, .int (nI lv)] ad (rwW D ad nn sd S) (fun v c => v = some (.int (oI (oK S set lv nn))) ∧ c = rwW D ad nn sd S) := by
  refine Ct.of (by decide +kernel) (Nat.le_of_ble_eq_true rfl) (fun X A hX M hr => ?_)
  subst hX
  generalize hc : osum S set (3 * lv) nn = c
  generalize he : osum S set (3 * lv + 1) nn = e
  generalize hf : osum S set (3 * lv + 2) nn = f
  have hmul : ∀ x : Int64, x * c = c * x := fun x => Int64.mul_comm x c
  have fin : ∀ (kk : Nat), (c = 1 ∨ c = -1) → c * e = lN kk → c * f = lN kk * lN kk → kk < 64 * nn → G D X A 0 0 (GQ D X A ad 2 (fun v cs => v = some (.int (oI (oK S set lv nn))) ∧ cs = rwW D ad nn sd S)) ad 84 [some (.ref (ad 0)), some (.long set), none, some (.int (nI lv)), some (.long c), none, some (.long (lN kk)), none, none, none, none] [] (rwW D ad nn sd S) := by
    intro kk h0 h1 h2 h3
    have hk4 : kk < 4096 := by omega
    have hdiv : nI kk / 64 = nI (kk / 64) := by rw [n64, pk_div (by omega) (by omega) (by omega)]
    have hrem : nI kk - nI kk / 64 * 64 = nI (kk % 64) := by rw [n64, pk_rem (by omega) (by omega) (by omega)]
    have yes : ldB set nn kk c = true → oK S set lv nn = some kk := fun hh => oK_some (by rw [hc]; exact h0) hk4 (by rw [hc, he]; exact h1) (by rw [hc, hf]; exact h2) (by rw [hc]; exact hh)
    have no : ldB set nn kk c = false → oK S set lv nn = none := fun hh => oK_none2 (fun k2 a b _ d => by
      rw [hc, he, h1] at b
      rw [hc] at d
      have := lN_inj4 hk4 a b
      subst this
      rw [hh] at d
      cases d)
    have e1 : ∀ z : Option Value, ldB set nn kk c = true → G D X A 0 0 (GQ D X A ad 2 (fun v cs => v = some (.int (oI (oK S set lv nn))) ∧ cs = rwW D ad nn sd S)) ad 168 [some (.ref (ad 0)), some (.long set), none, some (.int (nI lv)), some (.long c), none, some (.long (lN kk)), none, some (.int (nI (kk / 64))), some (.int (nI (kk % 64))), z] [.int 1] (rwW D ad nn sd S) := by
      intro z hh
      refine G_istore (pc := 168) M dX3_keyOutOf_168 (Nat.le_of_ble_eq_true rfl) ?_
      refine G_iload (pc := 170) M dX3_keyOutOf_170 rfl ?_
      refine G_if_eq (pc := 172) M 181 dX3_keyOutOf_172 (by decide) (fun h172 => ?_) (fun h172 => ?_)
      · exact absurd h172 (by decide)
      · refine G_lload (pc := 175) M dX3_keyOutOf_175 rfl ?_
        refine G_l2i (pc := 177) M dX3_keyOutOf_177 ?_
        rw [lN_i]
        refine G_goto (pc := 178) M 183 dX3_keyOutOf_178 (by decide) ?_
        exact G_iret M hr dX3_keyOutOf_183 rfl ⟨by rw [yes hh]; rfl, rfl⟩
    have e0 : ∀ z : Option Value, ldB set nn kk c = false → G D X A 0 0 (GQ D X A ad 2 (fun v cs => v = some (.int (oI (oK S set lv nn))) ∧ cs = rwW D ad nn sd S)) ad 168 [some (.ref (ad 0)), some (.long set), none, some (.int (nI lv)), some (.long c), none, some (.long (lN kk)), none, some (.int (nI (kk / 64))), some (.int (nI (kk % 64))), z] [.int 0] (rwW D ad nn sd S) := by
      intro z hh
      refine G_istore (pc := 168) M dX3_keyOutOf_168 (Nat.le_of_ble_eq_true rfl) ?_
      refine G_iload (pc := 170) M dX3_keyOutOf_170 rfl ?_
      refine G_if_eq (pc := 172) M 181 dX3_keyOutOf_172 (by decide) (fun h172 => ?_) (fun h172 => ?_)
      · refine G_bipush (pc := 181) (v := -2) M dX3_keyOutOf_181 (by decide +kernel) ?_
        exact G_iret M hr dX3_keyOutOf_183 rfl ⟨by rw [no hh]; rfl, rfl⟩
      · exact absurd rfl h172
    refine G_lload (pc := 84) M dX3_keyOutOf_84 rfl ?_
    refine G_l2i (pc := 86) M dX3_keyOutOf_86 ?_
    rw [lN_i]
    refine G_calln (pc := 87) M [] dX3_keyOutOf_87 mn_X3_50 (c_lesserNode D _ (fun j => ad (pn [] j)) (nI kk)) trivial rfl rfl rfl rfl (Nat.le_of_ble_eq_true rfl) (Nat.le_of_ble_eq_true rfl) (Nat.le_of_ble_eq_true rfl) ⟨Nat.zero_le _, Nat.zero_le _⟩ (fun v c1 hq hlen => ?_)
    obtain ⟨rfl, rfl⟩ := hq
    rw [hdiv]
    refine G_istore (pc := 90) M dX3_keyOutOf_90 (Nat.le_of_ble_eq_true rfl) ?_
    refine G_lload (pc := 92) M dX3_keyOutOf_92 rfl ?_
    refine G_l2i (pc := 94) M dX3_keyOutOf_94 ?_
    rw [lN_i]
    refine G_calln (pc := 95) M [] dX3_keyOutOf_95 mn_X3_54 (c_greaterNode D _ (fun j => ad (pn [] j)) (nI kk)) trivial rfl rfl rfl rfl (Nat.le_of_ble_eq_true rfl) (Nat.le_of_ble_eq_true rfl) (Nat.le_of_ble_eq_true rfl) ⟨Nat.zero_le _, Nat.zero_le _⟩ (fun v c1 hq hlen => ?_)
    obtain ⟨rfl, rfl⟩ := hq
    rw [hrem]
    refine G_istore (pc := 98) M dX3_keyOutOf_98 (Nat.le_of_ble_eq_true rfl) ?_
    refine G_iload (pc := 100) M dX3_keyOutOf_100 rfl ?_
    refine G_iload (pc := 102) M dX3_keyOutOf_102 rfl ?_
    refine G_icmp_ge (pc := 104) M 116 dX3_keyOutOf_104 (by decide) (fun h104 => ?_) (fun h104 => ?_)
    · have h104b := (nI_leI (a := kk % 64) (b := kk / 64) (by omega) (by omega)).mp h104
      have h104c : decide (kk / 64 < kk % 64) = false := decide_eq_false (by omega)
      refine G_bipush (pc := 116) (v := -2) M dX3_keyOutOf_116 (by decide +kernel) ?_
      exact G_iret M hr dX3_keyOutOf_118 rfl ⟨by rw [no (by simp [ldB, *])]; rfl, rfl⟩
    · have h104b := Nat.lt_of_not_le (fun q => h104 (nI_le (a := kk % 64) (b := kk / 64) q (by omega)))
      have h104c : decide (kk / 64 < kk % 64) = true := decide_eq_true (by omega)
      refine G_iload (pc := 107) M dX3_keyOutOf_107 rfl ?_
      refine G_aload_n (pc := 109) M dX3_keyOutOf_109 rfl ?_
      refine G_getf (pc := 110) M dX3_keyOutOf_110 fl_X3_15 rfl (by first | rfl | assumption) ?_
      refine G_icmp_lt (pc := 113) M 119 dX3_keyOutOf_113 (by decide) (fun h113 => ?_) (fun h113 => ?_)
      · have h113b := (nI_ltI (a := kk % 64) (b := nn) (by omega) (by omega)).mp h113
        have h113c : decide (kk % 64 < nn) = true := decide_eq_true (by omega)
        refine G_lload_n (pc := 119) M dX3_keyOutOf_119 rfl ?_
        refine G_iload (pc := 120) M dX3_keyOutOf_120 rfl ?_
        refine G_calln (pc := 122) M [] dX3_keyOutOf_122 mn_X3_57 (c_holds D _ (fun j => ad (pn [] j)) set (nI (kk / 64))) trivial rfl rfl rfl rfl (Nat.le_of_ble_eq_true rfl) (Nat.le_of_ble_eq_true rfl) (Nat.le_of_ble_eq_true rfl) ⟨Nat.zero_le _, Nat.zero_le _⟩ (fun v c1 hq hlen => ?_)
        obtain ⟨rfl, rfl⟩ := hq
        rw [hb_bt set (by omega)]
        refine G_lload (pc := 125) M dX3_keyOutOf_125 rfl ?_
        refine G_lconst (pc := 127) (v := 1) M dX3_keyOutOf_127 (by decide +kernel) ?_
        refine G_lcmp (pc := 128) M dX3_keyOutOf_128 ?_
        refine G_if_ne (pc := 129) M 136 dX3_keyOutOf_129 (by decide) (fun h129 => ?_) (fun h129 => ?_)
        · rw [lg_cmp_eq] at h129
          have hc1 : c = -1 := h0.resolve_left h129
          refine G_iconst (pc := 136) (v := 0) M dX3_keyOutOf_136 (by decide +kernel) ?_
          refine G_icmp_ne (pc := 137) M 167 dX3_keyOutOf_137 (by decide) (fun h137 => ?_) (fun h137 => ?_)
          · refine G_iconst (pc := 167) (v := 0) M dX3_keyOutOf_167 (by decide +kernel) ?_
            first | exact e1 none (by cases hA : bt set (kk / 64) <;> cases hB : bt set (kk % 64) <;> simp_all [ldB, bz]) | exact e0 none (by cases hA : bt set (kk / 64) <;> cases hB : bt set (kk % 64) <;> simp_all [ldB, bz])
          · refine G_lload_n (pc := 140) M dX3_keyOutOf_140 rfl ?_
            refine G_iload (pc := 141) M dX3_keyOutOf_141 rfl ?_
            refine G_calln (pc := 143) M [] dX3_keyOutOf_143 mn_X3_57 (c_holds D _ (fun j => ad (pn [] j)) set (nI (kk % 64))) trivial rfl rfl rfl rfl (Nat.le_of_ble_eq_true rfl) (Nat.le_of_ble_eq_true rfl) (Nat.le_of_ble_eq_true rfl) ⟨Nat.zero_le _, Nat.zero_le _⟩ (fun v c1 hq hlen => ?_)
            obtain ⟨rfl, rfl⟩ := hq
            rw [hb_bt set (by omega)]
            refine G_lload (pc := 146) M dX3_keyOutOf_146 rfl ?_
            refine G_ldc2 (pc := 148) M dX3_keyOutOf_148 cn_X3_48 ?_
            refine G_lcmp (pc := 151) M dX3_keyOutOf_151 ?_
            refine G_if_ne (pc := 152) M 159 dX3_keyOutOf_152 (by decide) (fun h152 => ?_) (fun h152 => ?_)
            · rw [lg_cmp_eq] at h152
              refine G_iconst (pc := 159) (v := 0) M dX3_keyOutOf_159 (by decide +kernel) ?_
              refine G_icmp_ne (pc := 160) M 167 dX3_keyOutOf_160 (by decide) (fun h160 => ?_) (fun h160 => ?_)
              · refine G_iconst (pc := 167) (v := 0) M dX3_keyOutOf_167 (by decide +kernel) ?_
                first | exact e1 none (by cases hA : bt set (kk / 64) <;> cases hB : bt set (kk % 64) <;> simp_all [ldB, bz]) | exact e0 none (by cases hA : bt set (kk / 64) <;> cases hB : bt set (kk % 64) <;> simp_all [ldB, bz])
              · refine G_iconst (pc := 163) (v := 1) M dX3_keyOutOf_163 (by decide +kernel) ?_
                refine G_goto (pc := 164) M 168 dX3_keyOutOf_164 (by decide) ?_
                first | exact e1 none (by cases hA : bt set (kk / 64) <;> cases hB : bt set (kk % 64) <;> simp_all [ldB, bz]) | exact e0 none (by cases hA : bt set (kk / 64) <;> cases hB : bt set (kk % 64) <;> simp_all [ldB, bz])
            · rw [lg_cmp_eq] at h152
              refine G_iconst (pc := 155) (v := 1) M dX3_keyOutOf_155 (by decide +kernel) ?_
              refine G_goto (pc := 156) M 160 dX3_keyOutOf_156 (by decide) ?_
              refine G_icmp_ne (pc := 160) M 167 dX3_keyOutOf_160 (by decide) (fun h160 => ?_) (fun h160 => ?_)
              · refine G_iconst (pc := 167) (v := 0) M dX3_keyOutOf_167 (by decide +kernel) ?_
                first | exact e1 none (by cases hA : bt set (kk / 64) <;> cases hB : bt set (kk % 64) <;> simp_all [ldB, bz]) | exact e0 none (by cases hA : bt set (kk / 64) <;> cases hB : bt set (kk % 64) <;> simp_all [ldB, bz])
              · refine G_iconst (pc := 163) (v := 1) M dX3_keyOutOf_163 (by decide +kernel) ?_
                refine G_goto (pc := 164) M 168 dX3_keyOutOf_164 (by decide) ?_
                first | exact e1 none (by cases hA : bt set (kk / 64) <;> cases hB : bt set (kk % 64) <;> simp_all [ldB, bz]) | exact e0 none (by cases hA : bt set (kk / 64) <;> cases hB : bt set (kk % 64) <;> simp_all [ldB, bz])
        · rw [lg_cmp_eq] at h129
          refine G_iconst (pc := 132) (v := 1) M dX3_keyOutOf_132 (by decide +kernel) ?_
          refine G_goto (pc := 133) M 137 dX3_keyOutOf_133 (by decide) ?_
          refine G_icmp_ne (pc := 137) M 167 dX3_keyOutOf_137 (by decide) (fun h137 => ?_) (fun h137 => ?_)
          · refine G_iconst (pc := 167) (v := 0) M dX3_keyOutOf_167 (by decide +kernel) ?_
            first | exact e1 none (by cases hA : bt set (kk / 64) <;> cases hB : bt set (kk % 64) <;> simp_all [ldB, bz]) | exact e0 none (by cases hA : bt set (kk / 64) <;> cases hB : bt set (kk % 64) <;> simp_all [ldB, bz])
          · refine G_lload_n (pc := 140) M dX3_keyOutOf_140 rfl ?_
            refine G_iload (pc := 141) M dX3_keyOutOf_141 rfl ?_
            refine G_calln (pc := 143) M [] dX3_keyOutOf_143 mn_X3_57 (c_holds D _ (fun j => ad (pn [] j)) set (nI (kk % 64))) trivial rfl rfl rfl rfl (Nat.le_of_ble_eq_true rfl) (Nat.le_of_ble_eq_true rfl) (Nat.le_of_ble_eq_true rfl) ⟨Nat.zero_le _, Nat.zero_le _⟩ (fun v c1 hq hlen => ?_)
            obtain ⟨rfl, rfl⟩ := hq
            rw [hb_bt set (by omega)]
            refine G_lload (pc := 146) M dX3_keyOutOf_146 rfl ?_
            refine G_ldc2 (pc := 148) M dX3_keyOutOf_148 cn_X3_48 ?_
            refine G_lcmp (pc := 151) M dX3_keyOutOf_151 ?_
            refine G_if_ne (pc := 152) M 159 dX3_keyOutOf_152 (by decide) (fun h152 => ?_) (fun h152 => ?_)
            · rw [lg_cmp_eq] at h152
              refine G_iconst (pc := 159) (v := 0) M dX3_keyOutOf_159 (by decide +kernel) ?_
              refine G_icmp_ne (pc := 160) M 167 dX3_keyOutOf_160 (by decide) (fun h160 => ?_) (fun h160 => ?_)
              · refine G_iconst (pc := 167) (v := 0) M dX3_keyOutOf_167 (by decide +kernel) ?_
                first | exact e1 none (by cases hA : bt set (kk / 64) <;> cases hB : bt set (kk % 64) <;> simp_all [ldB, bz]) | exact e0 none (by cases hA : bt set (kk / 64) <;> cases hB : bt set (kk % 64) <;> simp_all [ldB, bz])
              · refine G_iconst (pc := 163) (v := 1) M dX3_keyOutOf_163 (by decide +kernel) ?_
                refine G_goto (pc := 164) M 168 dX3_keyOutOf_164 (by decide) ?_
                first | exact e1 none (by cases hA : bt set (kk / 64) <;> cases hB : bt set (kk % 64) <;> simp_all [ldB, bz]) | exact e0 none (by cases hA : bt set (kk / 64) <;> cases hB : bt set (kk % 64) <;> simp_all [ldB, bz])
            · rw [lg_cmp_eq] at h152
              refine G_iconst (pc := 155) (v := 1) M dX3_keyOutOf_155 (by decide +kernel) ?_
              refine G_goto (pc := 156) M 160 dX3_keyOutOf_156 (by decide) ?_
              refine G_icmp_ne (pc := 160) M 167 dX3_keyOutOf_160 (by decide) (fun h160 => ?_) (fun h160 => ?_)
              · refine G_iconst (pc := 167) (v := 0) M dX3_keyOutOf_167 (by decide +kernel) ?_
                first | exact e1 none (by cases hA : bt set (kk / 64) <;> cases hB : bt set (kk % 64) <;> simp_all [ldB, bz]) | exact e0 none (by cases hA : bt set (kk / 64) <;> cases hB : bt set (kk % 64) <;> simp_all [ldB, bz])
              · refine G_iconst (pc := 163) (v := 1) M dX3_keyOutOf_163 (by decide +kernel) ?_
                refine G_goto (pc := 164) M 168 dX3_keyOutOf_164 (by decide) ?_
                first | exact e1 none (by cases hA : bt set (kk / 64) <;> cases hB : bt set (kk % 64) <;> simp_all [ldB, bz]) | exact e0 none (by cases hA : bt set (kk / 64) <;> cases hB : bt set (kk % 64) <;> simp_all [ldB, bz])
      · have h113b := fun q => h113 (nI_lt (a := kk % 64) (b := nn) q (by omega))
        have h113c : decide (kk % 64 < nn) = false := decide_eq_false h113b
        refine G_bipush (pc := 116) (v := -2) M dX3_keyOutOf_116 (by decide +kernel) ?_
        exact G_iret M hr dX3_keyOutOf_118 rfl ⟨by rw [no (by simp [ldB, *])]; rfl, rfl⟩
  refine G_aload_n (pc := 0) M dX3_keyOutOf_0 rfl ?_
  refine G_lload_n (pc := 1) M dX3_keyOutOf_1 rfl ?_
  refine G_iload_n (pc := 2) M dX3_keyOutOf_2 rfl ?_
  refine G_iconst (pc := 3) (v := 0) M dX3_keyOutOf_3 (by decide +kernel) ?_
  refine G_callv (pc := 4) M [0, 1] dX3_keyOutOf_4 mv_X3_44 (c_sumOf D _ (fun j => ad (pn [0, 1] j)) nn lv 0 sd set S hnn hlv (by omega)) rfl ⟨rfl, rfl, trivial⟩ rfl rfl rfl rfl (Nat.le_of_ble_eq_true rfl) (Nat.le_of_ble_eq_true rfl) (Nat.le_of_ble_eq_true rfl) ⟨Nat.zero_le _, Nat.zero_le _⟩ (fun v c1 hq hlen => ?_)
  obtain ⟨rfl, rfl⟩ := hq
  rw [Nat.add_zero (3 * lv), hc]
  refine G_lstore (pc := 7) M dX3_keyOutOf_7 (Nat.le_of_ble_eq_true rfl) ?_
  refine G_lload (pc := 9) M dX3_keyOutOf_9 rfl ?_
  refine G_lconst (pc := 11) (v := 1) M dX3_keyOutOf_11 (by decide +kernel) ?_
  refine G_lcmp (pc := 12) M dX3_keyOutOf_12 ?_
  refine G_if_eq (pc := 13) M 28 dX3_keyOutOf_13 (by decide) (fun h13 => ?_) (fun h13 => ?_)
  · rw [lg_cmp_eq] at h13
    have h0 : c = 1 ∨ c = -1 := Or.inl h13
    refine G_aload_n (pc := 28) M dX3_keyOutOf_28 rfl ?_
    refine G_lload_n (pc := 29) M dX3_keyOutOf_29 rfl ?_
    refine G_iload_n (pc := 30) M dX3_keyOutOf_30 rfl ?_
    refine G_iconst (pc := 31) (v := 1) M dX3_keyOutOf_31 (by decide +kernel) ?_
    refine G_callv (pc := 32) M [0, 1] dX3_keyOutOf_32 mv_X3_44 (c_sumOf D _ (fun j => ad (pn [0, 1] j)) nn lv 1 sd set S hnn hlv (by omega)) rfl ⟨rfl, rfl, trivial⟩ rfl rfl rfl rfl (Nat.le_of_ble_eq_true rfl) (Nat.le_of_ble_eq_true rfl) (Nat.le_of_ble_eq_true rfl) ⟨Nat.zero_le _, Nat.zero_le _⟩ (fun v c1 hq hlen => ?_)
    obtain ⟨rfl, rfl⟩ := hq
    rw [he]
    refine G_lload (pc := 35) M dX3_keyOutOf_35 rfl ?_
    refine G_lmul (pc := 37) M dX3_keyOutOf_37 ?_
    rw [hmul]
    refine G_lstore (pc := 38) M dX3_keyOutOf_38 (Nat.le_of_ble_eq_true rfl) ?_
    refine G_lload (pc := 40) M dX3_keyOutOf_40 rfl ?_
    refine G_lconst (pc := 42) (v := 0) M dX3_keyOutOf_42 (by decide +kernel) ?_
    refine G_lcmp (pc := 43) M dX3_keyOutOf_43 ?_
    refine G_if_lt (pc := 44) M 81 dX3_keyOutOf_44 (by decide) (fun h44 => ?_) (fun h44 => ?_)
    · rw [lg_cmp_lt] at h44
      have no : oK S set lv nn = none := oK_none2 (fun k2 a b _ _ => by
        rw [hc, he] at b
        rw [b, Int64.lt_iff_toInt_lt, lN_toInt (by omega)] at h44
        exact absurd h44 (by simp))
      refine G_bipush (pc := 81) (v := -2) M dX3_keyOutOf_81 (by decide +kernel) ?_
      exact G_iret M hr dX3_keyOutOf_83 rfl ⟨by rw [no]; rfl, rfl⟩
    · rw [lg_cmp_lt] at h44
      obtain ⟨kk, hk63, hkk⟩ := pk_lOf h44
      refine G_lload (pc := 47) M dX3_keyOutOf_47 rfl ?_
      refine G_aload_n (pc := 49) M dX3_keyOutOf_49 rfl ?_
      refine G_getf (pc := 50) M dX3_keyOutOf_50 fl_X3_15 rfl (by first | rfl | assumption) ?_
      refine G_iconst (pc := 53) (v := 0) M dX3_keyOutOf_53 (by decide +kernel) ?_
      refine G_calln (pc := 54) M [] dX3_keyOutOf_54 mn_X3_29 (c_keyOf D _ (fun j => ad (pn [] j)) (nI nn) 0) trivial rfl rfl rfl rfl (Nat.le_of_ble_eq_true rfl) (Nat.le_of_ble_eq_true rfl) (Nat.le_of_ble_eq_true rfl) ⟨Nat.zero_le _, Nat.zero_le _⟩ (fun v c1 hq hlen => ?_)
      obtain ⟨rfl, rfl⟩ := hq
      rw [show (64 : Int32) * nI nn + 0 = nI (64 * nn) by rw [n64, pk_mul]; simp]
      refine G_i2l (pc := 57) M dX3_keyOutOf_57 ?_
      rw [nI_l (by omega)]
      refine G_lcmp (pc := 58) M dX3_keyOutOf_58 ?_
      refine G_if_ge (pc := 59) M 81 dX3_keyOutOf_59 (by decide) (fun h59 => ?_) (fun h59 => ?_)
      · rw [lg_cmp_ge, hkk, pk_lLE (by omega) hk63] at h59
        have no : oK S set lv nn = none := oK_none2 (fun k2 a b _ d => by
          rw [hc, he, hkk] at b
          have := (pk_lEQ hk63 (by omega)).mp b
          subst this
          rw [ldB_big h59] at d
          cases d)
        refine G_bipush (pc := 81) (v := -2) M dX3_keyOutOf_81 (by decide +kernel) ?_
        exact G_iret M hr dX3_keyOutOf_83 rfl ⟨by rw [no]; rfl, rfl⟩
      · rw [lg_cmp_ge, hkk, pk_lLE (by omega) hk63] at h59
        refine G_aload_n (pc := 62) M dX3_keyOutOf_62 rfl ?_
        refine G_lload_n (pc := 63) M dX3_keyOutOf_63 rfl ?_
        refine G_iload_n (pc := 64) M dX3_keyOutOf_64 rfl ?_
        refine G_iconst (pc := 65) (v := 2) M dX3_keyOutOf_65 (by decide +kernel) ?_
        refine G_callv (pc := 66) M [0, 1] dX3_keyOutOf_66 mv_X3_44 (c_sumOf D _ (fun j => ad (pn [0, 1] j)) nn lv 2 sd set S hnn hlv (by omega)) rfl ⟨rfl, rfl, trivial⟩ rfl rfl rfl rfl (Nat.le_of_ble_eq_true rfl) (Nat.le_of_ble_eq_true rfl) (Nat.le_of_ble_eq_true rfl) ⟨Nat.zero_le _, Nat.zero_le _⟩ (fun v c1 hq hlen => ?_)
        obtain ⟨rfl, rfl⟩ := hq
        rw [hf]
        refine G_lload (pc := 69) M dX3_keyOutOf_69 rfl ?_
        refine G_lmul (pc := 71) M dX3_keyOutOf_71 ?_
        rw [hmul]
        refine G_lload (pc := 72) M dX3_keyOutOf_72 rfl ?_
        refine G_lload (pc := 74) M dX3_keyOutOf_74 rfl ?_
        refine G_lmul (pc := 76) M dX3_keyOutOf_76 ?_
        refine G_lcmp (pc := 77) M dX3_keyOutOf_77 ?_
        refine G_if_eq (pc := 78) M 84 dX3_keyOutOf_78 (by decide) (fun h78 => ?_) (fun h78 => ?_)
        · rw [lg_cmp_eq] at h78
          rw [hkk]
          exact fin kk h0 hkk (by rw [h78, hkk]) (by omega)
        · rw [lg_cmp_eq] at h78
          have no : oK S set lv nn = none := oK_none2 (fun k2 a b d _ => by
            rw [hc, he] at b
            rw [hc, hf, ← b] at d
            exact h78 d)
          refine G_bipush (pc := 81) (v := -2) M dX3_keyOutOf_81 (by decide +kernel) ?_
          exact G_iret M hr dX3_keyOutOf_83 rfl ⟨by rw [no]; rfl, rfl⟩
  · rw [lg_cmp_eq] at h13
    refine G_lload (pc := 16) M dX3_keyOutOf_16 rfl ?_
    refine G_ldc2 (pc := 18) M dX3_keyOutOf_18 cn_X3_48 ?_
    refine G_lcmp (pc := 21) M dX3_keyOutOf_21 ?_
    refine G_if_eq (pc := 22) M 28 dX3_keyOutOf_22 (by decide) (fun h22 => ?_) (fun h22 => ?_)
    · rw [lg_cmp_eq] at h22
      have h0 : c = 1 ∨ c = -1 := Or.inr h22
      refine G_aload_n (pc := 28) M dX3_keyOutOf_28 rfl ?_
      refine G_lload_n (pc := 29) M dX3_keyOutOf_29 rfl ?_
      refine G_iload_n (pc := 30) M dX3_keyOutOf_30 rfl ?_
      refine G_iconst (pc := 31) (v := 1) M dX3_keyOutOf_31 (by decide +kernel) ?_
      refine G_callv (pc := 32) M [0, 1] dX3_keyOutOf_32 mv_X3_44 (c_sumOf D _ (fun j => ad (pn [0, 1] j)) nn lv 1 sd set S hnn hlv (by omega)) rfl ⟨rfl, rfl, trivial⟩ rfl rfl rfl rfl (Nat.le_of_ble_eq_true rfl) (Nat.le_of_ble_eq_true rfl) (Nat.le_of_ble_eq_true rfl) ⟨Nat.zero_le _, Nat.zero_le _⟩ (fun v c1 hq hlen => ?_)
      obtain ⟨rfl, rfl⟩ := hq
      rw [he]
      refine G_lload (pc := 35) M dX3_keyOutOf_35 rfl ?_
      refine G_lmul (pc := 37) M dX3_keyOutOf_37 ?_
      rw [hmul]
      refine G_lstore (pc := 38) M dX3_keyOutOf_38 (Nat.le_of_ble_eq_true rfl) ?_
      refine G_lload (pc := 40) M dX3_keyOutOf_40 rfl ?_
      refine G_lconst (pc := 42) (v := 0) M dX3_keyOutOf_42 (by decide +kernel) ?_
      refine G_lcmp (pc := 43) M dX3_keyOutOf_43 ?_
      refine G_if_lt (pc := 44) M 81 dX3_keyOutOf_44 (by decide) (fun h44 => ?_) (fun h44 => ?_)
      · rw [lg_cmp_lt] at h44
        have no : oK S set lv nn = none := oK_none2 (fun k2 a b _ _ => by
          rw [hc, he] at b
          rw [b, Int64.lt_iff_toInt_lt, lN_toInt (by omega)] at h44
          exact absurd h44 (by simp))
        refine G_bipush (pc := 81) (v := -2) M dX3_keyOutOf_81 (by decide +kernel) ?_
        exact G_iret M hr dX3_keyOutOf_83 rfl ⟨by rw [no]; rfl, rfl⟩
      · rw [lg_cmp_lt] at h44
        obtain ⟨kk, hk63, hkk⟩ := pk_lOf h44
        refine G_lload (pc := 47) M dX3_keyOutOf_47 rfl ?_
        refine G_aload_n (pc := 49) M dX3_keyOutOf_49 rfl ?_
        refine G_getf (pc := 50) M dX3_keyOutOf_50 fl_X3_15 rfl (by first | rfl | assumption) ?_
        refine G_iconst (pc := 53) (v := 0) M dX3_keyOutOf_53 (by decide +kernel) ?_
        refine G_calln (pc := 54) M [] dX3_keyOutOf_54 mn_X3_29 (c_keyOf D _ (fun j => ad (pn [] j)) (nI nn) 0) trivial rfl rfl rfl rfl (Nat.le_of_ble_eq_true rfl) (Nat.le_of_ble_eq_true rfl) (Nat.le_of_ble_eq_true rfl) ⟨Nat.zero_le _, Nat.zero_le _⟩ (fun v c1 hq hlen => ?_)
        obtain ⟨rfl, rfl⟩ := hq
        rw [show (64 : Int32) * nI nn + 0 = nI (64 * nn) by rw [n64, pk_mul]; simp]
        refine G_i2l (pc := 57) M dX3_keyOutOf_57 ?_
        rw [nI_l (by omega)]
        refine G_lcmp (pc := 58) M dX3_keyOutOf_58 ?_
        refine G_if_ge (pc := 59) M 81 dX3_keyOutOf_59 (by decide) (fun h59 => ?_) (fun h59 => ?_)
        · rw [lg_cmp_ge, hkk, pk_lLE (by omega) hk63] at h59
          have no : oK S set lv nn = none := oK_none2 (fun k2 a b _ d => by
            rw [hc, he, hkk] at b
            have := (pk_lEQ hk63 (by omega)).mp b
            subst this
            rw [ldB_big h59] at d
            cases d)
          refine G_bipush (pc := 81) (v := -2) M dX3_keyOutOf_81 (by decide +kernel) ?_
          exact G_iret M hr dX3_keyOutOf_83 rfl ⟨by rw [no]; rfl, rfl⟩
        · rw [lg_cmp_ge, hkk, pk_lLE (by omega) hk63] at h59
          refine G_aload_n (pc := 62) M dX3_keyOutOf_62 rfl ?_
          refine G_lload_n (pc := 63) M dX3_keyOutOf_63 rfl ?_
          refine G_iload_n (pc := 64) M dX3_keyOutOf_64 rfl ?_
          refine G_iconst (pc := 65) (v := 2) M dX3_keyOutOf_65 (by decide +kernel) ?_
          refine G_callv (pc := 66) M [0, 1] dX3_keyOutOf_66 mv_X3_44 (c_sumOf D _ (fun j => ad (pn [0, 1] j)) nn lv 2 sd set S hnn hlv (by omega)) rfl ⟨rfl, rfl, trivial⟩ rfl rfl rfl rfl (Nat.le_of_ble_eq_true rfl) (Nat.le_of_ble_eq_true rfl) (Nat.le_of_ble_eq_true rfl) ⟨Nat.zero_le _, Nat.zero_le _⟩ (fun v c1 hq hlen => ?_)
          obtain ⟨rfl, rfl⟩ := hq
          rw [hf]
          refine G_lload (pc := 69) M dX3_keyOutOf_69 rfl ?_
          refine G_lmul (pc := 71) M dX3_keyOutOf_71 ?_
          rw [hmul]
          refine G_lload (pc := 72) M dX3_keyOutOf_72 rfl ?_
          refine G_lload (pc := 74) M dX3_keyOutOf_74 rfl ?_
          refine G_lmul (pc := 76) M dX3_keyOutOf_76 ?_
          refine G_lcmp (pc := 77) M dX3_keyOutOf_77 ?_
          refine G_if_eq (pc := 78) M 84 dX3_keyOutOf_78 (by decide) (fun h78 => ?_) (fun h78 => ?_)
          · rw [lg_cmp_eq] at h78
            rw [hkk]
            exact fin kk h0 hkk (by rw [h78, hkk]) (by omega)
          · rw [lg_cmp_eq] at h78
            have no : oK S set lv nn = none := oK_none2 (fun k2 a b d _ => by
              rw [hc, he] at b
              rw [hc, hf, ← b] at d
              exact h78 d)
            refine G_bipush (pc := 81) (v := -2) M dX3_keyOutOf_81 (by decide +kernel) ?_
            exact G_iret M hr dX3_keyOutOf_83 rfl ⟨by rw [no]; rfl, rfl⟩
    · rw [lg_cmp_eq] at h22
      refine G_bipush (pc := 25) (v := -2) M dX3_keyOutOf_25 (by decide +kernel) ?_
      exact G_iret M hr dX3_keyOutOf_27 rfl ⟨by rw [oK_none1 (by rw [hc]; exact h13) (by rw [hc]; exact h22)]; rfl, rfl⟩
