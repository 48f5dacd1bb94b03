--NORM
/-! the reference: merge -/
def mgC (ct : Nat → Int32) (s o k : Nat) : Nat → Int32 := fun j => if 64 * s ≤ j ∧ j < 64 * s + k then ct j + ct (64 * o + (j - 64 * s)) else ct j
def mgS (sm : Nat → Int64) (s o k : Nat) : Nat → Int64 := fun j => if 1920 * s ≤ j ∧ j < 1920 * s + k then sm j + sm (1920 * o + (j - 1920 * s)) else sm j
theorem mgC_0 (ct : Nat → Int32) (s o : Nat) : mgC ct s o 0 = ct := by funext j; simp only [mgC]; rw [if_neg (by omega)]
theorem mgS_0 (sm : Nat → Int64) (s o : Nat) : mgS sm s o 0 = sm := by funext j; simp only [mgS]; rw [if_neg (by omega)]
theorem mgC_at (ct : Nat → Int32) (s o k : Nat) : mgC ct s o k (64 * s + k) = ct (64 * s + k) := by simp only [mgC]; rw [if_neg (by omega)]
theorem mgC_oth (ct : Nat → Int32) {s o k j : Nat} (h : s ≠ o) (hk : k ≤ 64) (hj : j < 64) : mgC ct s o k (64 * o + j) = ct (64 * o + j) := by simp only [mgC]; rw [if_neg (by omega)]
theorem mgS_at (sm : Nat → Int64) (s o k : Nat) : mgS sm s o k (1920 * s + k) = sm (1920 * s + k) := by simp only [mgS]; rw [if_neg (by omega)]
theorem mgS_oth (sm : Nat → Int64) {s o k j : Nat} (h : s ≠ o) (hk : k ≤ 1920) (hj : j < 1920) : mgS sm s o k (1920 * o + j) = sm (1920 * o + j) := by simp only [mgS]; rw [if_neg (by omega)]
theorem mgC_step (ct : Nat → Int32) (s o k : Nat) : upd (mgC ct s o k) (64 * s + k) (ct (64 * s + k) + ct (64 * o + k)) = mgC ct s o (k + 1) := by
  funext j
  simp only [upd, mgC]
  by_cases h : j = 64 * s + k
  · rw [if_pos h, if_pos (by omega), h, show 64 * s + k - 64 * s = k by omega]
  · rw [if_neg h]
    by_cases h2 : 64 * s ≤ j ∧ j < 64 * s + k
    · rw [if_pos h2, if_pos (by omega)]
    · rw [if_neg h2, if_neg (by omega)]
theorem mgS_step (sm : Nat → Int64) (s o k : Nat) : vp_updL (mgS sm s o k) (1920 * s + k) (sm (1920 * s + k) + sm (1920 * o + k)) = mgS sm s o (k + 1) := by
  funext j
  simp only [vp_updL, mgS]
  by_cases h : j = 1920 * s + k
  · rw [if_pos h, if_pos (by omega), h, show 1920 * s + k - 1920 * s = k by omega]
  · rw [if_neg h]
    by_cases h2 : 1920 * s ≤ j ∧ j < 1920 * s + k
    · rw [if_pos h2, if_pos (by omega)]
    · rw [if_neg h2, if_neg (by omega)]
/-- back again: the places below k have their own counts, the others still the sums -/
def mgB (ct : Nat → Int32) (s o k : Nat) : Nat → Int32 := fun j => if 64 * s + k ≤ j ∧ j < 64 * s + 64 then ct j + ct (64 * o + (j - 64 * s)) else ct j
theorem mgB_0 (ct : Nat → Int32) (s o : Nat) : mgB ct s o 0 = mgC ct s o 64 := by funext j; simp only [mgB, mgC, Nat.add_zero]
theorem mgB_64 (ct : Nat → Int32) (s o : Nat) : mgB ct s o 64 = ct := by funext j; simp only [mgB]; rw [if_neg (by omega)]
theorem mgB_at (ct : Nat → Int32) {s o k : Nat} (hk : k < 64) : mgB ct s o k (64 * s + k) = ct (64 * s + k) + ct (64 * o + k) := by simp only [mgB]; rw [if_pos (by omega), show 64 * s + k - 64 * s = k by omega]
theorem mgB_oth (ct : Nat → Int32) {s o k j : Nat} (h : s ≠ o) (hj : j < 64) : mgB ct s o k (64 * o + j) = ct (64 * o + j) := by simp only [mgB]; rw [if_neg (by omega)]
theorem mgB_step (ct : Nat → Int32) {s o k : Nat} (hk : k < 64) : upd (mgB ct s o k) (64 * s + k) (ct (64 * s + k)) = mgB ct s o (k + 1) := by
  funext j
  simp only [upd, mgB]
  by_cases h : j = 64 * s + k
  · rw [if_pos h, if_neg (by omega), h]
  · rw [if_neg h]
    by_cases h2 : 64 * s + k ≤ j ∧ j < 64 * s + 64
    · rw [if_pos h2, if_pos (by omega)]
    · rw [if_neg h2, if_neg (by omega)]
def fulR (f : Nat → Int32) : Nat → Bool
  | 0 => false
  | k + 1 => fulR f k || decide ((1000000000 : Int32) < f k)
abbrev mgF (ct : Nat → Int32) (si oi : Nat) : Nat → Int32 := fun a => ct (64 * si + a) + ct (64 * oi + a)
theorem rm_back {D : DD} {X : MX} {A : Nat → Prop} (M : CX D X A mi_X7_merge.1.cls mi_X7_merge.2.1 mi_X7_merge.2.2.1 (miR mi_X7_merge)) (hr : RT X mi_X7_merge.2.2.2.1) {ad : Nat → Nat} {nd : Nat → Int32} {sl : Nat → Int32} {sr : Nat → Int32} {sd : Nat → Int64} {ag : Nat → Int32} {lo : Nat → Int32} {lw : Nat → Int32} {hg : Nat → Int32} {ct : Nat → Int32} {mt : Nat → Int32} {sm : Nat → Int64} {th : Nat → Int32} {tn : Nat → Int32} {lev : Int32} {le : Nat → Int32} {jo : Nat → Int32} {wy : Nat → Int32} {si oi : Nat} {z3 : Option Value} {z4 : Int32} (hsi : si < 3) (hoi : oi < 3) (hne : si ≠ oi) : ∀ m k : Nat, k ≤ 64 → 64 - k < m →
    G D X A 0 0 (GQ D X A ad 17 (fun r c => r = some (.int (-6)) ∧ c = rfW D ad nd sl sr sd ag lo lw hg ct mt sm th tn lev le jo wy)) ad 177 [some (.ref (ad 0)), some (.int (nI si)), some (.int (nI oi)), z3, some (.int z4), some (.int (nI k))] [] (rfW D ad nd sl sr sd ag lo lw hg (mgB ct si oi k) mt sm th tn lev le jo wy) := by
  intro m
  induction m with
  | zero => intro j _ h; omega
  | succ m ih =>
    intro k hk hm
    refine G_iload (pc := 177) M dX7_merge_177 rfl ?_
    refine G_bipush (pc := 179) (v := 64) M dX7_merge_179 (by decide +kernel) ?_
    refine G_icmp_ge (pc := 181) M 217 dX7_merge_181 (by decide) (fun h181 => ?_) (fun h181 => ?_)
    · have e : k = 64 := by
        have := (nI_leI (a := 64) (b := k) (by omega) (by omega)).mp h181
        omega
      subst e
      rw [mgB_64]
      refine G_bipush (pc := 217) (v := -6) M dX7_merge_217 (by decide +kernel) ?_
      exact G_iret M hr dX7_merge_219 (Eq.trans (b := 17) rfl rfl) ⟨rfl, rfl⟩
    · have hkl : k < 64 := Nat.lt_of_not_le (fun q => h181 (nI_le q (by omega)))
      refine G_aload_n (pc := 184) M dX7_merge_184 rfl ?_
      refine G_getf (pc := 185) M dX7_merge_185 fl_X7_35 rfl (by first | rfl | assumption) ?_
      refine G_bipush (pc := 188) (v := 64) M dX7_merge_188 (by decide +kernel) ?_
      refine G_iload_n (pc := 190) M dX7_merge_190 rfl ?_
      refine G_imul (pc := 191) M dX7_merge_191 ?_
      refine G_iload (pc := 192) M dX7_merge_192 rfl ?_
      refine G_iadd (pc := 194) M dX7_merge_194 ?_
      rw [ixA]
      first | refine G_dup2 (pc := 195) M dX7_merge_195 rfl rfl ?_ | refine G_dup2L (pc := 195) M dX7_merge_195 rfl ?_
      refine G_iaload (pc := 196) M dX7_merge_196 rfl (by first | assumption | exact vp_in_nI (by omega) (by omega)) ?_
      rw [cl_nI (by omega), mgB_at _ hkl]
      refine G_aload_n (pc := 197) M dX7_merge_197 rfl ?_
      refine G_getf (pc := 198) M dX7_merge_198 fl_X7_35 rfl (by first | rfl | assumption) ?_
      refine G_bipush (pc := 201) (v := 64) M dX7_merge_201 (by decide +kernel) ?_
      refine G_iload_n (pc := 203) M dX7_merge_203 rfl ?_
      refine G_imul (pc := 204) M dX7_merge_204 ?_
      refine G_iload (pc := 205) M dX7_merge_205 rfl ?_
      refine G_iadd (pc := 207) M dX7_merge_207 ?_
      rw [ixA]
      refine G_iaload (pc := 208) M dX7_merge_208 rfl (by first | assumption | exact vp_in_nI (by omega) (by omega)) ?_
      rw [cl_nI (by omega), mgB_oth _ hne hkl]
      refine G_isub (pc := 209) M dX7_merge_209 ?_
      rw [Int32.add_sub_cancel]
      refine G_iastore (pc := 210) M dX7_merge_210 rfl (by first | assumption | exact vp_in_nI (by omega) (by omega)) ?_
      try dsimp only [List.set]
      rw [cl_nI (by omega), mgB_step _ hkl]
      refine G_iinc (pc := 211) (v := 1) M dX7_merge_211 rfl (by decide +kernel) (Nat.le_of_ble_eq_true rfl) ?_
      refine G_goto (pc := 214) M 177 dX7_merge_214 (by decide) ?_
      rw [nI_1]
      exact ih (k + 1) (by omega) (by omega)
theorem rm_sums {D : DD} {X : MX} {A : Nat → Prop} (M : CX D X A mi_X7_merge.1.cls mi_X7_merge.2.1 mi_X7_merge.2.2.1 (miR mi_X7_merge)) (hr : RT X mi_X7_merge.2.2.2.1) {ad : Nat → Nat} {nd : Nat → Int32} {sl : Nat → Int32} {sr : Nat → Int32} {sd : Nat → Int64} {ag : Nat → Int32} {lo : Nat → Int32} {lw : Nat → Int32} {hg : Nat → Int32} {ct : Nat → Int32} {mt : Nat → Int32} {sm : Nat → Int64} {th : Nat → Int32} {tn : Nat → Int32} {lev : Int32} {le : Nat → Int32} {jo : Nat → Int32} {wy : Nat → Int32} {si oi : Nat} {z3 : Option Value} {z4 : Int32} (hsi : si < 3) (hoi : oi < 3) (hne : si ≠ oi) : ∀ m k : Nat, k ≤ 1920 → 1920 - k < m →
    G D X A 0 0 (GQ D X A ad 17 (fun r c => r = some (.int (nI (cntP (fun a => ct (64 * si + a)) 64))) ∧ c = rfW D ad nd sl sr sd ag lo lw hg ct mt (mgS sm si oi 1920) th tn lev le jo wy)) ad 245 [some (.ref (ad 0)), some (.int (nI si)), some (.int (nI oi)), z3, some (.int z4), some (.int (nI k))] [] (rfW D ad nd sl sr sd ag lo lw hg ct mt (mgS sm si oi k) th tn lev le jo wy) := by
  intro m
  induction m with
  | zero => intro j _ h; omega
  | succ m ih =>
    intro k hk hm
    refine G_iload (pc := 245) M dX7_merge_245 rfl ?_
    refine G_sipush (pc := 247) (v := 1920) M dX7_merge_247 (by decide +kernel) ?_
    refine G_icmp_ge (pc := 250) M 288 dX7_merge_250 (by decide) (fun h250 => ?_) (fun h250 => ?_)
    · have e : k = 1920 := by
        have := (nI_leI (a := 1920) (b := k) (by omega) (by omega)).mp h250
        omega
      subst e
      refine G_aload_n (pc := 288) M dX7_merge_288 rfl ?_
      refine G_iload_n (pc := 289) M dX7_merge_289 rfl ?_
      refine G_callv (pc := 290) M [0, 9] dX7_merge_290 mv_X7_68 (c_taken D _ (fun j => ad (pn [0, 9] j)) _ ct si hsi rfl) rfl ⟨rfl, rfl, trivial⟩ rfl rfl rfl rfl (Nat.le_of_ble_eq_true rfl) (Nat.le_of_ble_eq_true rfl) (Nat.le_of_ble_eq_true rfl) ⟨Nat.zero_le _, Nat.zero_le _⟩ (fun v c1 hq hlen => ?_)
      obtain ⟨rfl, rfl⟩ := hq
      try dsimp only [sall, List.set, Option.toList, List.cons_append, List.nil_append]
      exact G_iret M hr dX7_merge_293 (Eq.trans (b := 17) rfl rfl) ⟨rfl, rfl⟩
    · have hkl : k < 1920 := Nat.lt_of_not_le (fun q => h250 (nI_le q (by omega)))
      refine G_aload_n (pc := 253) M dX7_merge_253 rfl ?_
      refine G_getf (pc := 254) M dX7_merge_254 fl_X7_41 rfl (by first | rfl | assumption) ?_
      refine G_sipush (pc := 257) (v := 1920) M dX7_merge_257 (by decide +kernel) ?_
      refine G_iload_n (pc := 260) M dX7_merge_260 rfl ?_
      refine G_imul (pc := 261) M dX7_merge_261 ?_
      refine G_iload (pc := 262) M dX7_merge_262 rfl ?_
      refine G_iadd (pc := 264) M dX7_merge_264 ?_
      rw [ixE]
      first | refine G_dup2 (pc := 265) M dX7_merge_265 rfl rfl ?_ | refine G_dup2L (pc := 265) M dX7_merge_265 rfl ?_
      refine G_laload (pc := 266) M dX7_merge_266 rfl (by first | assumption | exact vp_in_nI (by omega) (by omega)) ?_
      rw [cl_nI (by omega), mgS_at]
      refine G_aload_n (pc := 267) M dX7_merge_267 rfl ?_
      refine G_getf (pc := 268) M dX7_merge_268 fl_X7_41 rfl (by first | rfl | assumption) ?_
      refine G_sipush (pc := 271) (v := 1920) M dX7_merge_271 (by decide +kernel) ?_
      refine G_iload_n (pc := 274) M dX7_merge_274 rfl ?_
      refine G_imul (pc := 275) M dX7_merge_275 ?_
      refine G_iload (pc := 276) M dX7_merge_276 rfl ?_
      refine G_iadd (pc := 278) M dX7_merge_278 ?_
      rw [ixE]
      refine G_laload (pc := 279) M dX7_merge_279 rfl (by first | assumption | exact vp_in_nI (by omega) (by omega)) ?_
      rw [cl_nI (by omega), mgS_oth _ hne hk hkl]
      refine G_ladd (pc := 280) M dX7_merge_280 ?_
      refine G_lastore (pc := 281) M dX7_merge_281 rfl (by first | assumption | exact vp_in_nI (by omega) (by omega)) ?_
      try dsimp only [List.set]
      rw [cl_nI (by omega), mgS_step]
      refine G_iinc (pc := 282) (v := 1) M dX7_merge_282 rfl (by decide +kernel) (Nat.le_of_ble_eq_true rfl) ?_
      refine G_goto (pc := 285) M 245 dX7_merge_285 (by decide) ?_
      rw [nI_1]
      exact ih (k + 1) (by omega) (by omega)
def mgcR (f : Nat → Int32) (kk : Nat) : Int32 := if nI (cntP f 64) ≤ nI kk then 0 else f (rnk f kk 64)
def mgK (f : Nat → Int32) (lo lo2 : Int32) (kk : Nat) : Bool := fulR f 64 || decide ((1000000000 : Int64) < lo.toInt64 + lo2.toInt64 + (mgcR f kk).toInt64)
def mgQR (D : DD) (ad : Nat → Nat) (nd : Nat → Int32) (sl : Nat → Int32) (sr : Nat → Int32) (sd : Nat → Int64) (ag : Nat → Int32) (lo : Nat → Int32) (lw : Nat → Int32) (hg : Nat → Int32) (ct : Nat → Int32) (mt : Nat → Int32) (sm : Nat → Int64) (th : Nat → Int32) (tn : Nat → Int32) (lev : Int32) (le : Nat → Int32) (jo : Nat → Int32) (wy : Nat → Int32) (si oi kk : Nat) : Option Value → List va_E → Prop := fun r c => (mgK (mgF ct si oi) (lo si) (lo oi) kk = true ∧ r = some (.int (-6)) ∧ c = rfW D ad nd sl sr sd ag lo lw hg ct mt sm th tn lev le jo wy) ∨ (mgK (mgF ct si oi) (lo si) (lo oi) kk = false ∧ r = some (.int (nI (cntP (fun a => lessF (mgC ct si oi 64) si (mgcR (mgF ct si oi) kk) 64 (64 * si + a)) 64))) ∧ c = rfW D ad nd sl sr sd ag (upd (upd lo si (lo si + lo oi)) si (lo si + lo oi + mgcR (mgF ct si oi) kk)) lw hg (lessF (mgC ct si oi 64) si (mgcR (mgF ct si oi) kk) 64) mt (mgS sm si oi 1920) th tn lev le jo wy)
theorem rm_end {D : DD} {X : MX} {A : Nat → Prop} (M : CX D X A mi_X7_merge.1.cls mi_X7_merge.2.1 mi_X7_merge.2.2.1 (miR mi_X7_merge)) (hr : RT X mi_X7_merge.2.2.2.1) {ad : Nat → Nat} {nd : Nat → Int32} {sl : Nat → Int32} {sr : Nat → Int32} {sd : Nat → Int64} {ag : Nat → Int32} {lo : Nat → Int32} {lw : Nat → Int32} {hg : Nat → Int32} {ct : Nat → Int32} {mt : Nat → Int32} {sm : Nat → Int64} {th : Nat → Int32} {tn : Nat → Int32} {lev : Int32} {le : Nat → Int32} {jo : Nat → Int32} {wy : Nat → Int32} {si oi kk : Nat} {z4 z5 : Option Value} (hsi : si < 3) (hoi : oi < 3) (hne : si ≠ oi) :
    G D X A 0 0 (GQ D X A ad 17 (mgQR D ad nd sl sr sd ag lo lw hg ct mt sm th tn lev le jo wy si oi kk)) ad 142 [some (.ref (ad 0)), some (.int (nI si)), some (.int (nI oi)), some (.int (bz (fulR (mgF ct si oi) 64))), z4, z5] [.int (mgcR (mgF ct si oi) kk)] (rfW D ad nd sl sr sd ag lo lw hg (mgC ct si oi 64) mt sm th tn lev le jo wy) := by
  have bk : mgK (mgF ct si oi) (lo si) (lo oi) kk = true → ∀ (z3 : Option Value) (z4 : Int32) (z5 : Option Value), G D X A 0 0 (GQ D X A ad 17 (mgQR D ad nd sl sr sd ag lo lw hg ct mt sm th tn lev le jo wy si oi kk)) ad 174 [some (.ref (ad 0)), some (.int (nI si)), some (.int (nI oi)), z3, some (.int z4), z5] [] (rfW D ad nd sl sr sd ag lo lw hg (mgC ct si oi 64) mt sm th tn lev le jo wy) := by
    intro hK z3 z4 z5
    refine G_iconst (pc := 174) (v := 0) M dX7_merge_174 (by decide +kernel) ?_
    refine G_istore (pc := 175) M dX7_merge_175 (Nat.le_of_ble_eq_true rfl) ?_
    have := rm_back M hr (ad := ad) (nd := nd) (sl := sl) (sr := sr) (sd := sd) (ag := ag) (lo := lo) (lw := lw) (hg := hg) (ct := ct) (mt := mt) (sm := sm) (th := th) (tn := tn) (lev := lev) (le := le) (jo := jo) (wy := wy) (z3 := z3) (z4 := z4) hsi hoi hne 65 0 (by omega) (by omega)
    rw [mgB_0] at this
    exact G_weak (fun r c q => Or.inl ⟨hK, q.1, q.2⟩) this
  refine G_istore (pc := 142) M dX7_merge_142 (Nat.le_of_ble_eq_true rfl) ?_
  refine G_iload_n (pc := 144) M dX7_merge_144 rfl ?_
  refine G_if_ne (pc := 145) M 174 dX7_merge_145 (by decide) (fun h145 => ?_) (fun h145 => ?_)
  · have hK : mgK (mgF ct si oi) (lo si) (lo oi) kk = true := by simp [mgK, bz1 h145]
    exact bk hK _ _ _
  · have hf := bz0 (b := fulR (mgF ct si oi) 64) (by simpa using h145)
    refine G_aload_n (pc := 148) M dX7_merge_148 rfl ?_
    refine G_getf (pc := 149) M dX7_merge_149 fl_X7_26 rfl (by first | rfl | assumption) ?_
    refine G_iload_n (pc := 152) M dX7_merge_152 rfl ?_
    refine G_iaload (pc := 153) M dX7_merge_153 rfl (by first | assumption | exact vp_in_nI (by omega) (by omega)) ?_
    rw [cl_nI (by omega)]
    refine G_i2l (pc := 154) M dX7_merge_154 ?_
    refine G_aload_n (pc := 155) M dX7_merge_155 rfl ?_
    refine G_getf (pc := 156) M dX7_merge_156 fl_X7_26 rfl (by first | rfl | assumption) ?_
    refine G_iload_n (pc := 159) M dX7_merge_159 rfl ?_
    refine G_iaload (pc := 160) M dX7_merge_160 rfl (by first | assumption | exact vp_in_nI (by omega) (by omega)) ?_
    rw [cl_nI (by omega)]
    refine G_i2l (pc := 161) M dX7_merge_161 ?_
    refine G_ladd (pc := 162) M dX7_merge_162 ?_
    refine G_iload (pc := 163) M dX7_merge_163 rfl ?_
    refine G_i2l (pc := 165) M dX7_merge_165 ?_
    refine G_ladd (pc := 166) M dX7_merge_166 ?_
    refine G_ldc2 (pc := 167) M dX7_merge_167 cn_X7_113 ?_
    refine G_lcmp (pc := 170) M dX7_merge_170 ?_
    refine G_if_le (pc := 171) M 220 dX7_merge_171 (by decide) (fun h171 => ?_) (fun h171 => ?_)
    · rw [lg_cmp_le] at h171
      have hK : mgK (mgF ct si oi) (lo si) (lo oi) kk = false := by
        simp only [mgK, hf, Bool.false_or]
        exact decide_eq_false (Int64.not_lt.mpr h171)
      refine G_aload_n (pc := 220) M dX7_merge_220 rfl ?_
      refine G_getf (pc := 221) M dX7_merge_221 fl_X7_26 rfl (by first | rfl | assumption) ?_
      refine G_iload_n (pc := 224) M dX7_merge_224 rfl ?_
      first | refine G_dup2 (pc := 225) M dX7_merge_225 rfl rfl ?_ | refine G_dup2L (pc := 225) M dX7_merge_225 rfl ?_
      refine G_iaload (pc := 226) M dX7_merge_226 rfl (by first | assumption | exact vp_in_nI (by omega) (by omega)) ?_
      rw [cl_nI (by omega)]
      refine G_aload_n (pc := 227) M dX7_merge_227 rfl ?_
      refine G_getf (pc := 228) M dX7_merge_228 fl_X7_26 rfl (by first | rfl | assumption) ?_
      refine G_iload_n (pc := 231) M dX7_merge_231 rfl ?_
      refine G_iaload (pc := 232) M dX7_merge_232 rfl (by first | assumption | exact vp_in_nI (by omega) (by omega)) ?_
      rw [cl_nI (by omega)]
      refine G_iadd (pc := 233) M dX7_merge_233 ?_
      refine G_iastore (pc := 234) M dX7_merge_234 rfl (by first | assumption | exact vp_in_nI (by omega) (by omega)) ?_
      try dsimp only [List.set]
      rw [cl_nI (by omega)]
      refine G_aload_n (pc := 235) M dX7_merge_235 rfl ?_
      refine G_iload_n (pc := 236) M dX7_merge_236 rfl ?_
      refine G_iload (pc := 237) M dX7_merge_237 rfl ?_
      refine G_callv (pc := 239) M [0, 6, 9] dX7_merge_239 mv_X7_72 (c_less D _ (fun j => ad (pn [0, 6, 9] j)) _ (upd lo si (lo si + lo oi)) (mgC ct si oi 64) si (mgcR (mgF ct si oi) kk) hsi rfl rfl) rfl ⟨rfl, rfl, rfl, trivial⟩ rfl rfl rfl rfl (Nat.le_of_ble_eq_true rfl) (Nat.le_of_ble_eq_true rfl) (Nat.le_of_ble_eq_true rfl) ⟨Nat.zero_le _, Nat.zero_le _⟩ (fun v c1 hq hlen => ?_)
      obtain ⟨rfl, rfl⟩ := hq
      try dsimp only [sall, List.set, Option.toList, List.cons_append, List.nil_append]
      refine G_iconst (pc := 242) (v := 0) M dX7_merge_242 (by decide +kernel) ?_
      refine G_istore (pc := 243) M dX7_merge_243 (Nat.le_of_ble_eq_true rfl) ?_
      have := rm_sums M hr (ad := ad) (nd := nd) (sl := sl) (sr := sr) (sd := sd) (ag := ag) (lo := upd (upd lo si (lo si + lo oi)) si (lo si + lo oi + mgcR (mgF ct si oi) kk)) (lw := lw) (hg := hg) (ct := lessF (mgC ct si oi 64) si (mgcR (mgF ct si oi) kk) 64) (mt := mt) (sm := sm) (th := th) (tn := tn) (lev := lev) (le := le) (jo := jo) (wy := wy) (z3 := some (.int (bz (fulR (mgF ct si oi) 64)))) (z4 := mgcR (mgF ct si oi) kk) hsi hoi hne 1921 0 (by omega) (by omega)
      rw [mgS_0] at this
      rw [upd_at]
      exact G_weak (fun r c q => Or.inr ⟨hK, q.1, q.2⟩) this
    · rw [lg_cmp_le] at h171
      have hK : mgK (mgF ct si oi) (lo si) (lo oi) kk = true := by
        simp only [mgK, hf, Bool.false_or]
        exact decide_eq_true (Int64.not_le.mp h171)
      exact bk hK _ _ _
theorem rm_mid {D : DD} {X : MX} {A : Nat → Prop} (M : CX D X A mi_X7_merge.1.cls mi_X7_merge.2.1 mi_X7_merge.2.2.1 (miR mi_X7_merge)) (hr : RT X mi_X7_merge.2.2.2.1) {ad : Nat → Nat} {nd : Nat → Int32} {sl : Nat → Int32} {sr : Nat → Int32} {sd : Nat → Int64} {ag : Nat → Int32} {lo : Nat → Int32} {lw : Nat → Int32} {hg : Nat → Int32} {ct : Nat → Int32} {mt : Nat → Int32} {sm : Nat → Int64} {th : Nat → Int32} {tn : Nat → Int32} {lev : Int32} {le : Nat → Int32} {jo : Nat → Int32} {wy : Nat → Int32} {si oi kk : Nat} {z4 z5 : Option Value} (hsi : si < 3) (hoi : oi < 3) (hne : si ≠ oi) (hkk : kk < 64) (hsl : sl si = nI kk) :
    G D X A 0 0 (GQ D X A ad 17 (mgQR D ad nd sl sr sd ag lo lw hg ct mt sm th tn lev le jo wy si oi kk)) ad 103 [some (.ref (ad 0)), some (.int (nI si)), some (.int (nI oi)), some (.int (bz (fulR (mgF ct si oi) 64))), z4, z5] [] (rfW D ad nd sl sr sd ag lo lw hg (mgC ct si oi 64) mt sm th tn lev le jo wy) := by
  have hw : ∀ a, a < 64 → mgC ct si oi 64 (64 * si + a) = mgF ct si oi a := fun a ha => by simp only [mgC, mgF]; rw [if_pos (by omega), show 64 * si + a - 64 * si = a by omega]
  have hcn : cntP (fun a => mgC ct si oi 64 (64 * si + a)) 64 = cntP (mgF ct si oi) 64 := cntP_congr 64 hw
  have hah : ∀ (a : Nat), a < 64 → ∀ k, k ≤ 64 → ahd (fun a => mgC ct si oi 64 (64 * si + a)) a k = ahd (mgF ct si oi) a k := by
    intro a ha k hk
    induction k with
    | zero => rfl
    | succ k ih => rw [ahd, ahd, ih (by omega)]; simp only [ahdB, hw a ha, hw k (by omega)]
  have hrn : ∀ m, m ≤ 64 → rnk (fun a => mgC ct si oi 64 (64 * si + a)) kk m = rnk (mgF ct si oi) kk m := by
    intro m hm
    induction m with
    | zero => rfl
    | succ m ih => rw [rnk, rnk, ih (by omega), hah _ (by omega) 64 (by omega)]
  have hlt := rnk_lt (mgF ct si oi) kk 64 (by omega)
  have fin : ∀ z4 : Option Value, G D X A 0 0 (GQ D X A ad 17 (mgQR D ad nd sl sr sd ag lo lw hg ct mt sm th tn lev le jo wy si oi kk)) ad 142 [some (.ref (ad 0)), some (.int (nI si)), some (.int (nI oi)), some (.int (bz (fulR (mgF ct si oi) 64))), z4, z5] [.int (mgcR (mgF ct si oi) kk)] (rfW D ad nd sl sr sd ag lo lw hg (mgC ct si oi 64) mt sm th tn lev le jo wy) := fun z4 => rm_end M hr hsi hoi hne
  refine G_aload_n (pc := 103) M dX7_merge_103 rfl ?_
  refine G_iload_n (pc := 104) M dX7_merge_104 rfl ?_
  refine G_callv (pc := 105) M [0, 9] dX7_merge_105 mv_X7_68 (c_taken D _ (fun j => ad (pn [0, 9] j)) _ (mgC ct si oi 64) si hsi rfl) rfl ⟨rfl, rfl, trivial⟩ rfl rfl rfl rfl (Nat.le_of_ble_eq_true rfl) (Nat.le_of_ble_eq_true rfl) (Nat.le_of_ble_eq_true rfl) ⟨Nat.zero_le _, Nat.zero_le _⟩ (fun v c1 hq hlen => ?_)
  obtain ⟨rfl, rfl⟩ := hq
  try dsimp only [sall, List.set, Option.toList, List.cons_append, List.nil_append]
  refine G_aload_n (pc := 108) M dX7_merge_108 rfl ?_
  refine G_getf (pc := 109) M dX7_merge_109 fl_X7_13 rfl (by first | rfl | assumption) ?_
  refine G_iload_n (pc := 112) M dX7_merge_112 rfl ?_
  refine G_iaload (pc := 113) M dX7_merge_113 rfl (by first | assumption | exact vp_in_nI (by omega) (by omega)) ?_
  rw [cl_nI (by omega), hsl, hcn]
  refine G_icmp_le (pc := 114) M 141 dX7_merge_114 (by decide) (fun h114 => ?_) (fun h114 => ?_)
  · have e : (0 : Int32) = mgcR (mgF ct si oi) kk := (if_pos h114).symm
    refine G_iconst (pc := 141) (v := 0) M dX7_merge_141 (by decide +kernel) ?_
    first | exact fin _ | (rw [e]; exact fin _)
  · have e : mgF ct si oi (rnk (mgF ct si oi) kk 64) = mgcR (mgF ct si oi) kk := (if_neg h114).symm
    refine G_aload_n (pc := 117) M dX7_merge_117 rfl ?_
    refine G_getf (pc := 118) M dX7_merge_118 fl_X7_35 rfl (by first | rfl | assumption) ?_
    refine G_bipush (pc := 121) (v := 64) M dX7_merge_121 (by decide +kernel) ?_
    refine G_iload_n (pc := 123) M dX7_merge_123 rfl ?_
    refine G_imul (pc := 124) M dX7_merge_124 ?_
    refine G_aload_n (pc := 125) M dX7_merge_125 rfl ?_
    refine G_iload_n (pc := 126) M dX7_merge_126 rfl ?_
    refine G_aload_n (pc := 127) M dX7_merge_127 rfl ?_
    refine G_getf (pc := 128) M dX7_merge_128 fl_X7_13 rfl (by first | rfl | assumption) ?_
    refine G_iload_n (pc := 131) M dX7_merge_131 rfl ?_
    refine G_iaload (pc := 132) M dX7_merge_132 rfl (by first | assumption | exact vp_in_nI (by omega) (by omega)) ?_
    rw [cl_nI (by omega), hsl]
    refine G_callv (pc := 133) M [0, 9] dX7_merge_133 mv_X7_109 (c_ranked D _ (fun j => ad (pn [0, 9] j)) _ (mgC ct si oi 64) si kk hsi (by omega) rfl) rfl ⟨rfl, rfl, trivial⟩ rfl rfl rfl rfl (Nat.le_of_ble_eq_true rfl) (Nat.le_of_ble_eq_true rfl) (Nat.le_of_ble_eq_true rfl) ⟨Nat.zero_le _, Nat.zero_le _⟩ (fun v c1 hq hlen => ?_)
    obtain ⟨rfl, rfl⟩ := hq
    try dsimp only [sall, List.set, Option.toList, List.cons_append, List.nil_append]
    rw [hrn 64 (by omega)]
    refine G_iadd (pc := 136) M dX7_merge_136 ?_
    rw [ixA]
    refine G_iaload (pc := 137) M dX7_merge_137 rfl (by first | assumption | exact vp_in_nI (by omega) (by omega)) ?_
    rw [cl_nI (by omega), hw _ hlt, e]
    refine G_goto (pc := 138) M 142 dX7_merge_138 (by decide) ?_
    first | exact fin _ | (rw [e]; exact fin _)
theorem rm_add {D : DD} {X : MX} {A : Nat → Prop} (M : CX D X A mi_X7_merge.1.cls mi_X7_merge.2.1 mi_X7_merge.2.2.1 (miR mi_X7_merge)) (hr : RT X mi_X7_merge.2.2.2.1) {ad : Nat → Nat} {nd : Nat → Int32} {sl : Nat → Int32} {sr : Nat → Int32} {sd : Nat → Int64} {ag : Nat → Int32} {lo : Nat → Int32} {lw : Nat → Int32} {hg : Nat → Int32} {ct : Nat → Int32} {mt : Nat → Int32} {sm : Nat → Int64} {th : Nat → Int32} {tn : Nat → Int32} {lev : Int32} {le : Nat → Int32} {jo : Nat → Int32} {wy : Nat → Int32} {si oi kk : Nat} {z5 : Option Value} (hsi : si < 3) (hoi : oi < 3) (hne : si ≠ oi) (hkk : kk < 64) (hsl : sl si = nI kk) : ∀ m k : Nat, k ≤ 64 → 64 - k < m →
    G D X A 0 0 (GQ D X A ad 17 (mgQR D ad nd sl sr sd ag lo lw hg ct mt sm th tn lev le jo wy si oi kk)) ad 38 [some (.ref (ad 0)), some (.int (nI si)), some (.int (nI oi)), some (.int (bz (fulR (mgF ct si oi) k))), some (.int (nI k)), z5] [] (rfW D ad nd sl sr sd ag lo lw hg (mgC ct si oi k) mt sm th tn lev le jo wy) := by
  intro m
  induction m with
  | zero => intro j _ h; omega
  | succ m ih =>
    intro k hk hm
    refine G_iload (pc := 38) M dX7_merge_38 rfl ?_
    refine G_bipush (pc := 40) (v := 64) M dX7_merge_40 (by decide +kernel) ?_
    refine G_icmp_ge (pc := 42) M 103 dX7_merge_42 (by decide) (fun h42 => ?_) (fun h42 => ?_)
    · have e : k = 64 := by
        have := (nI_leI (a := 64) (b := k) (by omega) (by omega)).mp h42
        omega
      subst e
      exact rm_mid M hr hsi hoi hne hkk hsl
    · have hkl : k < 64 := Nat.lt_of_not_le (fun q => h42 (nI_le q (by omega)))
      refine G_aload_n (pc := 45) M dX7_merge_45 rfl ?_
      refine G_getf (pc := 46) M dX7_merge_46 fl_X7_35 rfl (by first | rfl | assumption) ?_
      refine G_bipush (pc := 49) (v := 64) M dX7_merge_49 (by decide +kernel) ?_
      refine G_iload_n (pc := 51) M dX7_merge_51 rfl ?_
      refine G_imul (pc := 52) M dX7_merge_52 ?_
      refine G_iload (pc := 53) M dX7_merge_53 rfl ?_
      refine G_iadd (pc := 55) M dX7_merge_55 ?_
      rw [ixA]
      first | refine G_dup2 (pc := 56) M dX7_merge_56 rfl rfl ?_ | refine G_dup2L (pc := 56) M dX7_merge_56 rfl ?_
      refine G_iaload (pc := 57) M dX7_merge_57 rfl (by first | assumption | exact vp_in_nI (by omega) (by omega)) ?_
      rw [cl_nI (by omega), mgC_at]
      refine G_aload_n (pc := 58) M dX7_merge_58 rfl ?_
      refine G_getf (pc := 59) M dX7_merge_59 fl_X7_35 rfl (by first | rfl | assumption) ?_
      refine G_bipush (pc := 62) (v := 64) M dX7_merge_62 (by decide +kernel) ?_
      refine G_iload_n (pc := 64) M dX7_merge_64 rfl ?_
      refine G_imul (pc := 65) M dX7_merge_65 ?_
      refine G_iload (pc := 66) M dX7_merge_66 rfl ?_
      refine G_iadd (pc := 68) M dX7_merge_68 ?_
      rw [ixA]
      refine G_iaload (pc := 69) M dX7_merge_69 rfl (by first | assumption | exact vp_in_nI (by omega) (by omega)) ?_
      rw [cl_nI (by omega), mgC_oth _ hne hk hkl]
      refine G_iadd (pc := 70) M dX7_merge_70 ?_
      refine G_iastore (pc := 71) M dX7_merge_71 rfl (by first | assumption | exact vp_in_nI (by omega) (by omega)) ?_
      try dsimp only [List.set]
      rw [cl_nI (by omega), mgC_step]
      refine G_iload_n (pc := 72) M dX7_merge_72 rfl ?_
      refine G_aload_n (pc := 73) M dX7_merge_73 rfl ?_
      refine G_getf (pc := 74) M dX7_merge_74 fl_X7_35 rfl (by first | rfl | assumption) ?_
      refine G_bipush (pc := 77) (v := 64) M dX7_merge_77 (by decide +kernel) ?_
      refine G_iload_n (pc := 79) M dX7_merge_79 rfl ?_
      refine G_imul (pc := 80) M dX7_merge_80 ?_
      refine G_iload (pc := 81) M dX7_merge_81 rfl ?_
      refine G_iadd (pc := 83) M dX7_merge_83 ?_
      rw [ixA]
      refine G_iaload (pc := 84) M dX7_merge_84 rfl (by first | assumption | exact vp_in_nI (by omega) (by omega)) ?_
      rw [cl_nI (by omega), show mgC ct si oi (k + 1) (64 * si + k) = ct (64 * si + k) + ct (64 * oi + k) by (simp only [mgC]; rw [if_pos (by omega), show 64 * si + k - 64 * si = k by omega])]
      refine G_ldc (pc := 85) M dX7_merge_85 cn_X7_108 ?_
      refine G_icmp_le (pc := 87) M 94 dX7_merge_87 (by decide) (fun h87 => ?_) (fun h87 => ?_)
      · have e : bz (fulR (mgF ct si oi) k) ||| 0 = bz (fulR (mgF ct si oi) (k + 1)) := by
          have : decide ((1000000000 : Int32) < ct (64 * si + k) + ct (64 * oi + k)) = false := decide_eq_false (Int32.not_lt.mpr h87)
          simp only [fulR, mgF, this, Bool.or_false]
          cases fulR (mgF ct si oi) k <;> rfl
        refine G_iconst (pc := 94) (v := 0) M dX7_merge_94 (by decide +kernel) ?_
        refine G_ior (pc := 95) M dX7_merge_95 ?_
        rw [e]
        refine G_istore_n (pc := 96) M dX7_merge_96 (Nat.le_of_ble_eq_true rfl) ?_
        refine G_iinc (pc := 97) (v := 1) M dX7_merge_97 rfl (by decide +kernel) (Nat.le_of_ble_eq_true rfl) ?_
        refine G_goto (pc := 100) M 38 dX7_merge_100 (by decide) ?_
        rw [nI_1]
        exact ih (k + 1) (by omega) (by omega)
      · have e : bz (fulR (mgF ct si oi) k) ||| 1 = bz (fulR (mgF ct si oi) (k + 1)) := by
          have : decide ((1000000000 : Int32) < ct (64 * si + k) + ct (64 * oi + k)) = true := decide_eq_true (Int32.not_le.mp h87)
          simp only [fulR, mgF, this, Bool.or_true]
          cases fulR (mgF ct si oi) k <;> rfl
        refine G_iconst (pc := 90) (v := 1) M dX7_merge_90 (by decide +kernel) ?_
        refine G_goto (pc := 91) M 95 dX7_merge_91 (by decide) ?_
        refine G_ior (pc := 95) M dX7_merge_95 ?_
        rw [e]
        refine G_istore_n (pc := 96) M dX7_merge_96 (Nat.le_of_ble_eq_true rfl) ?_
        refine G_iinc (pc := 97) (v := 1) M dX7_merge_97 rfl (by decide +kernel) (Nat.le_of_ble_eq_true rfl) ?_
        refine G_goto (pc := 100) M 38 dX7_merge_100 (by decide) ?_
        rw [nI_1]
        exact ih (k + 1) (by omega) (by omega)
theorem r_merge (D : DD) (l : Launch) (ad : Nat → Nat) (nd : Nat → Int32) (sl : Nat → Int32) (sr : Nat → Int32) (sd : Nat → Int64) (ag : Nat → Int32) (lo : Nat → Int32) (lw : Nat → Int32) (hg : Nat → Int32) (ct : Nat → Int32) (mt : Nat → Int32) (sm : Nat → Int64) (th : Nat → Int32) (tn : Nat → Int32) (lev : Int32) (le : Nat → Int32) (jo : Nat → Int32) (wy : Nat → Int32) (s o : Int32) (kk : Nat) (hkk : kk < 64) (hsl : okS s = true → sl s.toNatClampNeg = nI kk) : Ct D l mi_X7_merge [.ref (ad 0), .int s, .int o] ad (rfW D ad nd sl sr sd ag lo lw hg ct mt sm th tn lev le jo wy) (fun r c => ((okS s && okS o && !decide (s = o)) = false ∧ r = some (.int (-1)) ∧ c = rfW D ad nd sl sr sd ag lo lw hg ct mt sm th tn lev le jo wy) ∨ (∃ si oi, si < 3 ∧ oi < 3 ∧ s = nI si ∧ o = nI oi ∧ si ≠ oi ∧ ((apB nd sl sr sd si oi = true ∧ r = some (.int (-3)) ∧ c = rfW D ad nd sl sr sd ag lo lw hg ct mt sm th tn lev le jo wy) ∨ (apB nd sl sr sd si oi = false ∧ mgQR D ad nd sl sr sd ag lo lw hg ct mt sm th tn lev le jo wy si oi kk r c)))) := by
  refine Ct.of (by decide +kernel) (Nat.le_of_ble_eq_true rfl) (fun X A hX M hr => ?_)
  subst hX
  refine G_iload_n (pc := 0) M dX7_merge_0 rfl ?_
  refine G_calls (pc := 1) M [] dX7_merge_1 ms_X7_64 (c_isStream D _ (fun j => ad (pn [] j)) s) trivial rfl rfl rfl rfl (Nat.le_of_ble_eq_true rfl) (Nat.le_of_ble_eq_true rfl) (Nat.le_of_ble_eq_true rfl) ⟨Nat.zero_le _, Nat.zero_le _⟩ (fun v c1 hq hlen => ?_)
  obtain ⟨rfl, rfl⟩ := hq
  try dsimp only [sall, List.set, Option.toList, List.cons_append, List.nil_append]
  refine G_if_eq (pc := 4) M 19 dX7_merge_4 (by decide) (fun h4 => ?_) (fun h4 => ?_)
  · have e5 : (okS s && okS o && !decide (s = o)) = false := by rw [bz0 h4]; rfl
    refine G_iconst (pc := 19) (v := -1) M dX7_merge_19 (by decide +kernel) ?_
    exact G_iret M hr dX7_merge_20 (Eq.trans (b := 17) rfl rfl) (Or.inl ⟨e5, rfl, rfl⟩)
  · have hs := bz1 h4
    refine G_iload_n (pc := 7) M dX7_merge_7 rfl ?_
    refine G_calls (pc := 8) M [] dX7_merge_8 ms_X7_64 (c_isStream D _ (fun j => ad (pn [] j)) o) trivial rfl rfl rfl rfl (Nat.le_of_ble_eq_true rfl) (Nat.le_of_ble_eq_true rfl) (Nat.le_of_ble_eq_true rfl) ⟨Nat.zero_le _, Nat.zero_le _⟩ (fun v c1 hq hlen => ?_)
    obtain ⟨rfl, rfl⟩ := hq
    try dsimp only [sall, List.set, Option.toList, List.cons_append, List.nil_append]
    refine G_if_eq (pc := 11) M 19 dX7_merge_11 (by decide) (fun h11 => ?_) (fun h11 => ?_)
    · have e5 : (okS s && okS o && !decide (s = o)) = false := by rw [bz0 h11]; simp
      refine G_iconst (pc := 19) (v := -1) M dX7_merge_19 (by decide +kernel) ?_
      exact G_iret M hr dX7_merge_20 (Eq.trans (b := 17) rfl rfl) (Or.inl ⟨e5, rfl, rfl⟩)
    · have ho := bz1 h11
      refine G_iload_n (pc := 14) M dX7_merge_14 rfl ?_
      refine G_iload_n (pc := 15) M dX7_merge_15 rfl ?_
      refine G_icmp_ne (pc := 16) M 21 dX7_merge_16 (by decide) (fun h16 => ?_) (fun h16 => ?_)
      · have hsl := hsl hs
        obtain ⟨si, hsi, rfl⟩ := okS_of hs
        obtain ⟨oi, hoi, rfl⟩ := okS_of ho
        have hne : si ≠ oi := fun q => h16 (by rw [q])
        rw [cl_nI (n := si) (by omega)] at hsl
        refine G_aload_n (pc := 21) M dX7_merge_21 rfl ?_
        refine G_iload_n (pc := 22) M dX7_merge_22 rfl ?_
        refine G_iload_n (pc := 23) M dX7_merge_23 rfl ?_
        refine G_callv (pc := 24) M [0, 1, 2, 3, 4] dX7_merge_24 mv_X7_105 (c_isApart D _ (fun j => ad (pn [0, 1, 2, 3, 4] j)) _ nd sl sr sd si oi hsi hoi rfl rfl rfl rfl) rfl ⟨rfl, rfl, rfl, rfl, rfl, trivial⟩ rfl rfl rfl rfl (Nat.le_of_ble_eq_true rfl) (Nat.le_of_ble_eq_true rfl) (Nat.le_of_ble_eq_true rfl) ⟨Nat.zero_le _, Nat.zero_le _⟩ (fun v c1 hq hlen => ?_)
        obtain ⟨rfl, rfl⟩ := hq
        try dsimp only [sall, List.set, Option.toList, List.cons_append, List.nil_append]
        refine G_if_eq (pc := 27) M 33 dX7_merge_27 (by decide) (fun h27 => ?_) (fun h27 => ?_)
        · have e6 := bz0 h27
          refine G_iconst (pc := 33) (v := 0) M dX7_merge_33 (by decide +kernel) ?_
          refine G_istore_n (pc := 34) M dX7_merge_34 (Nat.le_of_ble_eq_true rfl) ?_
          refine G_iconst (pc := 35) (v := 0) M dX7_merge_35 (by decide +kernel) ?_
          refine G_istore (pc := 36) M dX7_merge_36 (Nat.le_of_ble_eq_true rfl) ?_
          have := rm_add M hr (ad := ad) (nd := nd) (sl := sl) (sr := sr) (sd := sd) (ag := ag) (lo := lo) (lw := lw) (hg := hg) (ct := ct) (mt := mt) (sm := sm) (th := th) (tn := tn) (lev := lev) (le := le) (jo := jo) (wy := wy) (z5 := none) hsi hoi hne hkk hsl 65 0 (by omega) (by omega)
          rw [mgC_0] at this
          exact G_weak (fun r c q => Or.inr ⟨si, oi, hsi, hoi, rfl, rfl, hne, Or.inr ⟨e6, q⟩⟩) this
        · have e6 := bz1 h27
          refine G_bipush (pc := 30) (v := -3) M dX7_merge_30 (by decide +kernel) ?_
          exact G_iret M hr dX7_merge_32 (Eq.trans (b := 17) rfl rfl) (Or.inr ⟨si, oi, hsi, hoi, rfl, rfl, hne, Or.inl ⟨e6, rfl, rfl⟩⟩)
      · have e5 : (okS s && okS o && !decide (s = o)) = false := by
          have : s = o := by simpa using h16
          simp [this]
        refine G_iconst (pc := 19) (v := -1) M dX7_merge_19 (by decide +kernel) ?_
        exact G_iret M hr dX7_merge_20 (Eq.trans (b := 17) rfl rfl) (Or.inl ⟨e5, rfl, rfl⟩)
