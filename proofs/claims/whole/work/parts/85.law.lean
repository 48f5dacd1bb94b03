/-! the law: a call of each kind -/
abbrev LV (b : Nat) (ad : Nat → Nat) (k : Nat) : List (Option Value) := [some (.ref b), some (.ref (ad 0)), some (.ref (ad 50)), some (.int (nI k))]
def LX (D : DD) (X : MX) (A : Nat → Prop) (b L : Nat) (xs : Nat → Int32) : Prop := CX D X A RL cL_law 4 room_1 ∧ va_X b L xs X.2.2.2.2.1 X.2.2.2.2.1.heap ∧ b < X.2.2.2.2.1.heap.size ∧ (¬ A b) ∧ L ≤ 3584
abbrev lng (h l : Int32) : Int64 := h.toInt64 <<< ((32 : Int32).toInt64 &&& 63) ||| l.toInt64 &&& 4294967295
theorem cmp_same (r : Int64) : lg_cmp r r = 0 := by simp [lg_cmp]
theorem INV.at0 {D : DD} {ad : Nat → Nat} {N : Nat} {cs : List va_E} (h : INV D ad N cs) : ∃ fs, gt cs 0 = some (ob 6 fs) := by
  obtain ⟨lev, Ps, R, le, jo, wy, e, -⟩ := h
  subst e
  exact ⟨_, rfl⟩
section
variable {D : DD} {X : MX} {A : Nat → Prop} {own : String} {cc : ByteArray} {nL kc ks : Nat} {R : Room} {Q : State → Prop} {ad : Nat → Nat} {pc : Nat} {lv : List (Option Value)} {st : List Value} {cs : List va_E}
theorem G_sld (M : CX D X A own cc nL R) {b L : Nat} {xs : Nat → Int32} (hX : va_X b L xs X.2.2.2.2.1 X.2.2.2.2.1.heap) (hbl : b < X.2.2.2.2.1.heap.size) (hbA : ¬ A b) {j : Int32} {k : Nat} (d : decode cc pc = .ok (.iaload, 1)) (hj : j = nI k) (hk : k < L) (hL : L ≤ 3584) (kk : G D X A kc ks Q ad (pc + 1) lv (.int (xs k) :: st) cs) : G D X A kc ks Q ad pc lv (.int j :: .ref b :: st) cs := fun ls H locs hl hP hD hS => by
  subst hj
  refine va_sld M.1 M.2.1 hX hbl hbA hS (vp_in_nI hk (by omega)) d ?_
  rw [nI_clamp (by omega)]
  exact kk ls H locs hl hP hD hS
theorem G_slen (M : CX D X A own cc nL R) {b L : Nat} {xs : Nat → Int32} (hX : va_X b L xs X.2.2.2.2.1 X.2.2.2.2.1.heap) (hbl : b < X.2.2.2.2.1.heap.size) (hbA : ¬ A b) (d : decode cc pc = .ok (.arraylength, 1)) (kk : G D X A kc ks Q ad (pc + 1) lv (.int (nI L) :: st) cs) : G D X A kc ks Q ad pc lv (.ref b :: st) cs := fun ls H locs hl hP hD hS =>
  va_slen M.1 M.2.1 hX hbl hbA hS d (kk ls H locs hl hP hD hS)
end
section
variable {D : DD} {X : MX} {A : Nat → Prop} {b L : Nat} {xs : Nat → Int32} {kc ks : Nat} {Q : State → Prop} {ad : Nat → Nat} {pc k N : Nat} {st : List Value} {cs : List va_E}
theorem G_arg (B : LX D X A b L xs) {n : Int} (j : Nat) (d0 : decode cL_law pc = .ok (.aload_n 0, 1)) (d1 : decode cL_law (pc + 1) = .ok (.iload_n 3, 1)) (d2 : decode cL_law (pc + 2) = .ok (.iconst n, 1)) (hn : Int32.ofInt n = nI j) (d3 : decode cL_law (pc + 3) = .ok (.iadd, 1)) (d4 : decode cL_law (pc + 4) = .ok (.iaload, 1)) (hk : k + 7 ≤ L) (hj : j < 7) (kk : G D X A kc ks Q ad (pc + 5) (LV b ad k) (.int (xs (k + j)) :: st) cs) : G D X A kc ks Q ad pc (LV b ad k) st cs := by
  obtain ⟨M, hX, hbl, hbA, hL⟩ := B
  refine G_aload_n M d0 rfl ?_
  refine G_iload_n M d1 rfl ?_
  refine G_iconst M d2 hn ?_
  refine G_iadd M d3 ?_
  exact G_sld M hX hbl hbA d4 (nI_add k j) (by omega) hL kk
theorem G_arg6 (B : LX D X A b L xs) {n : Int} (j : Nat) (d0 : decode cL_law pc = .ok (.aload_n 0, 1)) (d1 : decode cL_law (pc + 1) = .ok (.iload_n 3, 1)) (d2 : decode cL_law (pc + 2) = .ok (.bipush n, 2)) (hn : (Int8.ofInt n).toInt32 = nI j) (d3 : decode cL_law (pc + 4) = .ok (.iadd, 1)) (d4 : decode cL_law (pc + 5) = .ok (.iaload, 1)) (hk : k + 7 ≤ L) (hj : j < 7) (kk : G D X A kc ks Q ad (pc + 6) (LV b ad k) (.int (xs (k + j)) :: st) cs) : G D X A kc ks Q ad pc (LV b ad k) st cs := by
  obtain ⟨M, hX, hbl, hbA, hL⟩ := B
  refine G_aload_n M d0 rfl ?_
  refine G_iload_n M d1 rfl ?_
  refine G_bipush M d2 hn ?_
  refine G_iadd M d3 ?_
  exact G_sld M hX hbl hbA d4 (nI_add k j) (by omega) hL kk

theorem law_begin (B : LX D X A b L xs) (hN : N ≤ 511) (hI : INV D ad N cs) (hk : k + 7 ≤ L) (hc : kc ≤ 600000 ∧ ks ≤ 7302250) (K : ∀ c2, INV D ad (N + 1) c2 → G D X A kc ks Q ad 897 (LV b ad k) [] c2) : G D X A kc ks Q ad 120 (LV b ad k) [] cs := by
  have M := B.1
  obtain ⟨fs0, h0⟩ := INV.at0 hI
  obtain ⟨Q1, C1, C2⟩ := p_begin (l := X.2.1) hN hI (xs (k + 1)) (xs (k + 2)) (xs (k + 3)) (xs (k + 4)) (lng (xs (k + 5)) (xs (k + 6)))
  refine G_aload_n (pc := 120) M dL_law_120 rfl ?_
  refine G_arg (pc := 121) B 1 dL_law_121 dL_law_122 dL_law_123 (by decide +kernel) dL_law_124 dL_law_125 hk (by decide) ?_
  refine G_arg (pc := 126) B 2 dL_law_126 dL_law_127 dL_law_128 (by decide +kernel) dL_law_129 dL_law_130 hk (by decide) ?_
  refine G_arg (pc := 131) B 3 dL_law_131 dL_law_132 dL_law_133 (by decide +kernel) dL_law_134 dL_law_135 hk (by decide) ?_
  refine G_arg (pc := 136) B 4 dL_law_136 dL_law_137 dL_law_138 (by decide +kernel) dL_law_139 dL_law_140 hk (by decide) ?_
  refine G_arg (pc := 141) B 5 dL_law_141 dL_law_142 dL_law_143 (by decide +kernel) dL_law_144 dL_law_145 hk (by decide) ?_
  refine G_i2l (pc := 146) M dL_law_146 ?_
  refine G_bipush (pc := 147) (v := 32) M dL_law_147 (by decide +kernel) ?_
  refine G_lshl (pc := 149) M dL_law_149 ?_
  refine G_arg6 (pc := 150) B 6 dL_law_150 dL_law_151 dL_law_152 (by decide +kernel) dL_law_154 dL_law_155 hk (by decide) ?_
  refine G_i2l (pc := 156) M dL_law_156 ?_
  refine G_ldc2 (pc := 157) M dL_law_157 cn_L_13 ?_
  refine G_land (pc := 160) M dL_law_160 ?_
  refine G_lor (pc := 161) M dL_law_161 ?_
  refine G_callw (pc := 162) (a := 0) (st := []) M dL_law_162 mv_L_15 C1 h0 rfl rfl rfl (Nat.le_of_ble_eq_true rfl) (Nat.le_of_ble_eq_true rfl) (Nat.le_of_ble_eq_true rfl) hc (fun v c1 hq => ?_)
  obtain ⟨hT, ⟨fs1, h1⟩, C⟩ := C2 v c1 hq
  obtain ⟨r, hr⟩ := hT
  subst hr
  refine G_aload_n (pc := 165) M dL_law_165 rfl ?_
  refine G_arg (pc := 166) B 1 dL_law_166 dL_law_167 dL_law_168 (by decide +kernel) dL_law_169 dL_law_170 hk (by decide) ?_
  refine G_arg (pc := 171) B 2 dL_law_171 dL_law_172 dL_law_173 (by decide +kernel) dL_law_174 dL_law_175 hk (by decide) ?_
  refine G_arg (pc := 176) B 3 dL_law_176 dL_law_177 dL_law_178 (by decide +kernel) dL_law_179 dL_law_180 hk (by decide) ?_
  refine G_arg (pc := 181) B 4 dL_law_181 dL_law_182 dL_law_183 (by decide +kernel) dL_law_184 dL_law_185 hk (by decide) ?_
  refine G_arg (pc := 186) B 5 dL_law_186 dL_law_187 dL_law_188 (by decide +kernel) dL_law_189 dL_law_190 hk (by decide) ?_
  refine G_i2l (pc := 191) M dL_law_191 ?_
  refine G_bipush (pc := 192) (v := 32) M dL_law_192 (by decide +kernel) ?_
  refine G_lshl (pc := 194) M dL_law_194 ?_
  refine G_arg6 (pc := 195) B 6 dL_law_195 dL_law_196 dL_law_197 (by decide +kernel) dL_law_199 dL_law_200 hk (by decide) ?_
  refine G_i2l (pc := 201) M dL_law_201 ?_
  refine G_ldc2 (pc := 202) M dL_law_202 cn_L_13 ?_
  refine G_land (pc := 205) M dL_law_205 ?_
  refine G_lor (pc := 206) M dL_law_206 ?_
  refine G_callw (pc := 207) (a := 50) (st := [.int r]) M dL_law_207 mv_L_19 C h1 rfl rfl rfl (Nat.le_of_ble_eq_true rfl) (Nat.le_of_ble_eq_true rfl) (Nat.le_of_ble_eq_true rfl) hc (fun v2 c2 hq2 => ?_)
  obtain ⟨hv2, hI2⟩ := hq2
  subst hv2
  exact G_icmp_eq (pc := 210) M 897 dL_law_210 (by decide) (fun _ => K c2 hI2) (fun h => absurd rfl h)
theorem law_add (B : LX D X A b L xs) (hN : N ≤ 511) (hI : INV D ad N cs) (hk : k + 7 ≤ L) (hc : kc ≤ 600000 ∧ ks ≤ 7302250) (K : ∀ c2, INV D ad (N + 1) c2 → G D X A kc ks Q ad 897 (LV b ad k) [] c2) : G D X A kc ks Q ad 215 (LV b ad k) [] cs := by
  have M := B.1
  obtain ⟨fs0, h0⟩ := INV.at0 hI
  obtain ⟨Q1, C1, C2⟩ := p_add (l := X.2.1) hN hI (xs (k + 1)) (xs (k + 2)) (xs (k + 3))
  refine G_aload_n (pc := 215) M dL_law_215 rfl ?_
  refine G_arg (pc := 216) B 1 dL_law_216 dL_law_217 dL_law_218 (by decide +kernel) dL_law_219 dL_law_220 hk (by decide) ?_
  refine G_arg (pc := 221) B 2 dL_law_221 dL_law_222 dL_law_223 (by decide +kernel) dL_law_224 dL_law_225 hk (by decide) ?_
  refine G_arg (pc := 226) B 3 dL_law_226 dL_law_227 dL_law_228 (by decide +kernel) dL_law_229 dL_law_230 hk (by decide) ?_
  refine G_callw (pc := 231) (a := 0) (st := []) M dL_law_231 mv_L_20 C1 h0 rfl rfl rfl (Nat.le_of_ble_eq_true rfl) (Nat.le_of_ble_eq_true rfl) (Nat.le_of_ble_eq_true rfl) hc (fun v c1 hq => ?_)
  obtain ⟨hT, ⟨fs1, h1⟩, C⟩ := C2 v c1 hq
  obtain ⟨r, hr⟩ := hT
  subst hr
  refine G_aload_n (pc := 234) M dL_law_234 rfl ?_
  refine G_arg (pc := 235) B 1 dL_law_235 dL_law_236 dL_law_237 (by decide +kernel) dL_law_238 dL_law_239 hk (by decide) ?_
  refine G_arg (pc := 240) B 2 dL_law_240 dL_law_241 dL_law_242 (by decide +kernel) dL_law_243 dL_law_244 hk (by decide) ?_
  refine G_arg (pc := 245) B 3 dL_law_245 dL_law_246 dL_law_247 (by decide +kernel) dL_law_248 dL_law_249 hk (by decide) ?_
  refine G_callw (pc := 250) (a := 50) (st := [.int r]) M dL_law_250 mv_L_24 C h1 rfl rfl rfl (Nat.le_of_ble_eq_true rfl) (Nat.le_of_ble_eq_true rfl) (Nat.le_of_ble_eq_true rfl) hc (fun v2 c2 hq2 => ?_)
  obtain ⟨hv2, hI2⟩ := hq2
  subst hv2
  exact G_icmp_eq (pc := 253) M 897 dL_law_253 (by decide) (fun _ => K c2 hI2) (fun h => absurd rfl h)
theorem law_take (B : LX D X A b L xs) (hN : N ≤ 511) (hI : INV D ad N cs) (hk : k + 7 ≤ L) (hc : kc ≤ 600000 ∧ ks ≤ 7302250) (K : ∀ c2, INV D ad (N + 1) c2 → G D X A kc ks Q ad 897 (LV b ad k) [] c2) : G D X A kc ks Q ad 258 (LV b ad k) [] cs := by
  have M := B.1
  obtain ⟨fs0, h0⟩ := INV.at0 hI
  obtain ⟨Q1, C1, C2⟩ := p_take (l := X.2.1) hN hI (xs (k + 1)) (xs (k + 2)) (xs (k + 3))
  refine G_aload_n (pc := 258) M dL_law_258 rfl ?_
  refine G_arg (pc := 259) B 1 dL_law_259 dL_law_260 dL_law_261 (by decide +kernel) dL_law_262 dL_law_263 hk (by decide) ?_
  refine G_arg (pc := 264) B 2 dL_law_264 dL_law_265 dL_law_266 (by decide +kernel) dL_law_267 dL_law_268 hk (by decide) ?_
  refine G_arg (pc := 269) B 3 dL_law_269 dL_law_270 dL_law_271 (by decide +kernel) dL_law_272 dL_law_273 hk (by decide) ?_
  refine G_callw (pc := 274) (a := 0) (st := []) M dL_law_274 mv_L_25 C1 h0 rfl rfl rfl (Nat.le_of_ble_eq_true rfl) (Nat.le_of_ble_eq_true rfl) (Nat.le_of_ble_eq_true rfl) hc (fun v c1 hq => ?_)
  obtain ⟨hT, ⟨fs1, h1⟩, C⟩ := C2 v c1 hq
  obtain ⟨r, hr⟩ := hT
  subst hr
  refine G_aload_n (pc := 277) M dL_law_277 rfl ?_
  refine G_arg (pc := 278) B 1 dL_law_278 dL_law_279 dL_law_280 (by decide +kernel) dL_law_281 dL_law_282 hk (by decide) ?_
  refine G_arg (pc := 283) B 2 dL_law_283 dL_law_284 dL_law_285 (by decide +kernel) dL_law_286 dL_law_287 hk (by decide) ?_
  refine G_arg (pc := 288) B 3 dL_law_288 dL_law_289 dL_law_290 (by decide +kernel) dL_law_291 dL_law_292 hk (by decide) ?_
  refine G_callw (pc := 293) (a := 50) (st := [.int r]) M dL_law_293 mv_L_28 C h1 rfl rfl rfl (Nat.le_of_ble_eq_true rfl) (Nat.le_of_ble_eq_true rfl) (Nat.le_of_ble_eq_true rfl) hc (fun v2 c2 hq2 => ?_)
  obtain ⟨hv2, hI2⟩ := hq2
  subst hv2
  exact G_icmp_eq (pc := 296) M 897 dL_law_296 (by decide) (fun _ => K c2 hI2) (fun h => absurd rfl h)
theorem law_merge (B : LX D X A b L xs) (hN : N ≤ 511) (hI : INV D ad N cs) (hk : k + 7 ≤ L) (hc : kc ≤ 600000 ∧ ks ≤ 7302250) (K : ∀ c2, INV D ad (N + 1) c2 → G D X A kc ks Q ad 897 (LV b ad k) [] c2) : G D X A kc ks Q ad 301 (LV b ad k) [] cs := by
  have M := B.1
  obtain ⟨fs0, h0⟩ := INV.at0 hI
  obtain ⟨Q1, C1, C2⟩ := p_merge (l := X.2.1) hN hI (xs (k + 1)) (xs (k + 2))
  refine G_aload_n (pc := 301) M dL_law_301 rfl ?_
  refine G_arg (pc := 302) B 1 dL_law_302 dL_law_303 dL_law_304 (by decide +kernel) dL_law_305 dL_law_306 hk (by decide) ?_
  refine G_arg (pc := 307) B 2 dL_law_307 dL_law_308 dL_law_309 (by decide +kernel) dL_law_310 dL_law_311 hk (by decide) ?_
  refine G_callw (pc := 312) (a := 0) (st := []) M dL_law_312 mv_L_29 C1 h0 rfl rfl rfl (Nat.le_of_ble_eq_true rfl) (Nat.le_of_ble_eq_true rfl) (Nat.le_of_ble_eq_true rfl) hc (fun v c1 hq => ?_)
  obtain ⟨hT, ⟨fs1, h1⟩, C⟩ := C2 v c1 hq
  obtain ⟨r, hr⟩ := hT
  subst hr
  refine G_aload_n (pc := 315) M dL_law_315 rfl ?_
  refine G_arg (pc := 316) B 1 dL_law_316 dL_law_317 dL_law_318 (by decide +kernel) dL_law_319 dL_law_320 hk (by decide) ?_
  refine G_arg (pc := 321) B 2 dL_law_321 dL_law_322 dL_law_323 (by decide +kernel) dL_law_324 dL_law_325 hk (by decide) ?_
  refine G_callw (pc := 326) (a := 50) (st := [.int r]) M dL_law_326 mv_L_33 C h1 rfl rfl rfl (Nat.le_of_ble_eq_true rfl) (Nat.le_of_ble_eq_true rfl) (Nat.le_of_ble_eq_true rfl) hc (fun v2 c2 hq2 => ?_)
  obtain ⟨hv2, hI2⟩ := hq2
  subst hv2
  exact G_icmp_eq (pc := 329) M 897 dL_law_329 (by decide) (fun _ => K c2 hI2) (fun h => absurd rfl h)
theorem law_told (B : LX D X A b L xs) (hN : N ≤ 511) (hI : INV D ad N cs) (hk : k + 7 ≤ L) (hc : kc ≤ 600000 ∧ ks ≤ 7302250) (K : ∀ c2, INV D ad (N + 1) c2 → G D X A kc ks Q ad 897 (LV b ad k) [] c2) : G D X A kc ks Q ad 334 (LV b ad k) [] cs := by
  have M := B.1
  obtain ⟨fs0, h0⟩ := INV.at0 hI
  obtain ⟨Q1, C1, C2⟩ := p_told (l := X.2.1) hN hI (xs (k + 1)) (xs (k + 2))
  refine G_aload_n (pc := 334) M dL_law_334 rfl ?_
  refine G_arg (pc := 335) B 1 dL_law_335 dL_law_336 dL_law_337 (by decide +kernel) dL_law_338 dL_law_339 hk (by decide) ?_
  refine G_arg (pc := 340) B 2 dL_law_340 dL_law_341 dL_law_342 (by decide +kernel) dL_law_343 dL_law_344 hk (by decide) ?_
  refine G_callw (pc := 345) (a := 0) (st := []) M dL_law_345 mv_L_34 C1 h0 rfl rfl rfl (Nat.le_of_ble_eq_true rfl) (Nat.le_of_ble_eq_true rfl) (Nat.le_of_ble_eq_true rfl) hc (fun v c1 hq => ?_)
  obtain ⟨hT, ⟨fs1, h1⟩, C⟩ := C2 v c1 hq
  obtain ⟨r, hr⟩ := hT
  subst hr
  refine G_aload_n (pc := 348) M dL_law_348 rfl ?_
  refine G_arg (pc := 349) B 1 dL_law_349 dL_law_350 dL_law_351 (by decide +kernel) dL_law_352 dL_law_353 hk (by decide) ?_
  refine G_arg (pc := 354) B 2 dL_law_354 dL_law_355 dL_law_356 (by decide +kernel) dL_law_357 dL_law_358 hk (by decide) ?_
  refine G_callw (pc := 359) (a := 50) (st := [.int r]) M dL_law_359 mv_L_37 C h1 rfl rfl rfl (Nat.le_of_ble_eq_true rfl) (Nat.le_of_ble_eq_true rfl) (Nat.le_of_ble_eq_true rfl) hc (fun v2 c2 hq2 => ?_)
  obtain ⟨hv2, hI2⟩ := hq2
  subst hv2
  exact G_icmp_eq (pc := 362) M 897 dL_law_362 (by decide) (fun _ => K c2 hI2) (fun h => absurd rfl h)
theorem law_span (B : LX D X A b L xs) (hN : N ≤ 511) (hI : INV D ad N cs) (hk : k + 7 ≤ L) (hc : kc ≤ 600000 ∧ ks ≤ 7302250) (K : ∀ c2, INV D ad (N + 1) c2 → G D X A kc ks Q ad 897 (LV b ad k) [] c2) : G D X A kc ks Q ad 367 (LV b ad k) [] cs := by
  have M := B.1
  obtain ⟨fs0, h0⟩ := INV.at0 hI
  obtain ⟨Q1, C1, C2⟩ := p_span (l := X.2.1) hN hI (xs (k + 1)) (xs (k + 2)) (xs (k + 3))
  refine G_aload_n (pc := 367) M dL_law_367 rfl ?_
  refine G_arg (pc := 368) B 1 dL_law_368 dL_law_369 dL_law_370 (by decide +kernel) dL_law_371 dL_law_372 hk (by decide) ?_
  refine G_arg (pc := 373) B 2 dL_law_373 dL_law_374 dL_law_375 (by decide +kernel) dL_law_376 dL_law_377 hk (by decide) ?_
  refine G_arg (pc := 378) B 3 dL_law_378 dL_law_379 dL_law_380 (by decide +kernel) dL_law_381 dL_law_382 hk (by decide) ?_
  refine G_callw (pc := 383) (a := 0) (st := []) M dL_law_383 mv_L_38 C1 h0 rfl rfl rfl (Nat.le_of_ble_eq_true rfl) (Nat.le_of_ble_eq_true rfl) (Nat.le_of_ble_eq_true rfl) hc (fun v c1 hq => ?_)
  obtain ⟨hT, ⟨fs1, h1⟩, C⟩ := C2 v c1 hq
  obtain ⟨r, hr⟩ := hT
  subst hr
  refine G_aload_n (pc := 386) M dL_law_386 rfl ?_
  refine G_arg (pc := 387) B 1 dL_law_387 dL_law_388 dL_law_389 (by decide +kernel) dL_law_390 dL_law_391 hk (by decide) ?_
  refine G_arg (pc := 392) B 2 dL_law_392 dL_law_393 dL_law_394 (by decide +kernel) dL_law_395 dL_law_396 hk (by decide) ?_
  refine G_arg (pc := 397) B 3 dL_law_397 dL_law_398 dL_law_399 (by decide +kernel) dL_law_400 dL_law_401 hk (by decide) ?_
  refine G_callw (pc := 402) (a := 50) (st := [.int r]) M dL_law_402 mv_L_41 C h1 rfl rfl rfl (Nat.le_of_ble_eq_true rfl) (Nat.le_of_ble_eq_true rfl) (Nat.le_of_ble_eq_true rfl) hc (fun v2 c2 hq2 => ?_)
  obtain ⟨hv2, hI2⟩ := hq2
  subst hv2
  exact G_icmp_eq (pc := 405) M 897 dL_law_405 (by decide) (fun _ => K c2 hI2) (fun h => absurd rfl h)
theorem law_slot (B : LX D X A b L xs) (hN : N ≤ 511) (hI : INV D ad N cs) (hk : k + 7 ≤ L) (hc : kc ≤ 600000 ∧ ks ≤ 7302250) (K : ∀ c2, INV D ad (N + 1) c2 → G D X A kc ks Q ad 897 (LV b ad k) [] c2) : G D X A kc ks Q ad 410 (LV b ad k) [] cs := by
  have M := B.1
  obtain ⟨fs0, h0⟩ := INV.at0 hI
  obtain ⟨Q1, C1, C2⟩ := p_slot (l := X.2.1) hN hI (xs (k + 1)) (xs (k + 2)) (xs (k + 3))
  refine G_aload_n (pc := 410) M dL_law_410 rfl ?_
  refine G_arg (pc := 411) B 1 dL_law_411 dL_law_412 dL_law_413 (by decide +kernel) dL_law_414 dL_law_415 hk (by decide) ?_
  refine G_arg (pc := 416) B 2 dL_law_416 dL_law_417 dL_law_418 (by decide +kernel) dL_law_419 dL_law_420 hk (by decide) ?_
  refine G_arg (pc := 421) B 3 dL_law_421 dL_law_422 dL_law_423 (by decide +kernel) dL_law_424 dL_law_425 hk (by decide) ?_
  refine G_callw (pc := 426) (a := 0) (st := []) M dL_law_426 mv_L_42 C1 h0 rfl rfl rfl (Nat.le_of_ble_eq_true rfl) (Nat.le_of_ble_eq_true rfl) (Nat.le_of_ble_eq_true rfl) hc (fun v c1 hq => ?_)
  obtain ⟨hT, ⟨fs1, h1⟩, C⟩ := C2 v c1 hq
  obtain ⟨r, hr⟩ := hT
  subst hr
  refine G_aload_n (pc := 429) M dL_law_429 rfl ?_
  refine G_arg (pc := 430) B 1 dL_law_430 dL_law_431 dL_law_432 (by decide +kernel) dL_law_433 dL_law_434 hk (by decide) ?_
  refine G_arg (pc := 435) B 2 dL_law_435 dL_law_436 dL_law_437 (by decide +kernel) dL_law_438 dL_law_439 hk (by decide) ?_
  refine G_arg (pc := 440) B 3 dL_law_440 dL_law_441 dL_law_442 (by decide +kernel) dL_law_443 dL_law_444 hk (by decide) ?_
  refine G_callw (pc := 445) (a := 50) (st := [.int r]) M dL_law_445 mv_L_45 C h1 rfl rfl rfl (Nat.le_of_ble_eq_true rfl) (Nat.le_of_ble_eq_true rfl) (Nat.le_of_ble_eq_true rfl) hc (fun v2 c2 hq2 => ?_)
  obtain ⟨hv2, hI2⟩ := hq2
  subst hv2
  exact G_icmp_eq (pc := 448) M 897 dL_law_448 (by decide) (fun _ => K c2 hI2) (fun h => absurd rfl h)
theorem law_parts (B : LX D X A b L xs) (hN : N ≤ 511) (hI : INV D ad N cs) (hk : k + 7 ≤ L) (hc : kc ≤ 600000 ∧ ks ≤ 7302250) (K : ∀ c2, INV D ad (N + 1) c2 → G D X A kc ks Q ad 897 (LV b ad k) [] c2) : G D X A kc ks Q ad 453 (LV b ad k) [] cs := by
  have M := B.1
  obtain ⟨fs0, h0⟩ := INV.at0 hI
  obtain ⟨Q1, C1, C2⟩ := p_parts (l := X.2.1) hN hI (xs (k + 1)) (xs (k + 2))
  refine G_aload_n (pc := 453) M dL_law_453 rfl ?_
  refine G_arg (pc := 454) B 1 dL_law_454 dL_law_455 dL_law_456 (by decide +kernel) dL_law_457 dL_law_458 hk (by decide) ?_
  refine G_arg (pc := 459) B 2 dL_law_459 dL_law_460 dL_law_461 (by decide +kernel) dL_law_462 dL_law_463 hk (by decide) ?_
  refine G_callw (pc := 464) (a := 0) (st := []) M dL_law_464 mv_L_46 C1 h0 rfl rfl rfl (Nat.le_of_ble_eq_true rfl) (Nat.le_of_ble_eq_true rfl) (Nat.le_of_ble_eq_true rfl) hc (fun v c1 hq => ?_)
  obtain ⟨hT, ⟨fs1, h1⟩, C⟩ := C2 v c1 hq
  obtain ⟨r, hr⟩ := hT
  subst hr
  refine G_aload_n (pc := 467) M dL_law_467 rfl ?_
  refine G_arg (pc := 468) B 1 dL_law_468 dL_law_469 dL_law_470 (by decide +kernel) dL_law_471 dL_law_472 hk (by decide) ?_
  refine G_arg (pc := 473) B 2 dL_law_473 dL_law_474 dL_law_475 (by decide +kernel) dL_law_476 dL_law_477 hk (by decide) ?_
  refine G_callw (pc := 478) (a := 50) (st := [.int r]) M dL_law_478 mv_L_49 C h1 rfl rfl rfl (Nat.le_of_ble_eq_true rfl) (Nat.le_of_ble_eq_true rfl) (Nat.le_of_ble_eq_true rfl) hc (fun v2 c2 hq2 => ?_)
  obtain ⟨hv2, hI2⟩ := hq2
  subst hv2
  exact G_icmp_eq (pc := 481) M 897 dL_law_481 (by decide) (fun _ => K c2 hI2) (fun h => absurd rfl h)
theorem law_part (B : LX D X A b L xs) (hN : N ≤ 511) (hI : INV D ad N cs) (hk : k + 7 ≤ L) (hc : kc ≤ 600000 ∧ ks ≤ 7302250) (K : ∀ c2, INV D ad (N + 1) c2 → G D X A kc ks Q ad 897 (LV b ad k) [] c2) : G D X A kc ks Q ad 486 (LV b ad k) [] cs := by
  have M := B.1
  obtain ⟨fs0, h0⟩ := INV.at0 hI
  obtain ⟨Q1, C1, C2⟩ := p_part (l := X.2.1) hN hI (xs (k + 1)) (xs (k + 2)) (xs (k + 3))
  refine G_aload_n (pc := 486) M dL_law_486 rfl ?_
  refine G_arg (pc := 487) B 1 dL_law_487 dL_law_488 dL_law_489 (by decide +kernel) dL_law_490 dL_law_491 hk (by decide) ?_
  refine G_arg (pc := 492) B 2 dL_law_492 dL_law_493 dL_law_494 (by decide +kernel) dL_law_495 dL_law_496 hk (by decide) ?_
  refine G_arg (pc := 497) B 3 dL_law_497 dL_law_498 dL_law_499 (by decide +kernel) dL_law_500 dL_law_501 hk (by decide) ?_
  refine G_callw (pc := 502) (a := 0) (st := []) M dL_law_502 mv_L_50 C1 h0 rfl rfl rfl (Nat.le_of_ble_eq_true rfl) (Nat.le_of_ble_eq_true rfl) (Nat.le_of_ble_eq_true rfl) hc (fun v c1 hq => ?_)
  obtain ⟨hT, ⟨fs1, h1⟩, C⟩ := C2 v c1 hq
  obtain ⟨r, hr⟩ := hT
  subst hr
  refine G_aload_n (pc := 505) M dL_law_505 rfl ?_
  refine G_arg (pc := 506) B 1 dL_law_506 dL_law_507 dL_law_508 (by decide +kernel) dL_law_509 dL_law_510 hk (by decide) ?_
  refine G_arg (pc := 511) B 2 dL_law_511 dL_law_512 dL_law_513 (by decide +kernel) dL_law_514 dL_law_515 hk (by decide) ?_
  refine G_arg (pc := 516) B 3 dL_law_516 dL_law_517 dL_law_518 (by decide +kernel) dL_law_519 dL_law_520 hk (by decide) ?_
  refine G_callw (pc := 521) (a := 50) (st := [.int r]) M dL_law_521 mv_L_53 C h1 rfl rfl rfl (Nat.le_of_ble_eq_true rfl) (Nat.le_of_ble_eq_true rfl) (Nat.le_of_ble_eq_true rfl) hc (fun v2 c2 hq2 => ?_)
  obtain ⟨hv2, hI2⟩ := hq2
  subst hv2
  exact G_icmp_eq (pc := 524) M 897 dL_law_524 (by decide) (fun _ => K c2 hI2) (fun h => absurd rfl h)
theorem law_tree (B : LX D X A b L xs) (hN : N ≤ 511) (hI : INV D ad N cs) (hk : k + 7 ≤ L) (hc : kc ≤ 600000 ∧ ks ≤ 7302250) (K : ∀ c2, INV D ad (N + 1) c2 → G D X A kc ks Q ad 897 (LV b ad k) [] c2) : G D X A kc ks Q ad 529 (LV b ad k) [] cs := by
  have M := B.1
  obtain ⟨fs0, h0⟩ := INV.at0 hI
  obtain ⟨Q1, C1, C2⟩ := p_tree (l := X.2.1) hN hI (xs (k + 1)) (xs (k + 2)) (xs (k + 3))
  refine G_aload_n (pc := 529) M dL_law_529 rfl ?_
  refine G_arg (pc := 530) B 1 dL_law_530 dL_law_531 dL_law_532 (by decide +kernel) dL_law_533 dL_law_534 hk (by decide) ?_
  refine G_arg (pc := 535) B 2 dL_law_535 dL_law_536 dL_law_537 (by decide +kernel) dL_law_538 dL_law_539 hk (by decide) ?_
  refine G_arg (pc := 540) B 3 dL_law_540 dL_law_541 dL_law_542 (by decide +kernel) dL_law_543 dL_law_544 hk (by decide) ?_
  refine G_callw (pc := 545) (a := 0) (st := []) M dL_law_545 mv_L_54 C1 h0 rfl rfl rfl (Nat.le_of_ble_eq_true rfl) (Nat.le_of_ble_eq_true rfl) (Nat.le_of_ble_eq_true rfl) hc (fun v c1 hq => ?_)
  obtain ⟨hT, ⟨fs1, h1⟩, C⟩ := C2 v c1 hq
  obtain ⟨r, hr⟩ := hT
  subst hr
  refine G_aload_n (pc := 548) M dL_law_548 rfl ?_
  refine G_arg (pc := 549) B 1 dL_law_549 dL_law_550 dL_law_551 (by decide +kernel) dL_law_552 dL_law_553 hk (by decide) ?_
  refine G_arg (pc := 554) B 2 dL_law_554 dL_law_555 dL_law_556 (by decide +kernel) dL_law_557 dL_law_558 hk (by decide) ?_
  refine G_arg (pc := 559) B 3 dL_law_559 dL_law_560 dL_law_561 (by decide +kernel) dL_law_562 dL_law_563 hk (by decide) ?_
  refine G_callw (pc := 564) (a := 50) (st := [.int r]) M dL_law_564 mv_L_57 C h1 rfl rfl rfl (Nat.le_of_ble_eq_true rfl) (Nat.le_of_ble_eq_true rfl) (Nat.le_of_ble_eq_true rfl) hc (fun v2 c2 hq2 => ?_)
  obtain ⟨hv2, hI2⟩ := hq2
  subst hv2
  exact G_icmp_eq (pc := 567) M 897 dL_law_567 (by decide) (fun _ => K c2 hI2) (fun h => absurd rfl h)
theorem law_since (B : LX D X A b L xs) (hN : N ≤ 511) (hI : INV D ad N cs) (hk : k + 7 ≤ L) (hc : kc ≤ 600000 ∧ ks ≤ 7302250) (K : ∀ c2, INV D ad (N + 1) c2 → G D X A kc ks Q ad 897 (LV b ad k) [] c2) : G D X A kc ks Q ad 572 (LV b ad k) [] cs := by
  have M := B.1
  obtain ⟨fs0, h0⟩ := INV.at0 hI
  obtain ⟨Q1, C1, C2⟩ := p_since (l := X.2.1) hN hI (xs (k + 1)) (xs (k + 2)) (xs (k + 3))
  refine G_aload_n (pc := 572) M dL_law_572 rfl ?_
  refine G_arg (pc := 573) B 1 dL_law_573 dL_law_574 dL_law_575 (by decide +kernel) dL_law_576 dL_law_577 hk (by decide) ?_
  refine G_arg (pc := 578) B 2 dL_law_578 dL_law_579 dL_law_580 (by decide +kernel) dL_law_581 dL_law_582 hk (by decide) ?_
  refine G_arg (pc := 583) B 3 dL_law_583 dL_law_584 dL_law_585 (by decide +kernel) dL_law_586 dL_law_587 hk (by decide) ?_
  refine G_callw (pc := 588) (a := 0) (st := []) M dL_law_588 mv_L_58 C1 h0 rfl rfl rfl (Nat.le_of_ble_eq_true rfl) (Nat.le_of_ble_eq_true rfl) (Nat.le_of_ble_eq_true rfl) hc (fun v c1 hq => ?_)
  obtain ⟨hT, ⟨fs1, h1⟩, C⟩ := C2 v c1 hq
  obtain ⟨r, hr⟩ := hT
  subst hr
  refine G_aload_n (pc := 591) M dL_law_591 rfl ?_
  refine G_arg (pc := 592) B 1 dL_law_592 dL_law_593 dL_law_594 (by decide +kernel) dL_law_595 dL_law_596 hk (by decide) ?_
  refine G_arg (pc := 597) B 2 dL_law_597 dL_law_598 dL_law_599 (by decide +kernel) dL_law_600 dL_law_601 hk (by decide) ?_
  refine G_arg (pc := 602) B 3 dL_law_602 dL_law_603 dL_law_604 (by decide +kernel) dL_law_605 dL_law_606 hk (by decide) ?_
  refine G_callw (pc := 607) (a := 50) (st := [.int r]) M dL_law_607 mv_L_61 C h1 rfl rfl rfl (Nat.le_of_ble_eq_true rfl) (Nat.le_of_ble_eq_true rfl) (Nat.le_of_ble_eq_true rfl) hc (fun v2 c2 hq2 => ?_)
  obtain ⟨hv2, hI2⟩ := hq2
  subst hv2
  exact G_icmp_eq (pc := 610) M 897 dL_law_610 (by decide) (fun _ => K c2 hI2) (fun h => absurd rfl h)
theorem law_far (B : LX D X A b L xs) (hN : N ≤ 511) (hI : INV D ad N cs) (hk : k + 7 ≤ L) (hc : kc ≤ 600000 ∧ ks ≤ 7302250) (K : ∀ c2, INV D ad (N + 1) c2 → G D X A kc ks Q ad 897 (LV b ad k) [] c2) : G D X A kc ks Q ad 615 (LV b ad k) [] cs := by
  have M := B.1
  obtain ⟨fs0, h0⟩ := INV.at0 hI
  obtain ⟨Q1, C1, C2⟩ := p_far (l := X.2.1) hN hI (xs (k + 1)) (xs (k + 2)) (xs (k + 3))
  refine G_aload_n (pc := 615) M dL_law_615 rfl ?_
  refine G_arg (pc := 616) B 1 dL_law_616 dL_law_617 dL_law_618 (by decide +kernel) dL_law_619 dL_law_620 hk (by decide) ?_
  refine G_arg (pc := 621) B 2 dL_law_621 dL_law_622 dL_law_623 (by decide +kernel) dL_law_624 dL_law_625 hk (by decide) ?_
  refine G_arg (pc := 626) B 3 dL_law_626 dL_law_627 dL_law_628 (by decide +kernel) dL_law_629 dL_law_630 hk (by decide) ?_
  refine G_callw (pc := 631) (a := 0) (st := []) M dL_law_631 mv_L_62 C1 h0 rfl rfl rfl (Nat.le_of_ble_eq_true rfl) (Nat.le_of_ble_eq_true rfl) (Nat.le_of_ble_eq_true rfl) hc (fun v c1 hq => ?_)
  obtain ⟨hT, ⟨fs1, h1⟩, C⟩ := C2 v c1 hq
  obtain ⟨r, hr⟩ := hT
  subst hr
  refine G_aload_n (pc := 634) M dL_law_634 rfl ?_
  refine G_arg (pc := 635) B 1 dL_law_635 dL_law_636 dL_law_637 (by decide +kernel) dL_law_638 dL_law_639 hk (by decide) ?_
  refine G_arg (pc := 640) B 2 dL_law_640 dL_law_641 dL_law_642 (by decide +kernel) dL_law_643 dL_law_644 hk (by decide) ?_
  refine G_arg (pc := 645) B 3 dL_law_645 dL_law_646 dL_law_647 (by decide +kernel) dL_law_648 dL_law_649 hk (by decide) ?_
  refine G_callw (pc := 650) (a := 50) (st := [.int r]) M dL_law_650 mv_L_65 C h1 rfl rfl rfl (Nat.le_of_ble_eq_true rfl) (Nat.le_of_ble_eq_true rfl) (Nat.le_of_ble_eq_true rfl) hc (fun v2 c2 hq2 => ?_)
  obtain ⟨hv2, hI2⟩ := hq2
  subst hv2
  exact G_icmp_eq (pc := 653) M 897 dL_law_653 (by decide) (fun _ => K c2 hI2) (fun h => absurd rfl h)
theorem law_kept (B : LX D X A b L xs) (hN : N ≤ 511) (hI : INV D ad N cs) (hk : k + 7 ≤ L) (hc : kc ≤ 600000 ∧ ks ≤ 7302250) (K : ∀ c2, INV D ad (N + 1) c2 → G D X A kc ks Q ad 897 (LV b ad k) [] c2) : G D X A kc ks Q ad 658 (LV b ad k) [] cs := by
  have M := B.1
  obtain ⟨fs0, h0⟩ := INV.at0 hI
  obtain ⟨Q1, C1, C2⟩ := p_kept (l := X.2.1) hN hI (xs (k + 1)) (xs (k + 2)) (xs (k + 3))
  refine G_aload_n (pc := 658) M dL_law_658 rfl ?_
  refine G_arg (pc := 659) B 1 dL_law_659 dL_law_660 dL_law_661 (by decide +kernel) dL_law_662 dL_law_663 hk (by decide) ?_
  refine G_arg (pc := 664) B 2 dL_law_664 dL_law_665 dL_law_666 (by decide +kernel) dL_law_667 dL_law_668 hk (by decide) ?_
  refine G_arg (pc := 669) B 3 dL_law_669 dL_law_670 dL_law_671 (by decide +kernel) dL_law_672 dL_law_673 hk (by decide) ?_
  refine G_callw (pc := 674) (a := 0) (st := []) M dL_law_674 mv_L_66 C1 h0 rfl rfl rfl (Nat.le_of_ble_eq_true rfl) (Nat.le_of_ble_eq_true rfl) (Nat.le_of_ble_eq_true rfl) hc (fun v c1 hq => ?_)
  obtain ⟨hT, ⟨fs1, h1⟩, C⟩ := C2 v c1 hq
  obtain ⟨r, hr⟩ := hT
  subst hr
  refine G_aload_n (pc := 677) M dL_law_677 rfl ?_
  refine G_arg (pc := 678) B 1 dL_law_678 dL_law_679 dL_law_680 (by decide +kernel) dL_law_681 dL_law_682 hk (by decide) ?_
  refine G_arg (pc := 683) B 2 dL_law_683 dL_law_684 dL_law_685 (by decide +kernel) dL_law_686 dL_law_687 hk (by decide) ?_
  refine G_arg (pc := 688) B 3 dL_law_688 dL_law_689 dL_law_690 (by decide +kernel) dL_law_691 dL_law_692 hk (by decide) ?_
  refine G_callw (pc := 693) (a := 50) (st := [.int r]) M dL_law_693 mv_L_69 C h1 rfl rfl rfl (Nat.le_of_ble_eq_true rfl) (Nat.le_of_ble_eq_true rfl) (Nat.le_of_ble_eq_true rfl) hc (fun v2 c2 hq2 => ?_)
  obtain ⟨hv2, hI2⟩ := hq2
  subst hv2
  exact G_icmp_eq (pc := 696) M 897 dL_law_696 (by decide) (fun _ => K c2 hI2) (fun h => absurd rfl h)
theorem law_mate (B : LX D X A b L xs) (hN : N ≤ 511) (hI : INV D ad N cs) (hk : k + 7 ≤ L) (hc : kc ≤ 600000 ∧ ks ≤ 7302250) (K : ∀ c2, INV D ad (N + 1) c2 → G D X A kc ks Q ad 897 (LV b ad k) [] c2) : G D X A kc ks Q ad 701 (LV b ad k) [] cs := by
  have M := B.1
  obtain ⟨fs0, h0⟩ := INV.at0 hI
  obtain ⟨Q1, C1, C2⟩ := p_mate (l := X.2.1) hN hI (xs (k + 1)) (xs (k + 2))
  refine G_aload_n (pc := 701) M dL_law_701 rfl ?_
  refine G_arg (pc := 702) B 1 dL_law_702 dL_law_703 dL_law_704 (by decide +kernel) dL_law_705 dL_law_706 hk (by decide) ?_
  refine G_arg (pc := 707) B 2 dL_law_707 dL_law_708 dL_law_709 (by decide +kernel) dL_law_710 dL_law_711 hk (by decide) ?_
  refine G_callw (pc := 712) (a := 0) (st := []) M dL_law_712 mv_L_70 C1 h0 rfl rfl rfl (Nat.le_of_ble_eq_true rfl) (Nat.le_of_ble_eq_true rfl) (Nat.le_of_ble_eq_true rfl) hc (fun v c1 hq => ?_)
  obtain ⟨hT, ⟨fs1, h1⟩, C⟩ := C2 v c1 hq
  obtain ⟨r, hr⟩ := hT
  subst hr
  refine G_aload_n (pc := 715) M dL_law_715 rfl ?_
  refine G_arg (pc := 716) B 1 dL_law_716 dL_law_717 dL_law_718 (by decide +kernel) dL_law_719 dL_law_720 hk (by decide) ?_
  refine G_arg (pc := 721) B 2 dL_law_721 dL_law_722 dL_law_723 (by decide +kernel) dL_law_724 dL_law_725 hk (by decide) ?_
  refine G_callw (pc := 726) (a := 50) (st := [.int r]) M dL_law_726 mv_L_73 C h1 rfl rfl rfl (Nat.le_of_ble_eq_true rfl) (Nat.le_of_ble_eq_true rfl) (Nat.le_of_ble_eq_true rfl) hc (fun v2 c2 hq2 => ?_)
  obtain ⟨hv2, hI2⟩ := hq2
  subst hv2
  exact G_icmp_eq (pc := 729) M 897 dL_law_729 (by decide) (fun _ => K c2 hI2) (fun h => absurd rfl h)
theorem law_sum (B : LX D X A b L xs) (hN : N ≤ 511) (hI : INV D ad N cs) (hk : k + 7 ≤ L) (hc : kc ≤ 600000 ∧ ks ≤ 7302250) (K : ∀ c2, INV D ad (N + 1) c2 → G D X A kc ks Q ad 897 (LV b ad k) [] c2) : G D X A kc ks Q ad 734 (LV b ad k) [] cs := by
  have M := B.1
  obtain ⟨fs0, h0⟩ := INV.at0 hI
  obtain ⟨Q1, C1, C2⟩ := p_sum (l := X.2.1) hN hI (xs (k + 1)) (xs (k + 2)) (xs (k + 3)) (xs (k + 4))
  refine G_aload_n (pc := 734) M dL_law_734 rfl ?_
  refine G_arg (pc := 735) B 1 dL_law_735 dL_law_736 dL_law_737 (by decide +kernel) dL_law_738 dL_law_739 hk (by decide) ?_
  refine G_arg (pc := 740) B 2 dL_law_740 dL_law_741 dL_law_742 (by decide +kernel) dL_law_743 dL_law_744 hk (by decide) ?_
  refine G_arg (pc := 745) B 3 dL_law_745 dL_law_746 dL_law_747 (by decide +kernel) dL_law_748 dL_law_749 hk (by decide) ?_
  refine G_arg (pc := 750) B 4 dL_law_750 dL_law_751 dL_law_752 (by decide +kernel) dL_law_753 dL_law_754 hk (by decide) ?_
  refine G_callw (pc := 755) (a := 0) (st := []) M dL_law_755 mv_L_74 C1 h0 rfl rfl rfl (Nat.le_of_ble_eq_true rfl) (Nat.le_of_ble_eq_true rfl) (Nat.le_of_ble_eq_true rfl) hc (fun v c1 hq => ?_)
  obtain ⟨hT, ⟨fs1, h1⟩, C⟩ := C2 v c1 hq
  obtain ⟨r, hr⟩ := hT
  subst hr
  refine G_aload_n (pc := 758) M dL_law_758 rfl ?_
  refine G_arg (pc := 759) B 1 dL_law_759 dL_law_760 dL_law_761 (by decide +kernel) dL_law_762 dL_law_763 hk (by decide) ?_
  refine G_arg (pc := 764) B 2 dL_law_764 dL_law_765 dL_law_766 (by decide +kernel) dL_law_767 dL_law_768 hk (by decide) ?_
  refine G_arg (pc := 769) B 3 dL_law_769 dL_law_770 dL_law_771 (by decide +kernel) dL_law_772 dL_law_773 hk (by decide) ?_
  refine G_arg (pc := 774) B 4 dL_law_774 dL_law_775 dL_law_776 (by decide +kernel) dL_law_777 dL_law_778 hk (by decide) ?_
  refine G_callw (pc := 779) (a := 50) (st := [.long r]) M dL_law_779 mv_L_78 C h1 rfl rfl rfl (Nat.le_of_ble_eq_true rfl) (Nat.le_of_ble_eq_true rfl) (Nat.le_of_ble_eq_true rfl) hc (fun v2 c2 hq2 => ?_)
  obtain ⟨hv2, hI2⟩ := hq2
  subst hv2
  refine G_lcmp (pc := 782) M dL_law_782 ?_
  exact G_if_eq (pc := 783) M 897 dL_law_783 (by decide) (fun _ => K c2 hI2) (fun h => absurd (cmp_same r) h)
theorem law_out (B : LX D X A b L xs) (hN : N ≤ 511) (hI : INV D ad N cs) (hk : k + 7 ≤ L) (hc : kc ≤ 600000 ∧ ks ≤ 7302250) (K : ∀ c2, INV D ad (N + 1) c2 → G D X A kc ks Q ad 897 (LV b ad k) [] c2) : G D X A kc ks Q ad 788 (LV b ad k) [] cs := by
  have M := B.1
  obtain ⟨fs0, h0⟩ := INV.at0 hI
  obtain ⟨Q1, C1, C2⟩ := p_out (l := X.2.1) hN hI (xs (k + 1)) (lng (xs (k + 2)) (xs (k + 3)))
  refine G_aload_n (pc := 788) M dL_law_788 rfl ?_
  refine G_arg (pc := 789) B 1 dL_law_789 dL_law_790 dL_law_791 (by decide +kernel) dL_law_792 dL_law_793 hk (by decide) ?_
  refine G_arg (pc := 794) B 2 dL_law_794 dL_law_795 dL_law_796 (by decide +kernel) dL_law_797 dL_law_798 hk (by decide) ?_
  refine G_i2l (pc := 799) M dL_law_799 ?_
  refine G_bipush (pc := 800) (v := 32) M dL_law_800 (by decide +kernel) ?_
  refine G_lshl (pc := 802) M dL_law_802 ?_
  refine G_arg (pc := 803) B 3 dL_law_803 dL_law_804 dL_law_805 (by decide +kernel) dL_law_806 dL_law_807 hk (by decide) ?_
  refine G_i2l (pc := 808) M dL_law_808 ?_
  refine G_ldc2 (pc := 809) M dL_law_809 cn_L_13 ?_
  refine G_land (pc := 812) M dL_law_812 ?_
  refine G_lor (pc := 813) M dL_law_813 ?_
  refine G_callw (pc := 814) (a := 0) (st := []) M dL_law_814 mv_L_79 C1 h0 rfl rfl rfl (Nat.le_of_ble_eq_true rfl) (Nat.le_of_ble_eq_true rfl) (Nat.le_of_ble_eq_true rfl) hc (fun v c1 hq => ?_)
  obtain ⟨hT, ⟨fs1, h1⟩, C⟩ := C2 v c1 hq
  obtain ⟨r, hr⟩ := hT
  subst hr
  refine G_aload_n (pc := 817) M dL_law_817 rfl ?_
  refine G_arg (pc := 818) B 1 dL_law_818 dL_law_819 dL_law_820 (by decide +kernel) dL_law_821 dL_law_822 hk (by decide) ?_
  refine G_arg (pc := 823) B 2 dL_law_823 dL_law_824 dL_law_825 (by decide +kernel) dL_law_826 dL_law_827 hk (by decide) ?_
  refine G_i2l (pc := 828) M dL_law_828 ?_
  refine G_bipush (pc := 829) (v := 32) M dL_law_829 (by decide +kernel) ?_
  refine G_lshl (pc := 831) M dL_law_831 ?_
  refine G_arg (pc := 832) B 3 dL_law_832 dL_law_833 dL_law_834 (by decide +kernel) dL_law_835 dL_law_836 hk (by decide) ?_
  refine G_i2l (pc := 837) M dL_law_837 ?_
  refine G_ldc2 (pc := 838) M dL_law_838 cn_L_13 ?_
  refine G_land (pc := 841) M dL_law_841 ?_
  refine G_lor (pc := 842) M dL_law_842 ?_
  refine G_callw (pc := 843) (a := 50) (st := [.int r]) M dL_law_843 mv_L_83 C h1 rfl rfl rfl (Nat.le_of_ble_eq_true rfl) (Nat.le_of_ble_eq_true rfl) (Nat.le_of_ble_eq_true rfl) hc (fun v2 c2 hq2 => ?_)
  obtain ⟨hv2, hI2⟩ := hq2
  subst hv2
  exact G_icmp_eq (pc := 846) M 897 dL_law_846 (by decide) (fun _ => K c2 hI2) (fun h => absurd rfl h)
theorem law_level (B : LX D X A b L xs) (hN : N ≤ 511) (hI : INV D ad N cs) (hk : k + 7 ≤ L) (hc : kc ≤ 600000 ∧ ks ≤ 7302250) (K : ∀ c2, INV D ad (N + 1) c2 → G D X A kc ks Q ad 897 (LV b ad k) [] c2) : G D X A kc ks Q ad 851 (LV b ad k) [] cs := by
  have M := B.1
  obtain ⟨fs0, h0⟩ := INV.at0 hI
  obtain ⟨Q1, C1, C2⟩ := p_level (l := X.2.1) hN hI 
  refine G_aload_n (pc := 851) M dL_law_851 rfl ?_
  refine G_callw (pc := 852) (a := 0) (st := []) M dL_law_852 mv_L_84 C1 h0 rfl rfl rfl (Nat.le_of_ble_eq_true rfl) (Nat.le_of_ble_eq_true rfl) (Nat.le_of_ble_eq_true rfl) hc (fun v c1 hq => ?_)
  obtain ⟨hT, ⟨fs1, h1⟩, C⟩ := C2 v c1 hq
  obtain ⟨r, hr⟩ := hT
  subst hr
  refine G_aload_n (pc := 855) M dL_law_855 rfl ?_
  refine G_callw (pc := 856) (a := 50) (st := [.int r]) M dL_law_856 mv_L_88 C h1 rfl rfl rfl (Nat.le_of_ble_eq_true rfl) (Nat.le_of_ble_eq_true rfl) (Nat.le_of_ble_eq_true rfl) hc (fun v2 c2 hq2 => ?_)
  obtain ⟨hv2, hI2⟩ := hq2
  subst hv2
  exact G_icmp_eq (pc := 859) M 897 dL_law_859 (by decide) (fun _ => K c2 hI2) (fun h => absurd rfl h)
theorem law_same (B : LX D X A b L xs) (hN : N ≤ 511) (hI : INV D ad N cs) (hk : k + 7 ≤ L) (hc : kc ≤ 600000 ∧ ks ≤ 7302250) (K : ∀ c2, INV D ad (N + 1) c2 → G D X A kc ks Q ad 897 (LV b ad k) [] c2) : G D X A kc ks Q ad 864 (LV b ad k) [] cs := by
  have M := B.1
  obtain ⟨fs0, h0⟩ := INV.at0 hI
  obtain ⟨Q1, C1, C2⟩ := p_same (l := X.2.1) hN hI (xs (k + 1)) (xs (k + 2))
  refine G_aload_n (pc := 864) M dL_law_864 rfl ?_
  refine G_arg (pc := 865) B 1 dL_law_865 dL_law_866 dL_law_867 (by decide +kernel) dL_law_868 dL_law_869 hk (by decide) ?_
  refine G_arg (pc := 870) B 2 dL_law_870 dL_law_871 dL_law_872 (by decide +kernel) dL_law_873 dL_law_874 hk (by decide) ?_
  refine G_callw (pc := 875) (a := 0) (st := []) M dL_law_875 mv_L_89 C1 h0 rfl rfl rfl (Nat.le_of_ble_eq_true rfl) (Nat.le_of_ble_eq_true rfl) (Nat.le_of_ble_eq_true rfl) hc (fun v c1 hq => ?_)
  obtain ⟨hT, ⟨fs1, h1⟩, C⟩ := C2 v c1 hq
  obtain ⟨r, hr⟩ := hT
  subst hr
  refine G_aload_n (pc := 878) M dL_law_878 rfl ?_
  refine G_arg (pc := 879) B 1 dL_law_879 dL_law_880 dL_law_881 (by decide +kernel) dL_law_882 dL_law_883 hk (by decide) ?_
  refine G_arg (pc := 884) B 2 dL_law_884 dL_law_885 dL_law_886 (by decide +kernel) dL_law_887 dL_law_888 hk (by decide) ?_
  refine G_callw (pc := 889) (a := 50) (st := [.int r]) M dL_law_889 mv_L_92 C h1 rfl rfl rfl (Nat.le_of_ble_eq_true rfl) (Nat.le_of_ble_eq_true rfl) (Nat.le_of_ble_eq_true rfl) hc (fun v2 c2 hq2 => ?_)
  obtain ⟨hv2, hI2⟩ := hq2
  subst hv2
  exact G_icmp_eq (pc := 892) M 897 dL_law_892 (by decide) (fun _ => K c2 hI2) (fun h => absurd rfl h)
end
