/-- a final field of another class of the nest, read -/
def FLr (own : String) (i ci k : Nat) (ty : FieldType) : Prop := ∃ (C : String) (T : u_T) (N : Nat) (tf : Nat → FieldType), vcl[ci]? = some (C, T, N) ∧ k < N ∧ (∀ w ∈ u_ws C T N, w ∈ TB) ∧ Cond.fieldLink own i (T k).1 (T k).2.1 (T k).2.2.1 ∈ TB
theorem G_getr {D : DD} {X : MX} {A : Nat → Prop} {own : String} {cc : ByteArray} {nL kc ks : Nat} {R : Room} {Q : State → Prop} {ad : Nat → Nat} {pc : Nat} {lv : List (Option Value)} {st : List Value} {cs : List va_E} (M : CX D X A own cc nL R) {i ci f a : Nat} {ty : FieldType} {fs : List Value} {v : Value} (d : decode cc pc = .ok (.getfield i, 3)) (F : FLr own i ci f ty) (hc : gt cs a = some (ob ci fs)) (hv : gt fs f = some v) (k : G D X A kc ks Q ad (pc + 3) lv (v :: st) cs) : G D X A kc ks Q ad pc lv (.ref (ad a) :: st) cs := fun ls H locs hL hP hD hS => by
  obtain ⟨C, T, N, tf, h1, h2, h3, h6⟩ := F
  exact va_get M.1 M.2.1 M.2.2.2.2.1 h3 M.2.2.2.1 M.2.2.2.2.2.1 hP a (wsO_at hc) h1 f h2 (M.2.2.2.2.1 _ h6) (fun _ h9 => h9) (by rw [← gt_eq]; exact hv) d (k ls H locs hL hP hD hS)
theorem inT0 : ∀ w ∈ u_ws RX0 TX0 6, w ∈ TB := by decide +kernel
theorem inT1 : ∀ w ∈ u_ws RX1 TX1 4, w ∈ TB := by decide +kernel
theorem inT2 : ∀ w ∈ u_ws RX2 TX2 2, w ∈ TB := by decide +kernel
theorem inT3 : ∀ w ∈ u_ws RX3 TX3 3, w ∈ TB := by decide +kernel
theorem inT4 : ∀ w ∈ u_ws RX4 TX4 10, w ∈ TB := by decide +kernel
theorem inT5 : ∀ w ∈ u_ws RX5 TX5 6, w ∈ TB := by decide +kernel
theorem inT6 : ∀ w ∈ u_ws RX6 TX6 2, w ∈ TB := by decide +kernel
theorem inT7 : ∀ w ∈ u_ws RX7 TX7 17, w ∈ TB := by decide +kernel
def mi_X0_init : MI := (yX0_init, cX0_init, 1, none, 1, 20)
theorem mc_X0_init : MC mi_X0_init 0 := ⟨TB_at 57 (by decide +kernel) rfl, TB_at 29 (by decide +kernel) rfl, ⟨by decide +kernel, by decide +kernel⟩, by decide +kernel⟩
def mi_X0_restart : MI := (yX0_restart, cX0_restart, 3, none, 1, 23)
theorem mc_X0_restart : MC mi_X0_restart 2 := ⟨TB_at 172 (by decide +kernel) rfl, TB_at 29 (by decide +kernel) rfl, ⟨by decide +kernel, by decide +kernel⟩, by decide +kernel⟩
def mi_X0_count : MI := (yX0_count, cX0_count, 2, none, 2, 43)
theorem mc_X0_count : MC mi_X0_count 1 := ⟨TB_at 280 (by decide +kernel) rfl, TB_at 29 (by decide +kernel) rfl, ⟨by decide +kernel, by decide +kernel⟩, by decide +kernel⟩
def mi_X0_putTogether : MI := (yX0_putTogether, cX0_putTogether, 6, (some .boolean), 3, 74)
theorem mc_X0_putTogether : MC mi_X0_putTogether 1 := ⟨TB_at 380 (by decide +kernel) rfl, TB_at 29 (by decide +kernel) rfl, ⟨by decide +kernel, by decide +kernel⟩, by decide +kernel⟩
def mi_X0_nodeAtPlace : MI := (yX0_nodeAtPlace, cX0_nodeAtPlace, 7, (some .int), 2, 48)
theorem mc_X0_nodeAtPlace : MC mi_X0_nodeAtPlace 2 := ⟨TB_at 385 (by decide +kernel) rfl, TB_at 29 (by decide +kernel) rfl, ⟨by decide +kernel, by decide +kernel⟩, by decide +kernel⟩
def mi_X0_greatest : MI := (yX0_greatest, cX0_greatest, 7, (some .int), 1, 22)
theorem mc_X0_greatest : MC mi_X0_greatest 2 := ⟨TB_at 389 (by decide +kernel) rfl, TB_at 29 (by decide +kernel) rfl, ⟨by decide +kernel, by decide +kernel⟩, by decide +kernel⟩
def mi_X0_lessen : MI := (yX0_lessen, cX0_lessen, 3, none, 1, 21)
theorem mc_X0_lessen : MC mi_X0_lessen 1 := ⟨TB_at 284 (by decide +kernel) rfl, TB_at 29 (by decide +kernel) rfl, ⟨by decide +kernel, by decide +kernel⟩, by decide +kernel⟩
def mi_X1_init : MI := (yX1_init, cX1_init, 1, none, 1, 20)
theorem mc_X1_init : MC mi_X1_init 0 := ⟨TB_at 86 (by decide +kernel) rfl, TB_at 30 (by decide +kernel) rfl, ⟨by decide +kernel, by decide +kernel⟩, by decide +kernel⟩
def mi_X1_restart : MI := (yX1_restart, cX1_restart, 1, none, 0, 0)
theorem mc_X1_restart : MC mi_X1_restart 0 := ⟨TB_at 179 (by decide +kernel) rfl, TB_at 30 (by decide +kernel) rfl, ⟨by decide +kernel, by decide +kernel⟩, by decide +kernel⟩
def mi_X1_accept : MI := (yX1_accept, cX1_accept, 5, none, 3, 69)
theorem mc_X1_accept : MC mi_X1_accept 3 := ⟨TB_at 289 (by decide +kernel) rfl, TB_at 30 (by decide +kernel) rfl, ⟨by decide +kernel, by decide +kernel⟩, by decide +kernel⟩
def mi_X1_arcsAfter : MI := (yX1_arcsAfter, cX1_arcsAfter, 4, (some .int), 0, 0)
theorem mc_X1_arcsAfter : MC mi_X1_arcsAfter 1 := ⟨TB_at 418 (by decide +kernel) rfl, TB_at 30 (by decide +kernel) rfl, ⟨by decide +kernel, by decide +kernel⟩, by decide +kernel⟩
def mi_X1_leastOfPart : MI := (yX1_leastOfPart, cX1_leastOfPart, 4, (some .int), 2, 46)
theorem mc_X1_leastOfPart : MC mi_X1_leastOfPart 2 := ⟨TB_at 426 (by decide +kernel) rfl, TB_at 30 (by decide +kernel) rfl, ⟨by decide +kernel, by decide +kernel⟩, by decide +kernel⟩
def mi_X1_oldestBetween : MI := (yX1_oldestBetween, cX1_oldestBetween, 4, (some .int), 2, 46)
theorem mc_X1_oldestBetween : MC mi_X1_oldestBetween 2 := ⟨TB_at 293 (by decide +kernel) rfl, TB_at 30 (by decide +kernel) rfl, ⟨by decide +kernel, by decide +kernel⟩, by decide +kernel⟩
def mi_X1_drop : MI := (yX1_drop, cX1_drop, 3, none, 0, 0)
theorem mc_X1_drop : MC mi_X1_drop 1 := ⟨TB_at 317 (by decide +kernel) rfl, TB_at 30 (by decide +kernel) rfl, ⟨by decide +kernel, by decide +kernel⟩, by decide +kernel⟩
def mi_X1_partAll : MI := (yX1_partAll, cX1_partAll, 2, none, 0, 0)
theorem mc_X1_partAll : MC mi_X1_partAll 0 := ⟨TB_at 297 (by decide +kernel) rfl, TB_at 30 (by decide +kernel) rfl, ⟨by decide +kernel, by decide +kernel⟩, by decide +kernel⟩
def mi_X1_joinByArc : MI := (yX1_joinByArc, cX1_joinByArc, 4, none, 1, 23)
theorem mc_X1_joinByArc : MC mi_X1_joinByArc 1 := ⟨TB_at 301 (by decide +kernel) rfl, TB_at 30 (by decide +kernel) rfl, ⟨by decide +kernel, by decide +kernel⟩, by decide +kernel⟩
def mi_X1_leaderOf : MI := (yX1_leaderOf, cX1_leaderOf, 4, (some .int), 0, 0)
theorem mc_X1_leaderOf : MC mi_X1_leaderOf 1 := ⟨TB_at 308 (by decide +kernel) rfl, TB_at 30 (by decide +kernel) rfl, ⟨by decide +kernel, by decide +kernel⟩, by decide +kernel⟩
def mi_X2_init : MI := (yX2_init, cX2_init, 1, none, 1, 20)
theorem mc_X2_init : MC mi_X2_init 0 := ⟨TB_at 137 (by decide +kernel) rfl, TB_at 32 (by decide +kernel) rfl, ⟨by decide +kernel, by decide +kernel⟩, by decide +kernel⟩
def mi_X2_restart : MI := (yX2_restart, cX2_restart, 1, none, 1, 23)
theorem mc_X2_restart : MC mi_X2_restart 0 := ⟨TB_at 190 (by decide +kernel) rfl, TB_at 32 (by decide +kernel) rfl, ⟨by decide +kernel, by decide +kernel⟩, by decide +kernel⟩
def mi_X2_accept : MI := (yX2_accept, cX2_accept, 3, none, 0, 0)
theorem mc_X2_accept : MC mi_X2_accept 2 := ⟨TB_at 341 (by decide +kernel) rfl, TB_at 32 (by decide +kernel) rfl, ⟨by decide +kernel, by decide +kernel⟩, by decide +kernel⟩
def mi_X3_init : MI := (yX3_init, cX3_init, 1, none, 1, 20)
theorem mc_X3_init : MC mi_X3_init 0 := ⟨TB_at 152 (by decide +kernel) rfl, TB_at 33 (by decide +kernel) rfl, ⟨by decide +kernel, by decide +kernel⟩, by decide +kernel⟩
def mi_X3_restart : MI := (yX3_restart, cX3_restart, 4, none, 1, 24)
theorem mc_X3_restart : MC mi_X3_restart 2 := ⟨TB_at 195 (by decide +kernel) rfl, TB_at 33 (by decide +kernel) rfl, ⟨by decide +kernel, by decide +kernel⟩, by decide +kernel⟩
def mi_X3_placeOf : MI := (yX3_placeOf, cX3_placeOf, 2, (some .int), 0, 0)
theorem mc_X3_placeOf : MC mi_X3_placeOf 2 := ⟨TB_at 357 (by decide +kernel) rfl, TB_at 33 (by decide +kernel) rfl, ⟨by decide +kernel, by decide +kernel⟩, by decide +kernel⟩
def mi_X3_change : MI := (yX3_change, cX3_change, 8, (some .int), 2, 47)
theorem mc_X3_change : MC mi_X3_change 3 := ⟨TB_at 345 (by decide +kernel) rfl, TB_at 33 (by decide +kernel) rfl, ⟨by decide +kernel, by decide +kernel⟩, by decide +kernel⟩
def mi_X3_putTogether : MI := (yX3_putTogether, cX3_putTogether, 4, none, 1, 21)
theorem mc_X3_putTogether : MC mi_X3_putTogether 1 := ⟨TB_at 397 (by decide +kernel) rfl, TB_at 33 (by decide +kernel) rfl, ⟨by decide +kernel, by decide +kernel⟩, by decide +kernel⟩
def mi_X3_isAlike : MI := (yX3_isAlike, cX3_isAlike, 4, (some .boolean), 1, 21)
theorem mc_X3_isAlike : MC mi_X3_isAlike 1 := ⟨TB_at 486 (by decide +kernel) rfl, TB_at 33 (by decide +kernel) rfl, ⟨by decide +kernel, by decide +kernel⟩, by decide +kernel⟩
def mi_X3_keyOutOf : MI := (yX3_keyOutOf, cX3_keyOutOf, 11, (some .int), 2, 49)
theorem mc_X3_keyOutOf : MC mi_X3_keyOutOf 2 := ⟨TB_at 463 (by decide +kernel) rfl, TB_at 33 (by decide +kernel) rfl, ⟨by decide +kernel, by decide +kernel⟩, by decide +kernel⟩
def mi_X3_isNothing : MI := (yX3_isNothing, cX3_isNothing, 3, (some .boolean), 2, 49)
theorem mc_X3_isNothing : MC mi_X3_isNothing 1 := ⟨TB_at 474 (by decide +kernel) rfl, TB_at 33 (by decide +kernel) rfl, ⟨by decide +kernel, by decide +kernel⟩, by decide +kernel⟩
def mi_X3_sumOf : MI := (yX3_sumOf, cX3_sumOf, 8, (some .long), 1, 22)
theorem mc_X3_sumOf : MC mi_X3_sumOf 3 := ⟨TB_at 467 (by decide +kernel) rfl, TB_at 33 (by decide +kernel) rfl, ⟨by decide +kernel, by decide +kernel⟩, by decide +kernel⟩
def mi_X3_addTo : MI := (yX3_addTo, cX3_addTo, 5, none, 0, 0)
theorem mc_X3_addTo : MC mi_X3_addTo 3 := ⟨TB_at 361 (by decide +kernel) rfl, TB_at 33 (by decide +kernel) rfl, ⟨by decide +kernel, by decide +kernel⟩, by decide +kernel⟩
def mi_X3_levelOf : MI := (yX3_levelOf, cX3_levelOf, 6, (some .int), 1, 22)
theorem mc_X3_levelOf : MC mi_X3_levelOf 1 := ⟨TB_at 350 (by decide +kernel) rfl, TB_at 33 (by decide +kernel) rfl, ⟨by decide +kernel, by decide +kernel⟩, by decide +kernel⟩
def mi_X4_init : MI := (yX4_init, cX4_init, 1, none, 3, 72)
theorem mc_X4_init : MC mi_X4_init 0 := ⟨TB_at 51 (by decide +kernel) rfl, TB_at 28 (by decide +kernel) rfl, ⟨by decide +kernel, by decide +kernel⟩, by decide +kernel⟩
def mi_X4_restart : MI := (yX4_restart, cX4_restart, 6, none, 2, 47)
theorem mc_X4_restart : MC mi_X4_restart 4 := ⟨TB_at 168 (by decide +kernel) rfl, TB_at 28 (by decide +kernel) rfl, ⟨by decide +kernel, by decide +kernel⟩, by decide +kernel⟩
def mi_X4_accept : MI := (yX4_accept, cX4_accept, 5, (some .int), 4, 98)
theorem mc_X4_accept : MC mi_X4_accept 2 := ⟨TB_at 270 (by decide +kernel) rfl, TB_at 28 (by decide +kernel) rfl, ⟨by decide +kernel, by decide +kernel⟩, by decide +kernel⟩
def mi_X4_isApartFrom : MI := (yX4_isApartFrom, cX4_isApartFrom, 2, (some .boolean), 0, 0)
theorem mc_X4_isApartFrom : MC mi_X4_isApartFrom 1 := ⟨TB_at 376 (by decide +kernel) rfl, TB_at 28 (by decide +kernel) rfl, ⟨by decide +kernel, by decide +kernel⟩, by decide +kernel⟩
def mi_X5_init : MI := (yX5_init, cX5_init, 1, none, 1, 20)
theorem mc_X5_init : MC mi_X5_init 0 := ⟨TB_at 108 (by decide +kernel) rfl, TB_at 31 (by decide +kernel) rfl, ⟨by decide +kernel, by decide +kernel⟩, by decide +kernel⟩
def mi_X5_restart : MI := (yX5_restart, cX5_restart, 3, none, 1, 24)
theorem mc_X5_restart : MC mi_X5_restart 2 := ⟨TB_at 183 (by decide +kernel) rfl, TB_at 31 (by decide +kernel) rfl, ⟨by decide +kernel, by decide +kernel⟩, by decide +kernel⟩
def mi_X5_accept : MI := (yX5_accept, cX5_accept, 4, none, 3, 75)
theorem mc_X5_accept : MC mi_X5_accept 3 := ⟨TB_at 324 (by decide +kernel) rfl, TB_at 31 (by decide +kernel) rfl, ⟨by decide +kernel, by decide +kernel⟩, by decide +kernel⟩
def mi_X5_distance : MI := (yX5_distance, cX5_distance, 9, (some .int), 2, 47)
theorem mc_X5_distance : MC mi_X5_distance 3 := ⟨TB_at 328 (by decide +kernel) rfl, TB_at 31 (by decide +kernel) rfl, ⟨by decide +kernel, by decide +kernel⟩, by decide +kernel⟩
def mi_X5_neighboursOf : MI := (yX5_neighboursOf, cX5_neighboursOf, 6, (some .long), 1, 22)
theorem mc_X5_neighboursOf : MC mi_X5_neighboursOf 1 := ⟨TB_at 335 (by decide +kernel) rfl, TB_at 31 (by decide +kernel) rfl, ⟨by decide +kernel, by decide +kernel⟩, by decide +kernel⟩
def mi_X6_init : MI := (yX6_init, cX6_init, 2, none, 4, 92)
theorem mc_X6_init : MC mi_X6_init 0 := ⟨TB_at 42 (by decide +kernel) rfl, TB_at 27 (by decide +kernel) rfl, ⟨by decide +kernel, by decide +kernel⟩, by decide +kernel⟩
def mi_X6_begin : MI := (yX6_begin, cX6_begin, 8, (some .int), 3, 72)
theorem mc_X6_begin : MC mi_X6_begin 5 := ⟨TB_at 247 (by decide +kernel) rfl, TB_at 27 (by decide +kernel) rfl, ⟨by decide +kernel, by decide +kernel⟩, by decide +kernel⟩
def mi_X6_add : MI := (yX6_add, cX6_add, 4, (some .int), 5, 122)
theorem mc_X6_add : MC mi_X6_add 3 := ⟨TB_at 258 (by decide +kernel) rfl, TB_at 27 (by decide +kernel) rfl, ⟨by decide +kernel, by decide +kernel⟩, by decide +kernel⟩
def mi_X6_take : MI := (yX6_take, cX6_take, 4, (some .int), 3, 74)
theorem mc_X6_take : MC mi_X6_take 3 := ⟨TB_at 365 (by decide +kernel) rfl, TB_at 27 (by decide +kernel) rfl, ⟨by decide +kernel, by decide +kernel⟩, by decide +kernel⟩
def mi_X6_merge : MI := (yX6_merge, cX6_merge, 5, (some .int), 4, 99)
theorem mc_X6_merge : MC mi_X6_merge 2 := ⟨TB_at 372 (by decide +kernel) rfl, TB_at 27 (by decide +kernel) rfl, ⟨by decide +kernel, by decide +kernel⟩, by decide +kernel⟩
def mi_X6_told : MI := (yX6_told, cX6_told, 4, (some .int), 1, 20)
theorem mc_X6_told : MC mi_X6_told 2 := ⟨TB_at 401 (by decide +kernel) rfl, TB_at 27 (by decide +kernel) rfl, ⟨by decide +kernel, by decide +kernel⟩, by decide +kernel⟩
def mi_X6_span : MI := (yX6_span, cX6_span, 5, (some .int), 2, 42)
theorem mc_X6_span : MC mi_X6_span 3 := ⟨TB_at 405 (by decide +kernel) rfl, TB_at 27 (by decide +kernel) rfl, ⟨by decide +kernel, by decide +kernel⟩, by decide +kernel⟩
def mi_X6_slot : MI := (yX6_slot, cX6_slot, 6, (some .int), 3, 74)
theorem mc_X6_slot : MC mi_X6_slot 3 := ⟨TB_at 409 (by decide +kernel) rfl, TB_at 27 (by decide +kernel) rfl, ⟨by decide +kernel, by decide +kernel⟩, by decide +kernel⟩
def mi_X6_parts : MI := (yX6_parts, cX6_parts, 4, (some .int), 1, 23)
theorem mc_X6_parts : MC mi_X6_parts 2 := ⟨TB_at 414 (by decide +kernel) rfl, TB_at 27 (by decide +kernel) rfl, ⟨by decide +kernel, by decide +kernel⟩, by decide +kernel⟩
def mi_X6_part : MI := (yX6_part, cX6_part, 5, (some .int), 3, 69)
theorem mc_X6_part : MC mi_X6_part 3 := ⟨TB_at 422 (by decide +kernel) rfl, TB_at 27 (by decide +kernel) rfl, ⟨by decide +kernel, by decide +kernel⟩, by decide +kernel⟩
def mi_X6_tree : MI := (yX6_tree, cX6_tree, 5, (some .int), 1, 20)
theorem mc_X6_tree : MC mi_X6_tree 3 := ⟨TB_at 430 (by decide +kernel) rfl, TB_at 27 (by decide +kernel) rfl, ⟨by decide +kernel, by decide +kernel⟩, by decide +kernel⟩
def mi_X6_since : MI := (yX6_since, cX6_since, 6, (some .int), 3, 69)
theorem mc_X6_since : MC mi_X6_since 3 := ⟨TB_at 436 (by decide +kernel) rfl, TB_at 27 (by decide +kernel) rfl, ⟨by decide +kernel, by decide +kernel⟩, by decide +kernel⟩
def mi_X6_far : MI := (yX6_far, cX6_far, 4, (some .int), 3, 75)
theorem mc_X6_far : MC mi_X6_far 3 := ⟨TB_at 441 (by decide +kernel) rfl, TB_at 27 (by decide +kernel) rfl, ⟨by decide +kernel, by decide +kernel⟩, by decide +kernel⟩
def mi_X6_kept : MI := (yX6_kept, cX6_kept, 5, (some .int), 1, 20)
theorem mc_X6_kept : MC mi_X6_kept 3 := ⟨TB_at 446 (by decide +kernel) rfl, TB_at 27 (by decide +kernel) rfl, ⟨by decide +kernel, by decide +kernel⟩, by decide +kernel⟩
def mi_X6_mate : MI := (yX6_mate, cX6_mate, 3, (some .int), 2, 42)
theorem mc_X6_mate : MC mi_X6_mate 2 := ⟨TB_at 450 (by decide +kernel) rfl, TB_at 27 (by decide +kernel) rfl, ⟨by decide +kernel, by decide +kernel⟩, by decide +kernel⟩
def mi_X6_sum : MI := (yX6_sum, cX6_sum, 5, (some .long), 2, 42)
theorem mc_X6_sum : MC mi_X6_sum 4 := ⟨TB_at 454 (by decide +kernel) rfl, TB_at 27 (by decide +kernel) rfl, ⟨by decide +kernel, by decide +kernel⟩, by decide +kernel⟩
def mi_X6_out : MI := (yX6_out, cX6_out, 7, (some .int), 3, 79)
theorem mc_X6_out : MC mi_X6_out 2 := ⟨TB_at 459 (by decide +kernel) rfl, TB_at 27 (by decide +kernel) rfl, ⟨by decide +kernel, by decide +kernel⟩, by decide +kernel⟩
def mi_X6_level : MI := (yX6_level, cX6_level, 1, (some .int), 0, 0)
theorem mc_X6_level : MC mi_X6_level 0 := ⟨TB_at 478 (by decide +kernel) rfl, TB_at 27 (by decide +kernel) rfl, ⟨by decide +kernel, by decide +kernel⟩, by decide +kernel⟩
def mi_X6_same : MI := (yX6_same, cX6_same, 5, (some .int), 2, 44)
theorem mc_X6_same : MC mi_X6_same 2 := ⟨TB_at 482 (by decide +kernel) rfl, TB_at 27 (by decide +kernel) rfl, ⟨by decide +kernel, by decide +kernel⟩, by decide +kernel⟩
def mi_X6_isStretch : MI := (yX6_isStretch, cX6_isStretch, 1, (some .boolean), 0, 0)
theorem mc_X6_isStretch : MC mi_X6_isStretch 1 := ⟨TB_at 253 (by decide +kernel) rfl, TB_at 27 (by decide +kernel) rfl, ⟨by decide +kernel, by decide +kernel⟩, by decide +kernel⟩
def mi_X6_noStream : MI := (yX6_noStream, cX6_noStream, 1, (some .boolean), 0, 0)
theorem mc_X6_noStream : MC mi_X6_noStream 1 := ⟨TB_at 250 (by decide +kernel) rfl, TB_at 27 (by decide +kernel) rfl, ⟨by decide +kernel, by decide +kernel⟩, by decide +kernel⟩
def mi_X6_noNode : MI := (yX6_noNode, cX6_noNode, 3, (some .boolean), 1, 20)
theorem mc_X6_noNode : MC mi_X6_noNode 2 := ⟨TB_at 266 (by decide +kernel) rfl, TB_at 27 (by decide +kernel) rfl, ⟨by decide +kernel, by decide +kernel⟩, by decide +kernel⟩
def mi_X6_noArc : MI := (yX6_noArc, cX6_noArc, 4, (some .boolean), 2, 42)
theorem mc_X6_noArc : MC mi_X6_noArc 3 := ⟨TB_at 262 (by decide +kernel) rfl, TB_at 27 (by decide +kernel) rfl, ⟨by decide +kernel, by decide +kernel⟩, by decide +kernel⟩
def mi_X6_keyOf : MI := (yX6_keyOf, cX6_keyOf, 2, (some .int), 0, 0)
theorem mc_X6_keyOf : MC mi_X6_keyOf 2 := ⟨TB_at 320 (by decide +kernel) rfl, TB_at 27 (by decide +kernel) rfl, ⟨by decide +kernel, by decide +kernel⟩, by decide +kernel⟩
def mi_X6_lesserNode : MI := (yX6_lesserNode, cX6_lesserNode, 1, (some .int), 0, 0)
theorem mc_X6_lesserNode : MC mi_X6_lesserNode 1 := ⟨TB_at 304 (by decide +kernel) rfl, TB_at 27 (by decide +kernel) rfl, ⟨by decide +kernel, by decide +kernel⟩, by decide +kernel⟩
def mi_X6_greaterNode : MI := (yX6_greaterNode, cX6_greaterNode, 1, (some .int), 0, 0)
theorem mc_X6_greaterNode : MC mi_X6_greaterNode 1 := ⟨TB_at 311 (by decide +kernel) rfl, TB_at 27 (by decide +kernel) rfl, ⟨by decide +kernel, by decide +kernel⟩, by decide +kernel⟩
def mi_X6_holds : MI := (yX6_holds, cX6_holds, 3, (some .boolean), 0, 0)
theorem mc_X6_holds : MC mi_X6_holds 2 := ⟨TB_at 331 (by decide +kernel) rfl, TB_at 27 (by decide +kernel) rfl, ⟨by decide +kernel, by decide +kernel⟩, by decide +kernel⟩
def mi_X7_init : MI := (yX7_init, cX7_init, 1, none, 1, 20)
theorem mc_X7_init : MC mi_X7_init 0 := ⟨TB_at 491 (by decide +kernel) rfl, TB_at 35 (by decide +kernel) rfl, ⟨by decide +kernel, by decide +kernel⟩, by decide +kernel⟩
def mi_X7_isStream : MI := (yX7_isStream, cX7_isStream, 1, (some .boolean), 0, 0)
theorem mc_X7_isStream : MC mi_X7_isStream 1 := ⟨TB_at 552 (by decide +kernel) rfl, TB_at 35 (by decide +kernel) rfl, ⟨by decide +kernel, by decide +kernel⟩, by decide +kernel⟩
def mi_X7_isNode : MI := (yX7_isNode, cX7_isNode, 3, (some .boolean), 1, 20)
theorem mc_X7_isNode : MC mi_X7_isNode 2 := ⟨TB_at 560 (by decide +kernel) rfl, TB_at 35 (by decide +kernel) rfl, ⟨by decide +kernel, by decide +kernel⟩, by decide +kernel⟩
def mi_X7_begin : MI := (yX7_begin, cX7_begin, 10, (some .int), 1, 20)
theorem mc_X7_begin : MC mi_X7_begin 5 := ⟨TB_at 549 (by decide +kernel) rfl, TB_at 35 (by decide +kernel) rfl, ⟨by decide +kernel, by decide +kernel⟩, by decide +kernel⟩
def mi_X7_taken : MI := (yX7_taken, cX7_taken, 4, (some .int), 0, 0)
theorem mc_X7_taken : MC mi_X7_taken 1 := ⟨TB_at 568 (by decide +kernel) rfl, TB_at 35 (by decide +kernel) rfl, ⟨by decide +kernel, by decide +kernel⟩, by decide +kernel⟩
def mi_X7_less : MI := (yX7_less, cX7_less, 5, none, 0, 0)
theorem mc_X7_less : MC mi_X7_less 2 := ⟨TB_at 572 (by decide +kernel) rfl, TB_at 35 (by decide +kernel) rfl, ⟨by decide +kernel, by decide +kernel⟩, by decide +kernel⟩
def mi_X7_count : MI := (yX7_count, cX7_count, 3, none, 1, 24)
theorem mc_X7_count : MC mi_X7_count 2 := ⟨TB_at 564 (by decide +kernel) rfl, TB_at 35 (by decide +kernel) rfl, ⟨by decide +kernel, by decide +kernel⟩, by decide +kernel⟩
def mi_X7_add : MI := (yX7_add, cX7_add, 7, (some .int), 2, 59)
theorem mc_X7_add : MC mi_X7_add 3 := ⟨TB_at 556 (by decide +kernel) rfl, TB_at 35 (by decide +kernel) rfl, ⟨by decide +kernel, by decide +kernel⟩, by decide +kernel⟩
def mi_X7_levelOf : MI := (yX7_levelOf, cX7_levelOf, 7, (some .int), 0, 0)
theorem mc_X7_levelOf : MC mi_X7_levelOf 2 := ⟨TB_at 585 (by decide +kernel) rfl, TB_at 35 (by decide +kernel) rfl, ⟨by decide +kernel, by decide +kernel⟩, by decide +kernel⟩
def mi_X7_change : MI := (yX7_change, cX7_change, 14, (some .int), 1, 26)
theorem mc_X7_change : MC mi_X7_change 4 := ⟨TB_at 580 (by decide +kernel) rfl, TB_at 35 (by decide +kernel) rfl, ⟨by decide +kernel, by decide +kernel⟩, by decide +kernel⟩
def mi_X7_take : MI := (yX7_take, cX7_take, 4, (some .int), 2, 59)
theorem mc_X7_take : MC mi_X7_take 3 := ⟨TB_at 592 (by decide +kernel) rfl, TB_at 35 (by decide +kernel) rfl, ⟨by decide +kernel, by decide +kernel⟩, by decide +kernel⟩
def mi_X7_isApart : MI := (yX7_isApart, cX7_isApart, 3, (some .boolean), 0, 0)
theorem mc_X7_isApart : MC mi_X7_isApart 2 := ⟨TB_at 601 (by decide +kernel) rfl, TB_at 35 (by decide +kernel) rfl, ⟨by decide +kernel, by decide +kernel⟩, by decide +kernel⟩
def mi_X7_merge : MI := (yX7_merge, cX7_merge, 6, (some .int), 1, 27)
theorem mc_X7_merge : MC mi_X7_merge 2 := ⟨TB_at 597 (by decide +kernel) rfl, TB_at 35 (by decide +kernel) rfl, ⟨by decide +kernel, by decide +kernel⟩, by decide +kernel⟩
def mi_X7_ranked : MI := (yX7_ranked, cX7_ranked, 8, (some .int), 0, 0)
theorem mc_X7_ranked : MC mi_X7_ranked 2 := ⟨TB_at 606 (by decide +kernel) rfl, TB_at 35 (by decide +kernel) rfl, ⟨by decide +kernel, by decide +kernel⟩, by decide +kernel⟩
def mi_X7_told : MI := (yX7_told, cX7_told, 3, (some .int), 2, 51)
theorem mc_X7_told : MC mi_X7_told 2 := ⟨TB_at 611 (by decide +kernel) rfl, TB_at 35 (by decide +kernel) rfl, ⟨by decide +kernel, by decide +kernel⟩, by decide +kernel⟩
def mi_X7_pairs : MI := (yX7_pairs, cX7_pairs, 4, (some .int), 0, 0)
theorem mc_X7_pairs : MC mi_X7_pairs 1 := ⟨TB_at 623 (by decide +kernel) rfl, TB_at 35 (by decide +kernel) rfl, ⟨by decide +kernel, by decide +kernel⟩, by decide +kernel⟩
def mi_X7_span : MI := (yX7_span, cX7_span, 4, (some .int), 2, 42)
theorem mc_X7_span : MC mi_X7_span 3 := ⟨TB_at 627 (by decide +kernel) rfl, TB_at 35 (by decide +kernel) rfl, ⟨by decide +kernel, by decide +kernel⟩, by decide +kernel⟩
def mi_X7_slot : MI := (yX7_slot, cX7_slot, 5, (some .int), 1, 27)
theorem mc_X7_slot : MC mi_X7_slot 3 := ⟨TB_at 631 (by decide +kernel) rfl, TB_at 35 (by decide +kernel) rfl, ⟨by decide +kernel, by decide +kernel⟩, by decide +kernel⟩
def mi_X7_join : MI := (yX7_join, cX7_join, 8, (some .int), 1, 24)
theorem mc_X7_join : MC mi_X7_join 2 := ⟨TB_at 615 (by decide +kernel) rfl, TB_at 35 (by decide +kernel) rfl, ⟨by decide +kernel, by decide +kernel⟩, by decide +kernel⟩
def mi_X7_unite : MI := (yX7_unite, cX7_unite, 5, none, 0, 0)
theorem mc_X7_unite : MC mi_X7_unite 2 := ⟨TB_at 619 (by decide +kernel) rfl, TB_at 35 (by decide +kernel) rfl, ⟨by decide +kernel, by decide +kernel⟩, by decide +kernel⟩
def mi_X7_parts : MI := (yX7_parts, cX7_parts, 3, (some .int), 2, 51)
theorem mc_X7_parts : MC mi_X7_parts 2 := ⟨TB_at 635 (by decide +kernel) rfl, TB_at 35 (by decide +kernel) rfl, ⟨by decide +kernel, by decide +kernel⟩, by decide +kernel⟩
def mi_X7_part : MI := (yX7_part, cX7_part, 5, (some .int), 2, 51)
theorem mc_X7_part : MC mi_X7_part 3 := ⟨TB_at 639 (by decide +kernel) rfl, TB_at 35 (by decide +kernel) rfl, ⟨by decide +kernel, by decide +kernel⟩, by decide +kernel⟩
def mi_X7_tree : MI := (yX7_tree, cX7_tree, 7, (some .int), 2, 51)
theorem mc_X7_tree : MC mi_X7_tree 3 := ⟨TB_at 643 (by decide +kernel) rfl, TB_at 35 (by decide +kernel) rfl, ⟨by decide +kernel, by decide +kernel⟩, by decide +kernel⟩
def mi_X7_since : MI := (yX7_since, cX7_since, 10, (some .int), 2, 51)
theorem mc_X7_since : MC mi_X7_since 3 := ⟨TB_at 647 (by decide +kernel) rfl, TB_at 35 (by decide +kernel) rfl, ⟨by decide +kernel, by decide +kernel⟩, by decide +kernel⟩
def mi_X7_shortest : MI := (yX7_shortest, cX7_shortest, 8, (some .int), 0, 0)
theorem mc_X7_shortest : MC mi_X7_shortest 3 := ⟨TB_at 576 (by decide +kernel) rfl, TB_at 35 (by decide +kernel) rfl, ⟨by decide +kernel, by decide +kernel⟩, by decide +kernel⟩
def mi_X7_far : MI := (yX7_far, cX7_far, 5, (some .int), 2, 42)
theorem mc_X7_far : MC mi_X7_far 3 := ⟨TB_at 651 (by decide +kernel) rfl, TB_at 35 (by decide +kernel) rfl, ⟨by decide +kernel, by decide +kernel⟩, by decide +kernel⟩
def mi_X7_kept : MI := (yX7_kept, cX7_kept, 5, (some .int), 1, 20)
theorem mc_X7_kept : MC mi_X7_kept 3 := ⟨TB_at 655 (by decide +kernel) rfl, TB_at 35 (by decide +kernel) rfl, ⟨by decide +kernel, by decide +kernel⟩, by decide +kernel⟩
def mi_X7_mate : MI := (yX7_mate, cX7_mate, 3, (some .int), 2, 42)
theorem mc_X7_mate : MC mi_X7_mate 2 := ⟨TB_at 659 (by decide +kernel) rfl, TB_at 35 (by decide +kernel) rfl, ⟨by decide +kernel, by decide +kernel⟩, by decide +kernel⟩
def mi_X7_sum : MI := (yX7_sum, cX7_sum, 6, (some .long), 2, 42)
theorem mc_X7_sum : MC mi_X7_sum 4 := ⟨TB_at 663 (by decide +kernel) rfl, TB_at 35 (by decide +kernel) rfl, ⟨by decide +kernel, by decide +kernel⟩, by decide +kernel⟩
def mi_X7_ofSet : MI := (yX7_ofSet, cX7_ofSet, 9, (some .long), 0, 0)
theorem mc_X7_ofSet : MC mi_X7_ofSet 4 := ⟨TB_at 671 (by decide +kernel) rfl, TB_at 35 (by decide +kernel) rfl, ⟨by decide +kernel, by decide +kernel⟩, by decide +kernel⟩
def mi_X7_out : MI := (yX7_out, cX7_out, 10, (some .int), 1, 30)
theorem mc_X7_out : MC mi_X7_out 2 := ⟨TB_at 667 (by decide +kernel) rfl, TB_at 35 (by decide +kernel) rfl, ⟨by decide +kernel, by decide +kernel⟩, by decide +kernel⟩
def mi_X7_leads : MI := (yX7_leads, cX7_leads, 11, (some .boolean), 0, 0)
theorem mc_X7_leads : MC mi_X7_leads 4 := ⟨TB_at 676 (by decide +kernel) rfl, TB_at 35 (by decide +kernel) rfl, ⟨by decide +kernel, by decide +kernel⟩, by decide +kernel⟩
def mi_X7_level : MI := (yX7_level, cX7_level, 1, (some .int), 0, 0)
theorem mc_X7_level : MC mi_X7_level 0 := ⟨TB_at 680 (by decide +kernel) rfl, TB_at 35 (by decide +kernel) rfl, ⟨by decide +kernel, by decide +kernel⟩, by decide +kernel⟩
def mi_X7_same : MI := (yX7_same, cX7_same, 4, (some .int), 1, 22)
theorem mc_X7_same : MC mi_X7_same 2 := ⟨TB_at 684 (by decide +kernel) rfl, TB_at 35 (by decide +kernel) rfl, ⟨by decide +kernel, by decide +kernel⟩, by decide +kernel⟩
def mi_J9_max_7cf53 : MI := (yJ9_max_7cf53, cJ9_max_7cf53, 2, (some .int), 0, 0)
theorem mc_J9_max_7cf53 : MC mi_J9_max_7cf53 2 := ⟨TB_at 276 (by decide +kernel) rfl, TB_at 36 (by decide +kernel) rfl, ⟨by decide +kernel, by decide +kernel⟩, by decide +kernel⟩
def mi_J9_min_7cf53 : MI := (yJ9_min_7cf53, cJ9_min_7cf53, 2, (some .int), 0, 0)
theorem mc_J9_min_7cf53 : MC mi_J9_min_7cf53 2 := ⟨TB_at 273 (by decide +kernel) rfl, TB_at 36 (by decide +kernel) rfl, ⟨by decide +kernel, by decide +kernel⟩, by decide +kernel⟩
def mi_J7_fill_d0a16 : MI := (yJ7_fill_d0a16, cJ7_fill_d0a16, 5, none, 0, 0)
theorem mc_J7_fill_d0a16 : MC mi_J7_fill_d0a16 2 := ⟨TB_at 186 (by decide +kernel) rfl, TB_at 34 (by decide +kernel) rfl, ⟨by decide +kernel, by decide +kernel⟩, by decide +kernel⟩
def mi_J7_fill_53178 : MI := (yJ7_fill_53178, cJ7_fill_53178, 4, none, 0, 0)
theorem mc_J7_fill_53178 : MC mi_J7_fill_53178 2 := ⟨TB_at 175 (by decide +kernel) rfl, TB_at 34 (by decide +kernel) rfl, ⟨by decide +kernel, by decide +kernel⟩, by decide +kernel⟩
theorem fl_X6_11 : FL RX6 11 6 0 (.array (.object "StreamCounts$Stream")) true := ⟨RX6, TX6, 2, tyX6, rfl, by decide, inT6, tyX6_ok, nmX6, TB_at 237 (by decide +kernel) rfl, rfl, by decide +kernel, fun _ => rfl⟩
theorem fl_X6_16 : FL RX6 16 6 1 .int false := ⟨RX6, TX6, 2, tyX6, rfl, by decide, inT6, tyX6_ok, nmX6, TB_at 238 (by decide +kernel) rfl, rfl, by decide +kernel, fun h => by cases h⟩
theorem fl_X6_27 : FL RX6 27 4 9 .int false := ⟨RX4, TX4, 10, tyX4, rfl, by decide, inT4, tyX4_ok, nmX4, TB_at 215 (by decide +kernel) rfl, rfl, by decide +kernel, fun h => by cases h⟩
theorem fl_X6_42 : FLr RX6 42 4 4 (.object "StreamCounts$Rows") := ⟨RX4, TX4, 10, tyX4, rfl, by decide, inT4, TB_at 206 (by decide +kernel) rfl⟩
theorem fl_X6_64 : FLr RX6 64 4 0 (.object "StreamCounts$Counters") := ⟨RX4, TX4, 10, tyX4, rfl, by decide, inT4, TB_at 198 (by decide +kernel) rfl⟩
theorem fl_X6_77 : FL RX6 77 0 4 .int false := ⟨RX0, TX0, 6, tyX0, rfl, by decide, inT0, tyX0_ok, nmX0, TB_at 65 (by decide +kernel) rfl, rfl, by decide +kernel, fun h => by cases h⟩
theorem fl_X6_80 : FL RX6 80 0 5 .int false := ⟨RX0, TX0, 6, tyX0, rfl, by decide, inT0, tyX0_ok, nmX0, TB_at 67 (by decide +kernel) rfl, rfl, by decide +kernel, fun h => by cases h⟩
theorem fl_X6_83 : FLr RX6 83 4 1 (.object "StreamCounts$Forest") := ⟨RX4, TX4, 10, tyX4, rfl, by decide, inT4, TB_at 200 (by decide +kernel) rfl⟩
theorem fl_X6_87 : FL RX6 87 1 3 .int false := ⟨RX1, TX1, 4, tyX1, rfl, by decide, inT1, tyX1_ok, nmX1, TB_at 94 (by decide +kernel) rfl, rfl, by decide +kernel, fun h => by cases h⟩
theorem fl_X6_92 : FLr RX6 92 4 2 (.object "StreamCounts$Thinned") := ⟨RX4, TX4, 10, tyX4, rfl, by decide, inT4, TB_at 202 (by decide +kernel) rfl⟩
theorem fl_X6_96 : FL RX6 96 5 5 .int false := ⟨RX5, TX5, 6, tyX5, rfl, by decide, inT5, tyX5_ok, nmX5, TB_at 118 (by decide +kernel) rfl, rfl, by decide +kernel, fun h => by cases h⟩
theorem fl_X6_99 : FLr RX6 99 4 3 (.object "StreamCounts$Matching") := ⟨RX4, TX4, 10, tyX4, rfl, by decide, inT4, TB_at 204 (by decide +kernel) rfl⟩
theorem fl_X6_103 : FL RX6 103 2 1 .int false := ⟨RX2, TX2, 2, tyX2, rfl, by decide, inT2, tyX2_ok, nmX2, TB_at 142 (by decide +kernel) rfl, rfl, by decide +kernel, fun h => by cases h⟩
theorem fl_X6_108 : FL RX6 108 4 5 .int false := ⟨RX4, TX4, 10, tyX4, rfl, by decide, inT4, tyX4_ok, nmX4, TB_at 208 (by decide +kernel) rfl, rfl, by decide +kernel, fun h => by cases h⟩
theorem fl_X6_111 : FL RX6 111 4 6 .int false := ⟨RX4, TX4, 10, tyX4, rfl, by decide, inT4, tyX4_ok, nmX4, TB_at 210 (by decide +kernel) rfl, rfl, by decide +kernel, fun h => by cases h⟩
theorem fl_X6_114 : FL RX6 114 4 7 .int false := ⟨RX4, TX4, 10, tyX4, rfl, by decide, inT4, tyX4_ok, nmX4, TB_at 212 (by decide +kernel) rfl, rfl, by decide +kernel, fun h => by cases h⟩
theorem fl_X6_121 : FLr RX6 121 0 0 (.array .int) := ⟨RX0, TX0, 6, tyX0, rfl, by decide, inT0, TB_at 60 (by decide +kernel) rfl⟩
theorem fl_X6_136 : FLr RX6 136 1 0 (.array .int) := ⟨RX1, TX1, 4, tyX1, rfl, by decide, inT1, TB_at 89 (by decide +kernel) rfl⟩
theorem fl_X6_139 : FLr RX6 139 1 1 (.array .int) := ⟨RX1, TX1, 4, tyX1, rfl, by decide, inT1, TB_at 91 (by decide +kernel) rfl⟩
theorem fl_X6_154 : FLr RX6 154 5 0 (.array .int) := ⟨RX5, TX5, 6, tyX5, rfl, by decide, inT5, TB_at 111 (by decide +kernel) rfl⟩
theorem fl_X6_155 : FLr RX6 155 5 1 (.array .int) := ⟨RX5, TX5, 6, tyX5, rfl, by decide, inT5, TB_at 113 (by decide +kernel) rfl⟩
theorem fl_X6_156 : FLr RX6 156 2 0 (.array .int) := ⟨RX2, TX2, 2, tyX2, rfl, by decide, inT2, TB_at 140 (by decide +kernel) rfl⟩
theorem fl_X6_159 : FLr RX6 159 3 0 (.array .long) := ⟨RX3, TX3, 3, tyX3, rfl, by decide, inT3, TB_at 155 (by decide +kernel) rfl⟩
theorem fl_X0_9 : FL RX0 9 0 0 (.array .int) true := ⟨RX0, TX0, 6, tyX0, rfl, by decide, inT0, tyX0_ok, nmX0, TB_at 59 (by decide +kernel) rfl, rfl, by decide +kernel, fun _ => rfl⟩
theorem fl_X0_15 : FL RX0 15 0 1 (.array .int) true := ⟨RX0, TX0, 6, tyX0, rfl, by decide, inT0, tyX0_ok, nmX0, TB_at 61 (by decide +kernel) rfl, rfl, by decide +kernel, fun _ => rfl⟩
theorem fl_X0_18 : FL RX0 18 0 2 .int false := ⟨RX0, TX0, 6, tyX0, rfl, by decide, inT0, tyX0_ok, nmX0, TB_at 62 (by decide +kernel) rfl, rfl, by decide +kernel, fun h => by cases h⟩
theorem fl_X0_22 : FL RX0 22 0 3 .int false := ⟨RX0, TX0, 6, tyX0, rfl, by decide, inT0, tyX0_ok, nmX0, TB_at 63 (by decide +kernel) rfl, rfl, by decide +kernel, fun h => by cases h⟩
theorem fl_X0_25 : FL RX0 25 0 4 .int false := ⟨RX0, TX0, 6, tyX0, rfl, by decide, inT0, tyX0_ok, nmX0, TB_at 64 (by decide +kernel) rfl, rfl, by decide +kernel, fun h => by cases h⟩
theorem fl_X0_28 : FL RX0 28 0 5 .int false := ⟨RX0, TX0, 6, tyX0, rfl, by decide, inT0, tyX0_ok, nmX0, TB_at 66 (by decide +kernel) rfl, rfl, by decide +kernel, fun h => by cases h⟩
theorem fl_X1_9 : FL RX1 9 1 0 (.array .int) true := ⟨RX1, TX1, 4, tyX1, rfl, by decide, inT1, tyX1_ok, nmX1, TB_at 88 (by decide +kernel) rfl, rfl, by decide +kernel, fun _ => rfl⟩
theorem fl_X1_15 : FL RX1 15 1 1 (.array .int) true := ⟨RX1, TX1, 4, tyX1, rfl, by decide, inT1, tyX1_ok, nmX1, TB_at 90 (by decide +kernel) rfl, rfl, by decide +kernel, fun _ => rfl⟩
theorem fl_X1_18 : FL RX1 18 1 2 (.array .int) true := ⟨RX1, TX1, 4, tyX1, rfl, by decide, inT1, tyX1_ok, nmX1, TB_at 92 (by decide +kernel) rfl, rfl, by decide +kernel, fun _ => rfl⟩
theorem fl_X1_21 : FL RX1 21 1 3 .int false := ⟨RX1, TX1, 4, tyX1, rfl, by decide, inT1, tyX1_ok, nmX1, TB_at 93 (by decide +kernel) rfl, rfl, by decide +kernel, fun h => by cases h⟩
theorem fl_X2_9 : FL RX2 9 2 0 (.array .int) true := ⟨RX2, TX2, 2, tyX2, rfl, by decide, inT2, tyX2_ok, nmX2, TB_at 139 (by decide +kernel) rfl, rfl, by decide +kernel, fun _ => rfl⟩
theorem fl_X2_15 : FL RX2 15 2 1 .int false := ⟨RX2, TX2, 2, tyX2, rfl, by decide, inT2, tyX2_ok, nmX2, TB_at 141 (by decide +kernel) rfl, rfl, by decide +kernel, fun h => by cases h⟩
theorem fl_X3_9 : FL RX3 9 3 0 (.array .long) true := ⟨RX3, TX3, 3, tyX3, rfl, by decide, inT3, tyX3_ok, nmX3, TB_at 154 (by decide +kernel) rfl, rfl, by decide +kernel, fun _ => rfl⟩
theorem fl_X3_15 : FL RX3 15 3 1 .int false := ⟨RX3, TX3, 3, tyX3, rfl, by decide, inT3, tyX3_ok, nmX3, TB_at 156 (by decide +kernel) rfl, rfl, by decide +kernel, fun h => by cases h⟩
theorem fl_X3_19 : FL RX3 19 3 2 .long false := ⟨RX3, TX3, 3, tyX3, rfl, by decide, inT3, tyX3_ok, nmX3, TB_at 157 (by decide +kernel) rfl, rfl, by decide +kernel, fun h => by cases h⟩
theorem fl_X4_12 : FL RX4 12 4 0 (.object "StreamCounts$Counters") true := ⟨RX4, TX4, 10, tyX4, rfl, by decide, inT4, tyX4_ok, nmX4, TB_at 197 (by decide +kernel) rfl, rfl, by decide +kernel, fun _ => rfl⟩
theorem fl_X4_21 : FL RX4 21 4 1 (.object "StreamCounts$Forest") true := ⟨RX4, TX4, 10, tyX4, rfl, by decide, inT4, tyX4_ok, nmX4, TB_at 199 (by decide +kernel) rfl, rfl, by decide +kernel, fun _ => rfl⟩
theorem fl_X4_28 : FL RX4 28 4 2 (.object "StreamCounts$Thinned") true := ⟨RX4, TX4, 10, tyX4, rfl, by decide, inT4, tyX4_ok, nmX4, TB_at 201 (by decide +kernel) rfl, rfl, by decide +kernel, fun _ => rfl⟩
theorem fl_X4_35 : FL RX4 35 4 3 (.object "StreamCounts$Matching") true := ⟨RX4, TX4, 10, tyX4, rfl, by decide, inT4, tyX4_ok, nmX4, TB_at 203 (by decide +kernel) rfl, rfl, by decide +kernel, fun _ => rfl⟩
theorem fl_X4_42 : FL RX4 42 4 4 (.object "StreamCounts$Rows") true := ⟨RX4, TX4, 10, tyX4, rfl, by decide, inT4, tyX4_ok, nmX4, TB_at 205 (by decide +kernel) rfl, rfl, by decide +kernel, fun _ => rfl⟩
theorem fl_X4_50 : FL RX4 50 4 5 .int false := ⟨RX4, TX4, 10, tyX4, rfl, by decide, inT4, tyX4_ok, nmX4, TB_at 207 (by decide +kernel) rfl, rfl, by decide +kernel, fun h => by cases h⟩
theorem fl_X4_54 : FL RX4 54 4 6 .int false := ⟨RX4, TX4, 10, tyX4, rfl, by decide, inT4, tyX4_ok, nmX4, TB_at 209 (by decide +kernel) rfl, rfl, by decide +kernel, fun h => by cases h⟩
theorem fl_X4_57 : FL RX4 57 4 7 .int false := ⟨RX4, TX4, 10, tyX4, rfl, by decide, inT4, tyX4_ok, nmX4, TB_at 211 (by decide +kernel) rfl, rfl, by decide +kernel, fun h => by cases h⟩
theorem fl_X4_60 : FL RX4 60 4 8 .long false := ⟨RX4, TX4, 10, tyX4, rfl, by decide, inT4, tyX4_ok, nmX4, TB_at 213 (by decide +kernel) rfl, rfl, by decide +kernel, fun h => by cases h⟩
theorem fl_X4_64 : FL RX4 64 4 9 .int false := ⟨RX4, TX4, 10, tyX4, rfl, by decide, inT4, tyX4_ok, nmX4, TB_at 214 (by decide +kernel) rfl, rfl, by decide +kernel, fun h => by cases h⟩
theorem fl_X5_9 : FL RX5 9 5 0 (.array .int) true := ⟨RX5, TX5, 6, tyX5, rfl, by decide, inT5, tyX5_ok, nmX5, TB_at 110 (by decide +kernel) rfl, rfl, by decide +kernel, fun _ => rfl⟩
theorem fl_X5_15 : FL RX5 15 5 1 (.array .int) true := ⟨RX5, TX5, 6, tyX5, rfl, by decide, inT5, tyX5_ok, nmX5, TB_at 112 (by decide +kernel) rfl, rfl, by decide +kernel, fun _ => rfl⟩
theorem fl_X5_18 : FL RX5 18 5 2 (.array .long) true := ⟨RX5, TX5, 6, tyX5, rfl, by decide, inT5, tyX5_ok, nmX5, TB_at 114 (by decide +kernel) rfl, rfl, by decide +kernel, fun _ => rfl⟩
theorem fl_X5_22 : FL RX5 22 5 3 .int false := ⟨RX5, TX5, 6, tyX5, rfl, by decide, inT5, tyX5_ok, nmX5, TB_at 115 (by decide +kernel) rfl, rfl, by decide +kernel, fun h => by cases h⟩
theorem fl_X5_26 : FL RX5 26 5 4 .int false := ⟨RX5, TX5, 6, tyX5, rfl, by decide, inT5, tyX5_ok, nmX5, TB_at 116 (by decide +kernel) rfl, rfl, by decide +kernel, fun h => by cases h⟩
theorem fl_X5_29 : FL RX5 29 5 5 .int false := ⟨RX5, TX5, 6, tyX5, rfl, by decide, inT5, tyX5_ok, nmX5, TB_at 117 (by decide +kernel) rfl, rfl, by decide +kernel, fun h => by cases h⟩
theorem fl_X7_7 : FL RX7 7 7 0 (.array .int) true := ⟨RX7, TX7, 17, tyX7, rfl, by decide, inT7, tyX7_ok, nmX7, TB_at 493 (by decide +kernel) rfl, rfl, by decide +kernel, fun _ => rfl⟩
theorem fl_X7_13 : FL RX7 13 7 1 (.array .int) true := ⟨RX7, TX7, 17, tyX7, rfl, by decide, inT7, tyX7_ok, nmX7, TB_at 494 (by decide +kernel) rfl, rfl, by decide +kernel, fun _ => rfl⟩
theorem fl_X7_16 : FL RX7 16 7 2 (.array .int) true := ⟨RX7, TX7, 17, tyX7, rfl, by decide, inT7, tyX7_ok, nmX7, TB_at 495 (by decide +kernel) rfl, rfl, by decide +kernel, fun _ => rfl⟩
theorem fl_X7_19 : FL RX7 19 7 3 (.array .long) true := ⟨RX7, TX7, 17, tyX7, rfl, by decide, inT7, tyX7_ok, nmX7, TB_at 496 (by decide +kernel) rfl, rfl, by decide +kernel, fun _ => rfl⟩
theorem fl_X7_23 : FL RX7 23 7 4 (.array .int) true := ⟨RX7, TX7, 17, tyX7, rfl, by decide, inT7, tyX7_ok, nmX7, TB_at 497 (by decide +kernel) rfl, rfl, by decide +kernel, fun _ => rfl⟩
theorem fl_X7_26 : FL RX7 26 7 5 (.array .int) true := ⟨RX7, TX7, 17, tyX7, rfl, by decide, inT7, tyX7_ok, nmX7, TB_at 498 (by decide +kernel) rfl, rfl, by decide +kernel, fun _ => rfl⟩
theorem fl_X7_29 : FL RX7 29 7 6 (.array .int) true := ⟨RX7, TX7, 17, tyX7, rfl, by decide, inT7, tyX7_ok, nmX7, TB_at 499 (by decide +kernel) rfl, rfl, by decide +kernel, fun _ => rfl⟩
theorem fl_X7_32 : FL RX7 32 7 7 (.array .int) true := ⟨RX7, TX7, 17, tyX7, rfl, by decide, inT7, tyX7_ok, nmX7, TB_at 500 (by decide +kernel) rfl, rfl, by decide +kernel, fun _ => rfl⟩
theorem fl_X7_35 : FL RX7 35 7 8 (.array .int) true := ⟨RX7, TX7, 17, tyX7, rfl, by decide, inT7, tyX7_ok, nmX7, TB_at 501 (by decide +kernel) rfl, rfl, by decide +kernel, fun _ => rfl⟩
theorem fl_X7_38 : FL RX7 38 7 9 (.array .int) true := ⟨RX7, TX7, 17, tyX7, rfl, by decide, inT7, tyX7_ok, nmX7, TB_at 502 (by decide +kernel) rfl, rfl, by decide +kernel, fun _ => rfl⟩
theorem fl_X7_41 : FL RX7 41 7 10 (.array .long) true := ⟨RX7, TX7, 17, tyX7, rfl, by decide, inT7, tyX7_ok, nmX7, TB_at 503 (by decide +kernel) rfl, rfl, by decide +kernel, fun _ => rfl⟩
theorem fl_X7_44 : FL RX7 44 7 11 (.array .int) true := ⟨RX7, TX7, 17, tyX7, rfl, by decide, inT7, tyX7_ok, nmX7, TB_at 504 (by decide +kernel) rfl, rfl, by decide +kernel, fun _ => rfl⟩
theorem fl_X7_47 : FL RX7 47 7 12 (.array .int) true := ⟨RX7, TX7, 17, tyX7, rfl, by decide, inT7, tyX7_ok, nmX7, TB_at 505 (by decide +kernel) rfl, rfl, by decide +kernel, fun _ => rfl⟩
theorem fl_X7_50 : FL RX7 50 7 13 .int false := ⟨RX7, TX7, 17, tyX7, rfl, by decide, inT7, tyX7_ok, nmX7, TB_at 506 (by decide +kernel) rfl, rfl, by decide +kernel, fun h => by cases h⟩
theorem fl_X7_54 : FL RX7 54 7 14 (.array .int) true := ⟨RX7, TX7, 17, tyX7, rfl, by decide, inT7, tyX7_ok, nmX7, TB_at 507 (by decide +kernel) rfl, rfl, by decide +kernel, fun _ => rfl⟩
theorem fl_X7_57 : FL RX7 57 7 15 (.array .boolean) true := ⟨RX7, TX7, 17, tyX7, rfl, by decide, inT7, tyX7_ok, nmX7, TB_at 508 (by decide +kernel) rfl, rfl, by decide +kernel, fun _ => rfl⟩
theorem fl_X7_61 : FL RX7 61 7 16 (.array .int) true := ⟨RX7, TX7, 17, tyX7, rfl, by decide, inT7, tyX7_ok, nmX7, TB_at 509 (by decide +kernel) rfl, rfl, by decide +kernel, fun _ => rfl⟩
theorem ms_X0_31 : MS RX0 31 mi_J7_fill_53178 2 := ⟨mc_J7_fill_53178, TB_at 173 (by decide +kernel) rfl, TB_at 174 (by decide +kernel) rfl⟩
theorem mv_X0_37 : MV RX0 37 mi_X0_lessen 0 1 := ⟨mc_X0_lessen, TB_at 281 (by decide +kernel) rfl, TB_at 283 (by decide +kernel) rfl, TB_at 2 (by decide +kernel) rfl, TX0, 6, rfl⟩
theorem mv_X0_43 : MV RX0 43 mi_X0_nodeAtPlace 0 2 := ⟨mc_X0_nodeAtPlace, TB_at 382 (by decide +kernel) rfl, TB_at 383 (by decide +kernel) rfl, TB_at 384 (by decide +kernel) rfl, TX0, 6, rfl⟩
theorem mv_X0_53 : MV RX0 53 mi_X0_greatest 0 2 := ⟨mc_X0_greatest, TB_at 386 (by decide +kernel) rfl, TB_at 388 (by decide +kernel) rfl, TB_at 10 (by decide +kernel) rfl, TX0, 6, rfl⟩
theorem mn_X0_57 : MN RX0 57 mi_X6_holds 2 := ⟨mc_X6_holds, ⟨"StreamCounts", by decide +kernel⟩, TB_at 330 (by decide +kernel) rfl⟩
theorem ms_X0_61 : MS RX0 61 mi_J9_max_7cf53 2 := ⟨mc_J9_max_7cf53, TB_at 285 (by decide +kernel) rfl, TB_at 275 (by decide +kernel) rfl⟩
theorem mv_X1_25 : MV RX1 25 mi_X1_oldestBetween 1 2 := ⟨mc_X1_oldestBetween, TB_at 290 (by decide +kernel) rfl, TB_at 291 (by decide +kernel) rfl, TB_at 292 (by decide +kernel) rfl, TX1, 4, rfl⟩
theorem mv_X1_29 : MV RX1 29 mi_X1_drop 1 1 := ⟨mc_X1_drop, TB_at 314 (by decide +kernel) rfl, TB_at 316 (by decide +kernel) rfl, TB_at 6 (by decide +kernel) rfl, TX1, 4, rfl⟩
theorem mn_X1_33 : MN RX1 33 mi_X6_keyOf 2 := ⟨mc_X6_keyOf, ⟨"StreamCounts", by decide +kernel⟩, TB_at 319 (by decide +kernel) rfl⟩
theorem mv_X1_36 : MV RX1 36 mi_X1_partAll 1 0 := ⟨mc_X1_partAll, TB_at 294 (by decide +kernel) rfl, TB_at 296 (by decide +kernel) rfl, TB_at 3 (by decide +kernel) rfl, TX1, 4, rfl⟩
theorem mv_X1_39 : MV RX1 39 mi_X1_joinByArc 1 1 := ⟨mc_X1_joinByArc, TB_at 298 (by decide +kernel) rfl, TB_at 300 (by decide +kernel) rfl, TB_at 4 (by decide +kernel) rfl, TX1, 4, rfl⟩
theorem mv_X1_42 : MV RX1 42 mi_X1_leaderOf 1 1 := ⟨mc_X1_leaderOf, TB_at 305 (by decide +kernel) rfl, TB_at 307 (by decide +kernel) rfl, TB_at 5 (by decide +kernel) rfl, TX1, 4, rfl⟩
theorem mn_X1_46 : MN RX1 46 mi_X6_lesserNode 1 := ⟨mc_X6_lesserNode, ⟨"StreamCounts", by decide +kernel⟩, TB_at 303 (by decide +kernel) rfl⟩
theorem mn_X1_49 : MN RX1 49 mi_X6_greaterNode 1 := ⟨mc_X6_greaterNode, ⟨"StreamCounts", by decide +kernel⟩, TB_at 310 (by decide +kernel) rfl⟩
theorem ms_X1_52 : MS RX1 52 mi_J9_max_7cf53 2 := ⟨mc_J9_max_7cf53, TB_at 312 (by decide +kernel) rfl, TB_at 275 (by decide +kernel) rfl⟩
theorem ms_X1_57 : MS RX1 57 mi_J9_min_7cf53 2 := ⟨mc_J9_min_7cf53, TB_at 313 (by decide +kernel) rfl, TB_at 272 (by decide +kernel) rfl⟩
theorem ms_X2_19 : MS RX2 19 mi_J7_fill_53178 2 := ⟨mc_J7_fill_53178, TB_at 191 (by decide +kernel) rfl, TB_at 174 (by decide +kernel) rfl⟩
theorem ms_X3_23 : MS RX3 23 mi_J7_fill_d0a16 2 := ⟨mc_J7_fill_d0a16, TB_at 196 (by decide +kernel) rfl, TB_at 185 (by decide +kernel) rfl⟩
theorem mn_X3_29 : MN RX3 29 mi_X6_keyOf 2 := ⟨mc_X6_keyOf, ⟨"StreamCounts", by decide +kernel⟩, TB_at 319 (by decide +kernel) rfl⟩
theorem mv_X3_33 : MV RX3 33 mi_X3_levelOf 3 1 := ⟨mc_X3_levelOf, TB_at 347 (by decide +kernel) rfl, TB_at 349 (by decide +kernel) rfl, TB_at 8 (by decide +kernel) rfl, TX3, 3, rfl⟩
theorem ms_X3_37 : MS RX3 37 mi_X3_placeOf 2 := ⟨mc_X3_placeOf, TB_at 355 (by decide +kernel) rfl, TB_at 356 (by decide +kernel) rfl⟩
theorem mv_X3_40 : MV RX3 40 mi_X3_addTo 3 3 := ⟨mc_X3_addTo, TB_at 358 (by decide +kernel) rfl, TB_at 360 (by decide +kernel) rfl, TB_at 9 (by decide +kernel) rfl, TX3, 3, rfl⟩
theorem mv_X3_44 : MV RX3 44 mi_X3_sumOf 3 3 := ⟨mc_X3_sumOf, TB_at 464 (by decide +kernel) rfl, TB_at 466 (by decide +kernel) rfl, TB_at 11 (by decide +kernel) rfl, TX3, 3, rfl⟩
theorem mn_X3_50 : MN RX3 50 mi_X6_lesserNode 1 := ⟨mc_X6_lesserNode, ⟨"StreamCounts", by decide +kernel⟩, TB_at 303 (by decide +kernel) rfl⟩
theorem mn_X3_54 : MN RX3 54 mi_X6_greaterNode 1 := ⟨mc_X6_greaterNode, ⟨"StreamCounts", by decide +kernel⟩, TB_at 310 (by decide +kernel) rfl⟩
theorem mn_X3_57 : MN RX3 57 mi_X6_holds 2 := ⟨mc_X6_holds, ⟨"StreamCounts", by decide +kernel⟩, TB_at 330 (by decide +kernel) rfl⟩
theorem mv_X4_46 : MV RX4 46 mi_X4_restart 4 4 := ⟨mc_X4_restart, TB_at 165 (by decide +kernel) rfl, TB_at 166 (by decide +kernel) rfl, TB_at 167 (by decide +kernel) rfl, TX4, 10, rfl⟩
theorem mv_X4_67 : MV RX4 67 mi_X0_restart 0 2 := ⟨mc_X0_restart, TB_at 169 (by decide +kernel) rfl, TB_at 170 (by decide +kernel) rfl, TB_at 171 (by decide +kernel) rfl, TX0, 6, rfl⟩
theorem mv_X4_70 : MV RX4 70 mi_X1_restart 1 0 := ⟨mc_X1_restart, TB_at 176 (by decide +kernel) rfl, TB_at 177 (by decide +kernel) rfl, TB_at 178 (by decide +kernel) rfl, TX1, 4, rfl⟩
theorem mv_X4_72 : MV RX4 72 mi_X5_restart 5 2 := ⟨mc_X5_restart, TB_at 180 (by decide +kernel) rfl, TB_at 181 (by decide +kernel) rfl, TB_at 182 (by decide +kernel) rfl, TX5, 6, rfl⟩
theorem mv_X4_73 : MV RX4 73 mi_X2_restart 2 0 := ⟨mc_X2_restart, TB_at 187 (by decide +kernel) rfl, TB_at 188 (by decide +kernel) rfl, TB_at 189 (by decide +kernel) rfl, TX2, 2, rfl⟩
theorem mv_X4_74 : MV RX4 74 mi_X3_restart 3 2 := ⟨mc_X3_restart, TB_at 192 (by decide +kernel) rfl, TB_at 193 (by decide +kernel) rfl, TB_at 194 (by decide +kernel) rfl, TX3, 3, rfl⟩
theorem ms_X4_77 : MS RX4 77 mi_J9_min_7cf53 2 := ⟨mc_J9_min_7cf53, TB_at 271 (by decide +kernel) rfl, TB_at 272 (by decide +kernel) rfl⟩
theorem ms_X4_83 : MS RX4 83 mi_J9_max_7cf53 2 := ⟨mc_J9_max_7cf53, TB_at 274 (by decide +kernel) rfl, TB_at 275 (by decide +kernel) rfl⟩
theorem mv_X4_86 : MV RX4 86 mi_X0_count 0 1 := ⟨mc_X0_count, TB_at 277 (by decide +kernel) rfl, TB_at 278 (by decide +kernel) rfl, TB_at 279 (by decide +kernel) rfl, TX0, 6, rfl⟩
theorem mv_X4_90 : MV RX4 90 mi_X1_accept 1 3 := ⟨mc_X1_accept, TB_at 286 (by decide +kernel) rfl, TB_at 287 (by decide +kernel) rfl, TB_at 288 (by decide +kernel) rfl, TX1, 4, rfl⟩
theorem mv_X4_94 : MV RX4 94 mi_X5_accept 5 3 := ⟨mc_X5_accept, TB_at 321 (by decide +kernel) rfl, TB_at 322 (by decide +kernel) rfl, TB_at 323 (by decide +kernel) rfl, TX5, 6, rfl⟩
theorem mv_X4_95 : MV RX4 95 mi_X2_accept 2 2 := ⟨mc_X2_accept, TB_at 338 (by decide +kernel) rfl, TB_at 339 (by decide +kernel) rfl, TB_at 340 (by decide +kernel) rfl, TX2, 2, rfl⟩
theorem mv_X4_97 : MV RX4 97 mi_X3_change 3 3 := ⟨mc_X3_change, TB_at 342 (by decide +kernel) rfl, TB_at 343 (by decide +kernel) rfl, TB_at 344 (by decide +kernel) rfl, TX3, 3, rfl⟩
theorem ms_X5_32 : MS RX5 32 mi_J7_fill_d0a16 2 := ⟨mc_J7_fill_d0a16, TB_at 184 (by decide +kernel) rfl, TB_at 185 (by decide +kernel) rfl⟩
theorem mv_X5_38 : MV RX5 38 mi_X5_distance 5 3 := ⟨mc_X5_distance, TB_at 325 (by decide +kernel) rfl, TB_at 326 (by decide +kernel) rfl, TB_at 327 (by decide +kernel) rfl, TX5, 6, rfl⟩
theorem mn_X5_42 : MN RX5 42 mi_X6_keyOf 2 := ⟨mc_X6_keyOf, ⟨"StreamCounts", by decide +kernel⟩, TB_at 319 (by decide +kernel) rfl⟩
theorem mn_X5_46 : MN RX5 46 mi_X6_holds 2 := ⟨mc_X6_holds, ⟨"StreamCounts", by decide +kernel⟩, TB_at 330 (by decide +kernel) rfl⟩
theorem mv_X5_50 : MV RX5 50 mi_X5_neighboursOf 5 1 := ⟨mc_X5_neighboursOf, TB_at 332 (by decide +kernel) rfl, TB_at 334 (by decide +kernel) rfl, TB_at 7 (by decide +kernel) rfl, TX5, 6, rfl⟩
theorem ms_X6_20 : MS RX6 20 mi_X6_noStream 1 := ⟨mc_X6_noStream, TB_at 248 (by decide +kernel) rfl, TB_at 249 (by decide +kernel) rfl⟩
theorem ms_X6_24 : MS RX6 24 mi_X6_isStretch 1 := ⟨mc_X6_isStretch, TB_at 251 (by decide +kernel) rfl, TB_at 252 (by decide +kernel) rfl⟩
theorem mv_X6_30 : MV RX6 30 mi_X4_restart 4 4 := ⟨mc_X4_restart, TB_at 254 (by decide +kernel) rfl, TB_at 166 (by decide +kernel) rfl, TB_at 167 (by decide +kernel) rfl, TX4, 10, rfl⟩
theorem mv_X6_34 : MV RX6 34 mi_X6_noArc 6 3 := ⟨mc_X6_noArc, TB_at 259 (by decide +kernel) rfl, TB_at 261 (by decide +kernel) rfl, TB_at 0 (by decide +kernel) rfl, TX6, 2, rfl⟩
theorem mv_X6_38 : MV RX6 38 mi_X4_accept 4 2 := ⟨mc_X4_accept, TB_at 267 (by decide +kernel) rfl, TB_at 268 (by decide +kernel) rfl, TB_at 269 (by decide +kernel) rfl, TX4, 10, rfl⟩
theorem ms_X6_46 : MS RX6 46 mi_J9_min_7cf53 2 := ⟨mc_J9_min_7cf53, TB_at 366 (by decide +kernel) rfl, TB_at 272 (by decide +kernel) rfl⟩
theorem ms_X6_51 : MS RX6 51 mi_J9_max_7cf53 2 := ⟨mc_J9_max_7cf53, TB_at 367 (by decide +kernel) rfl, TB_at 275 (by decide +kernel) rfl⟩
theorem mv_X6_54 : MV RX6 54 mi_X3_change 3 3 := ⟨mc_X3_change, TB_at 368 (by decide +kernel) rfl, TB_at 343 (by decide +kernel) rfl, TB_at 344 (by decide +kernel) rfl, TX3, 3, rfl⟩
theorem mv_X6_60 : MV RX6 60 mi_X4_isApartFrom 4 1 := ⟨mc_X4_isApartFrom, TB_at 373 (by decide +kernel) rfl, TB_at 374 (by decide +kernel) rfl, TB_at 375 (by decide +kernel) rfl, TX4, 10, rfl⟩
theorem mv_X6_68 : MV RX6 68 mi_X0_putTogether 0 1 := ⟨mc_X0_putTogether, TB_at 377 (by decide +kernel) rfl, TB_at 378 (by decide +kernel) rfl, TB_at 379 (by decide +kernel) rfl, TX0, 6, rfl⟩
theorem mv_X6_74 : MV RX6 74 mi_X3_putTogether 3 1 := ⟨mc_X3_putTogether, TB_at 394 (by decide +kernel) rfl, TB_at 395 (by decide +kernel) rfl, TB_at 396 (by decide +kernel) rfl, TX3, 3, rfl⟩
theorem mv_X6_117 : MV RX6 117 mi_X6_noNode 6 2 := ⟨mc_X6_noNode, TB_at 263 (by decide +kernel) rfl, TB_at 265 (by decide +kernel) rfl, TB_at 1 (by decide +kernel) rfl, TX6, 2, rfl⟩
theorem mv_X6_125 : MV RX6 125 mi_X0_nodeAtPlace 0 2 := ⟨mc_X0_nodeAtPlace, TB_at 410 (by decide +kernel) rfl, TB_at 383 (by decide +kernel) rfl, TB_at 384 (by decide +kernel) rfl, TX0, 6, rfl⟩
theorem mv_X6_129 : MV RX6 129 mi_X1_arcsAfter 1 1 := ⟨mc_X1_arcsAfter, TB_at 415 (by decide +kernel) rfl, TB_at 416 (by decide +kernel) rfl, TB_at 417 (by decide +kernel) rfl, TX1, 4, rfl⟩
theorem mv_X6_133 : MV RX6 133 mi_X1_leastOfPart 1 2 := ⟨mc_X1_leastOfPart, TB_at 423 (by decide +kernel) rfl, TB_at 424 (by decide +kernel) rfl, TB_at 425 (by decide +kernel) rfl, TX1, 4, rfl⟩
theorem ms_X6_142 : MS RX6 142 mi_X6_lesserNode 1 := ⟨mc_X6_lesserNode, TB_at 431 (by decide +kernel) rfl, TB_at 303 (by decide +kernel) rfl⟩
theorem ms_X6_145 : MS RX6 145 mi_X6_greaterNode 1 := ⟨mc_X6_greaterNode, TB_at 432 (by decide +kernel) rfl, TB_at 310 (by decide +kernel) rfl⟩
theorem mv_X6_148 : MV RX6 148 mi_X1_oldestBetween 1 2 := ⟨mc_X1_oldestBetween, TB_at 437 (by decide +kernel) rfl, TB_at 291 (by decide +kernel) rfl, TB_at 292 (by decide +kernel) rfl, TX1, 4, rfl⟩
theorem mv_X6_151 : MV RX6 151 mi_X5_distance 5 3 := ⟨mc_X5_distance, TB_at 442 (by decide +kernel) rfl, TB_at 326 (by decide +kernel) rfl, TB_at 327 (by decide +kernel) rfl, TX5, 6, rfl⟩
theorem ms_X6_163 : MS RX6 163 mi_X3_placeOf 2 := ⟨mc_X3_placeOf, TB_at 455 (by decide +kernel) rfl, TB_at 356 (by decide +kernel) rfl⟩
theorem mv_X6_166 : MV RX6 166 mi_X3_keyOutOf 3 2 := ⟨mc_X3_keyOutOf, TB_at 460 (by decide +kernel) rfl, TB_at 461 (by decide +kernel) rfl, TB_at 462 (by decide +kernel) rfl, TX3, 3, rfl⟩
theorem mv_X6_170 : MV RX6 170 mi_X3_isNothing 3 1 := ⟨mc_X3_isNothing, TB_at 471 (by decide +kernel) rfl, TB_at 472 (by decide +kernel) rfl, TB_at 473 (by decide +kernel) rfl, TX3, 3, rfl⟩
theorem mv_X6_174 : MV RX6 174 mi_X3_isAlike 3 1 := ⟨mc_X3_isAlike, TB_at 483 (by decide +kernel) rfl, TB_at 484 (by decide +kernel) rfl, TB_at 485 (by decide +kernel) rfl, TX3, 3, rfl⟩
theorem ms_X7_64 : MS RX7 64 mi_X7_isStream 1 := ⟨mc_X7_isStream, TB_at 550 (by decide +kernel) rfl, TB_at 551 (by decide +kernel) rfl⟩
theorem mv_X7_68 : MV RX7 68 mi_X7_taken 7 1 := ⟨mc_X7_taken, TB_at 565 (by decide +kernel) rfl, TB_at 567 (by decide +kernel) rfl, TB_at 14 (by decide +kernel) rfl, TX7, 17, rfl⟩
theorem mv_X7_72 : MV RX7 72 mi_X7_less 7 2 := ⟨mc_X7_less, TB_at 569 (by decide +kernel) rfl, TB_at 571 (by decide +kernel) rfl, TB_at 15 (by decide +kernel) rfl, TX7, 17, rfl⟩
theorem mv_X7_76 : MV RX7 76 mi_X7_isNode 7 2 := ⟨mc_X7_isNode, TB_at 557 (by decide +kernel) rfl, TB_at 559 (by decide +kernel) rfl, TB_at 12 (by decide +kernel) rfl, TX7, 17, rfl⟩
theorem mv_X7_80 : MV RX7 80 mi_X7_count 7 2 := ⟨mc_X7_count, TB_at 561 (by decide +kernel) rfl, TB_at 563 (by decide +kernel) rfl, TB_at 13 (by decide +kernel) rfl, TX7, 17, rfl⟩
theorem mv_X7_83 : MV RX7 83 mi_X7_shortest 7 3 := ⟨mc_X7_shortest, TB_at 573 (by decide +kernel) rfl, TB_at 575 (by decide +kernel) rfl, TB_at 16 (by decide +kernel) rfl, TX7, 17, rfl⟩
theorem mv_X7_87 : MV RX7 87 mi_X7_change 7 4 := ⟨mc_X7_change, TB_at 577 (by decide +kernel) rfl, TB_at 579 (by decide +kernel) rfl, TB_at 17 (by decide +kernel) rfl, TX7, 17, rfl⟩
theorem mv_X7_99 : MV RX7 99 mi_X7_levelOf 7 2 := ⟨mc_X7_levelOf, TB_at 582 (by decide +kernel) rfl, TB_at 584 (by decide +kernel) rfl, TB_at 18 (by decide +kernel) rfl, TX7, 17, rfl⟩
theorem mv_X7_105 : MV RX7 105 mi_X7_isApart 7 2 := ⟨mc_X7_isApart, TB_at 598 (by decide +kernel) rfl, TB_at 600 (by decide +kernel) rfl, TB_at 19 (by decide +kernel) rfl, TX7, 17, rfl⟩
theorem mv_X7_109 : MV RX7 109 mi_X7_ranked 7 2 := ⟨mc_X7_ranked, TB_at 603 (by decide +kernel) rfl, TB_at 605 (by decide +kernel) rfl, TB_at 20 (by decide +kernel) rfl, TX7, 17, rfl⟩
theorem mv_X7_115 : MV RX7 115 mi_X7_join 7 2 := ⟨mc_X7_join, TB_at 612 (by decide +kernel) rfl, TB_at 614 (by decide +kernel) rfl, TB_at 21 (by decide +kernel) rfl, TX7, 17, rfl⟩
theorem mv_X7_118 : MV RX7 118 mi_X7_pairs 7 1 := ⟨mc_X7_pairs, TB_at 620 (by decide +kernel) rfl, TB_at 622 (by decide +kernel) rfl, TB_at 23 (by decide +kernel) rfl, TX7, 17, rfl⟩
theorem mv_X7_121 : MV RX7 121 mi_X7_unite 7 2 := ⟨mc_X7_unite, TB_at 616 (by decide +kernel) rfl, TB_at 618 (by decide +kernel) rfl, TB_at 22 (by decide +kernel) rfl, TX7, 17, rfl⟩
theorem mv_X7_124 : MV RX7 124 mi_X7_ofSet 7 4 := ⟨mc_X7_ofSet, TB_at 668 (by decide +kernel) rfl, TB_at 670 (by decide +kernel) rfl, TB_at 24 (by decide +kernel) rfl, TX7, 17, rfl⟩
theorem mv_X7_130 : MV RX7 130 mi_X7_leads 7 4 := ⟨mc_X7_leads, TB_at 673 (by decide +kernel) rfl, TB_at 675 (by decide +kernel) rfl, TB_at 25 (by decide +kernel) rfl, TX7, 17, rfl⟩
theorem mv_L_15 : MV RL 15 mi_X6_begin 6 5 := ⟨mc_X6_begin, TB_at 244 (by decide +kernel) rfl, TB_at 245 (by decide +kernel) rfl, TB_at 246 (by decide +kernel) rfl, TX6, 2, rfl⟩
theorem mv_L_19 : MV RL 19 mi_X7_begin 7 5 := ⟨mc_X7_begin, TB_at 546 (by decide +kernel) rfl, TB_at 547 (by decide +kernel) rfl, TB_at 548 (by decide +kernel) rfl, TX7, 17, rfl⟩
theorem mv_L_20 : MV RL 20 mi_X6_add 6 3 := ⟨mc_X6_add, TB_at 255 (by decide +kernel) rfl, TB_at 256 (by decide +kernel) rfl, TB_at 257 (by decide +kernel) rfl, TX6, 2, rfl⟩
theorem mv_L_24 : MV RL 24 mi_X7_add 7 3 := ⟨mc_X7_add, TB_at 553 (by decide +kernel) rfl, TB_at 554 (by decide +kernel) rfl, TB_at 555 (by decide +kernel) rfl, TX7, 17, rfl⟩
theorem mv_L_25 : MV RL 25 mi_X6_take 6 3 := ⟨mc_X6_take, TB_at 362 (by decide +kernel) rfl, TB_at 363 (by decide +kernel) rfl, TB_at 364 (by decide +kernel) rfl, TX6, 2, rfl⟩
theorem mv_L_28 : MV RL 28 mi_X7_take 7 3 := ⟨mc_X7_take, TB_at 589 (by decide +kernel) rfl, TB_at 590 (by decide +kernel) rfl, TB_at 591 (by decide +kernel) rfl, TX7, 17, rfl⟩
theorem mv_L_29 : MV RL 29 mi_X6_merge 6 2 := ⟨mc_X6_merge, TB_at 369 (by decide +kernel) rfl, TB_at 370 (by decide +kernel) rfl, TB_at 371 (by decide +kernel) rfl, TX6, 2, rfl⟩
theorem mv_L_33 : MV RL 33 mi_X7_merge 7 2 := ⟨mc_X7_merge, TB_at 594 (by decide +kernel) rfl, TB_at 595 (by decide +kernel) rfl, TB_at 596 (by decide +kernel) rfl, TX7, 17, rfl⟩
theorem mv_L_34 : MV RL 34 mi_X6_told 6 2 := ⟨mc_X6_told, TB_at 398 (by decide +kernel) rfl, TB_at 399 (by decide +kernel) rfl, TB_at 400 (by decide +kernel) rfl, TX6, 2, rfl⟩
theorem mv_L_37 : MV RL 37 mi_X7_told 7 2 := ⟨mc_X7_told, TB_at 608 (by decide +kernel) rfl, TB_at 609 (by decide +kernel) rfl, TB_at 610 (by decide +kernel) rfl, TX7, 17, rfl⟩
theorem mv_L_38 : MV RL 38 mi_X6_span 6 3 := ⟨mc_X6_span, TB_at 402 (by decide +kernel) rfl, TB_at 403 (by decide +kernel) rfl, TB_at 404 (by decide +kernel) rfl, TX6, 2, rfl⟩
theorem mv_L_41 : MV RL 41 mi_X7_span 7 3 := ⟨mc_X7_span, TB_at 624 (by decide +kernel) rfl, TB_at 625 (by decide +kernel) rfl, TB_at 626 (by decide +kernel) rfl, TX7, 17, rfl⟩
theorem mv_L_42 : MV RL 42 mi_X6_slot 6 3 := ⟨mc_X6_slot, TB_at 406 (by decide +kernel) rfl, TB_at 407 (by decide +kernel) rfl, TB_at 408 (by decide +kernel) rfl, TX6, 2, rfl⟩
theorem mv_L_45 : MV RL 45 mi_X7_slot 7 3 := ⟨mc_X7_slot, TB_at 628 (by decide +kernel) rfl, TB_at 629 (by decide +kernel) rfl, TB_at 630 (by decide +kernel) rfl, TX7, 17, rfl⟩
theorem mv_L_46 : MV RL 46 mi_X6_parts 6 2 := ⟨mc_X6_parts, TB_at 411 (by decide +kernel) rfl, TB_at 412 (by decide +kernel) rfl, TB_at 413 (by decide +kernel) rfl, TX6, 2, rfl⟩
theorem mv_L_49 : MV RL 49 mi_X7_parts 7 2 := ⟨mc_X7_parts, TB_at 632 (by decide +kernel) rfl, TB_at 633 (by decide +kernel) rfl, TB_at 634 (by decide +kernel) rfl, TX7, 17, rfl⟩
theorem mv_L_50 : MV RL 50 mi_X6_part 6 3 := ⟨mc_X6_part, TB_at 419 (by decide +kernel) rfl, TB_at 420 (by decide +kernel) rfl, TB_at 421 (by decide +kernel) rfl, TX6, 2, rfl⟩
theorem mv_L_53 : MV RL 53 mi_X7_part 7 3 := ⟨mc_X7_part, TB_at 636 (by decide +kernel) rfl, TB_at 637 (by decide +kernel) rfl, TB_at 638 (by decide +kernel) rfl, TX7, 17, rfl⟩
theorem mv_L_54 : MV RL 54 mi_X6_tree 6 3 := ⟨mc_X6_tree, TB_at 427 (by decide +kernel) rfl, TB_at 428 (by decide +kernel) rfl, TB_at 429 (by decide +kernel) rfl, TX6, 2, rfl⟩
theorem mv_L_57 : MV RL 57 mi_X7_tree 7 3 := ⟨mc_X7_tree, TB_at 640 (by decide +kernel) rfl, TB_at 641 (by decide +kernel) rfl, TB_at 642 (by decide +kernel) rfl, TX7, 17, rfl⟩
theorem mv_L_58 : MV RL 58 mi_X6_since 6 3 := ⟨mc_X6_since, TB_at 433 (by decide +kernel) rfl, TB_at 434 (by decide +kernel) rfl, TB_at 435 (by decide +kernel) rfl, TX6, 2, rfl⟩
theorem mv_L_61 : MV RL 61 mi_X7_since 7 3 := ⟨mc_X7_since, TB_at 644 (by decide +kernel) rfl, TB_at 645 (by decide +kernel) rfl, TB_at 646 (by decide +kernel) rfl, TX7, 17, rfl⟩
theorem mv_L_62 : MV RL 62 mi_X6_far 6 3 := ⟨mc_X6_far, TB_at 438 (by decide +kernel) rfl, TB_at 439 (by decide +kernel) rfl, TB_at 440 (by decide +kernel) rfl, TX6, 2, rfl⟩
theorem mv_L_65 : MV RL 65 mi_X7_far 7 3 := ⟨mc_X7_far, TB_at 648 (by decide +kernel) rfl, TB_at 649 (by decide +kernel) rfl, TB_at 650 (by decide +kernel) rfl, TX7, 17, rfl⟩
theorem mv_L_66 : MV RL 66 mi_X6_kept 6 3 := ⟨mc_X6_kept, TB_at 443 (by decide +kernel) rfl, TB_at 444 (by decide +kernel) rfl, TB_at 445 (by decide +kernel) rfl, TX6, 2, rfl⟩
theorem mv_L_69 : MV RL 69 mi_X7_kept 7 3 := ⟨mc_X7_kept, TB_at 652 (by decide +kernel) rfl, TB_at 653 (by decide +kernel) rfl, TB_at 654 (by decide +kernel) rfl, TX7, 17, rfl⟩
theorem mv_L_70 : MV RL 70 mi_X6_mate 6 2 := ⟨mc_X6_mate, TB_at 447 (by decide +kernel) rfl, TB_at 448 (by decide +kernel) rfl, TB_at 449 (by decide +kernel) rfl, TX6, 2, rfl⟩
theorem mv_L_73 : MV RL 73 mi_X7_mate 7 2 := ⟨mc_X7_mate, TB_at 656 (by decide +kernel) rfl, TB_at 657 (by decide +kernel) rfl, TB_at 658 (by decide +kernel) rfl, TX7, 17, rfl⟩
theorem mv_L_74 : MV RL 74 mi_X6_sum 6 4 := ⟨mc_X6_sum, TB_at 451 (by decide +kernel) rfl, TB_at 452 (by decide +kernel) rfl, TB_at 453 (by decide +kernel) rfl, TX6, 2, rfl⟩
theorem mv_L_78 : MV RL 78 mi_X7_sum 7 4 := ⟨mc_X7_sum, TB_at 660 (by decide +kernel) rfl, TB_at 661 (by decide +kernel) rfl, TB_at 662 (by decide +kernel) rfl, TX7, 17, rfl⟩
theorem mv_L_79 : MV RL 79 mi_X6_out 6 2 := ⟨mc_X6_out, TB_at 456 (by decide +kernel) rfl, TB_at 457 (by decide +kernel) rfl, TB_at 458 (by decide +kernel) rfl, TX6, 2, rfl⟩
theorem mv_L_83 : MV RL 83 mi_X7_out 7 2 := ⟨mc_X7_out, TB_at 664 (by decide +kernel) rfl, TB_at 665 (by decide +kernel) rfl, TB_at 666 (by decide +kernel) rfl, TX7, 17, rfl⟩
theorem mv_L_84 : MV RL 84 mi_X6_level 6 0 := ⟨mc_X6_level, TB_at 475 (by decide +kernel) rfl, TB_at 476 (by decide +kernel) rfl, TB_at 477 (by decide +kernel) rfl, TX6, 2, rfl⟩
theorem mv_L_88 : MV RL 88 mi_X7_level 7 0 := ⟨mc_X7_level, TB_at 677 (by decide +kernel) rfl, TB_at 678 (by decide +kernel) rfl, TB_at 679 (by decide +kernel) rfl, TX7, 17, rfl⟩
theorem mv_L_89 : MV RL 89 mi_X6_same 6 2 := ⟨mc_X6_same, TB_at 479 (by decide +kernel) rfl, TB_at 480 (by decide +kernel) rfl, TB_at 481 (by decide +kernel) rfl, TX6, 2, rfl⟩
theorem mv_L_92 : MV RL 92 mi_X7_same 7 2 := ⟨mc_X7_same, TB_at 681 (by decide +kernel) rfl, TB_at 682 (by decide +kernel) rfl, TB_at 683 (by decide +kernel) rfl, TX7, 17, rfl⟩
theorem cn_X0_41 : Cond.constantLong RX0 41 (1000000000) ∈ TB := TB_at 381 (by decide +kernel) rfl
theorem cn_X3_48 : Cond.constantLong RX3 48 (-1) ∈ TB := TB_at 468 (by decide +kernel) rfl
theorem cn_X3_61 : Cond.constantLong RX3 61 (-7046029254386353131) ∈ TB := TB_at 351 (by decide +kernel) rfl
theorem cn_X3_63 : Cond.constantLong RX3 63 (-4658895280553007687) ∈ TB := TB_at 352 (by decide +kernel) rfl
theorem cn_X3_65 : Cond.constantLong RX3 65 (-7723592293110705685) ∈ TB := TB_at 353 (by decide +kernel) rfl
theorem cn_X5_54 : Cond.constantLong RX5 54 (-1) ∈ TB := TB_at 336 (by decide +kernel) rfl
theorem cn_L_13 : Cond.constantLong RL 13 (4294967295) ∈ TB := TB_at 685 (by decide +kernel) rfl
theorem cn_X7_91 : Cond.constantLong RX7 91 (-7046029254386353131) ∈ TB := TB_at 586 (by decide +kernel) rfl
theorem cn_X7_93 : Cond.constantLong RX7 93 (-4658895280553007687) ∈ TB := TB_at 587 (by decide +kernel) rfl
theorem cn_X7_95 : Cond.constantLong RX7 95 (-7723592293110705685) ∈ TB := TB_at 588 (by decide +kernel) rfl
theorem cn_X7_97 : Cond.constantLong RX7 97 (64) ∈ TB := TB_at 581 (by decide +kernel) rfl
theorem cn_X7_103 : Cond.constantLong RX7 103 (-1) ∈ TB := TB_at 593 (by decide +kernel) rfl
theorem cn_X7_108 : Cond.constant RX7 108 (1000000000) ∈ TB := TB_at 602 (by decide +kernel) rfl
theorem cn_X7_113 : Cond.constantLong RX7 113 (1000000000) ∈ TB := TB_at 607 (by decide +kernel) rfl
theorem cn_X7_128 : Cond.constantLong RX7 128 (4096) ∈ TB := TB_at 672 (by decide +kernel) rfl
