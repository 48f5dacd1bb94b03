/-! the law: its loop, its start -/
theorem INV.up {D : DD} {ad : Nat → Nat} {N : Nat} {cs : List va_E} (h : INV D ad N cs) : INV D ad (N + 1) cs := by
  obtain ⟨lev, Ps, R, le, jo, wy, e, h⟩ := h
  refine ⟨lev, Ps, R, le, jo, wy, e, fun i hi => ?_⟩
  obtain ⟨g, u, v, p, hR⟩ := h i hi
  exact ⟨g, u, v, p, hR.mono (Nat.le_succ N)⟩
theorem sub7 {L : Nat} (hL : L ≤ 3584) : (nI L - 7).toInt = (L : Int) - 7 := by
  rw [Int32.toInt_sub, nI_toInt (by omega), show (7 : Int32).toInt = 7 from rfl]
  simp only [Int.bmod]
  split <;> omega
section
variable {D : DD} {X : MX} {A : Nat → Prop} {b L : Nat} {xs : Nat → Int32} {kc ks : Nat} {Q : State → Prop} {ad : Nat → Nat} {pc k N : Nat} {st : List Value} {cs : List va_E}
theorem law_step (B : LX D X A b L xs) (hc : kc ≤ 600000 ∧ ks ≤ 7302250) (hN : N ≤ 511) (hI : INV D ad N cs) (hk : k + 7 ≤ L) (K : ∀ c2, INV D ad (N + 1) c2 → G D X A kc ks Q ad 897 (LV b ad k) [] c2) : G D X A kc ks Q ad 27 (LV b ad k) [] cs := by
  have M := B.1
  refine G_aload_n (pc := 27) M dL_law_27 rfl ?_
  refine G_iload_n (pc := 28) M dL_law_28 rfl ?_
  refine G_sld (pc := 29) M B.2.1 B.2.2.1 B.2.2.2.1 dL_law_29 rfl (by omega) B.2.2.2.2 ?_
  refine G_bipush (pc := 30) (v := 31) M dL_law_30 (by decide +kernel) ?_
  refine G_iand (pc := 32) M dL_law_32 ?_
  generalize xs k &&& 31 = x
  by_cases h : x.toInt < 0 ∨ 17 < x.toInt
  · exact G_tableOut (pc := 33) M 897 dL_law_33 h (by decide) (K cs hI.up)
  · have h1 : ¬ x.toInt < 0 := fun q => h (.inl q)
    have h2 : ¬ 17 < x.toInt := fun q => h (.inr q)
    rcases (show x.toInt = 0 ∨ x.toInt = 1 ∨ x.toInt = 2 ∨ x.toInt = 3 ∨ x.toInt = 4 ∨ x.toInt = 5 ∨ x.toInt = 6 ∨ x.toInt = 7 ∨ x.toInt = 8 ∨ x.toInt = 9 ∨ x.toInt = 10 ∨ x.toInt = 11 ∨ x.toInt = 12 ∨ x.toInt = 13 ∨ x.toInt = 14 ∨ x.toInt = 15 ∨ x.toInt = 16 ∨ x.toInt = 17 by omega) with e | e | e | e | e | e | e | e | e | e | e | e | e | e | e | e | e | e
    · exact G_tableIn (pc := 33) (off := 87) M 120 dL_law_33 h1 h2 (by rw [e]; rfl) (by decide) (law_begin B hN hI hk hc K)
    · exact G_tableIn (pc := 33) (off := 182) M 215 dL_law_33 h1 h2 (by rw [e]; rfl) (by decide) (law_add B hN hI hk hc K)
    · exact G_tableIn (pc := 33) (off := 225) M 258 dL_law_33 h1 h2 (by rw [e]; rfl) (by decide) (law_take B hN hI hk hc K)
    · exact G_tableIn (pc := 33) (off := 268) M 301 dL_law_33 h1 h2 (by rw [e]; rfl) (by decide) (law_merge B hN hI hk hc K)
    · exact G_tableIn (pc := 33) (off := 301) M 334 dL_law_33 h1 h2 (by rw [e]; rfl) (by decide) (law_told B hN hI hk hc K)
    · exact G_tableIn (pc := 33) (off := 334) M 367 dL_law_33 h1 h2 (by rw [e]; rfl) (by decide) (law_span B hN hI hk hc K)
    · exact G_tableIn (pc := 33) (off := 377) M 410 dL_law_33 h1 h2 (by rw [e]; rfl) (by decide) (law_slot B hN hI hk hc K)
    · exact G_tableIn (pc := 33) (off := 420) M 453 dL_law_33 h1 h2 (by rw [e]; rfl) (by decide) (law_parts B hN hI hk hc K)
    · exact G_tableIn (pc := 33) (off := 453) M 486 dL_law_33 h1 h2 (by rw [e]; rfl) (by decide) (law_part B hN hI hk hc K)
    · exact G_tableIn (pc := 33) (off := 496) M 529 dL_law_33 h1 h2 (by rw [e]; rfl) (by decide) (law_tree B hN hI hk hc K)
    · exact G_tableIn (pc := 33) (off := 539) M 572 dL_law_33 h1 h2 (by rw [e]; rfl) (by decide) (law_since B hN hI hk hc K)
    · exact G_tableIn (pc := 33) (off := 582) M 615 dL_law_33 h1 h2 (by rw [e]; rfl) (by decide) (law_far B hN hI hk hc K)
    · exact G_tableIn (pc := 33) (off := 625) M 658 dL_law_33 h1 h2 (by rw [e]; rfl) (by decide) (law_kept B hN hI hk hc K)
    · exact G_tableIn (pc := 33) (off := 668) M 701 dL_law_33 h1 h2 (by rw [e]; rfl) (by decide) (law_mate B hN hI hk hc K)
    · exact G_tableIn (pc := 33) (off := 701) M 734 dL_law_33 h1 h2 (by rw [e]; rfl) (by decide) (law_sum B hN hI hk hc K)
    · exact G_tableIn (pc := 33) (off := 755) M 788 dL_law_33 h1 h2 (by rw [e]; rfl) (by decide) (law_out B hN hI hk hc K)
    · exact G_tableIn (pc := 33) (off := 818) M 851 dL_law_33 h1 h2 (by rw [e]; rfl) (by decide) (law_level B hN hI hk hc K)
    · exact G_tableIn (pc := 33) (off := 831) M 864 dL_law_33 h1 h2 (by rw [e]; rfl) (by decide) (law_same B hN hI hk hc K)
theorem LV_7 (n : Nat) : lset (LV b ad (7 * n)) 3 (.int (nI (7 * n) + 7)) = LV b ad (7 * (n + 1)) := by
  show ([some (.ref b), some (.ref (ad 0)), some (.ref (ad 50)), some (.int (nI (7 * n) + nI 7))] : List (Option Value)) = _
  rw [nI_add]
  rfl
theorem law_loop (B : LX D X A b L xs) (hc : kc ≤ 600000 ∧ ks ≤ 7302250) (E : ∀ k cs, G D X A kc ks Q ad 903 (LV b ad k) [] cs) : ∀ (f n : Nat) (cs : List va_E), 7 * n ≤ L → L < 7 * n + f → INV D ad n cs → G D X A kc ks Q ad 18 (LV b ad (7 * n)) [] cs := by
  have M := B.1
  have hL := B.2.2.2.2
  intro f
  induction f with
  | zero => intro n cs h1 h2; omega
  | succ f ih =>
    intro n cs h1 h2 hI
    refine G_iload_n (pc := 18) M dL_law_18 rfl ?_
    refine G_aload_n (pc := 19) M dL_law_19 rfl ?_
    refine G_slen (pc := 20) M B.2.1 B.2.2.1 B.2.2.2.1 dL_law_20 ?_
    refine G_bipush (pc := 21) (v := 7) M dL_law_21 (by decide +kernel) ?_
    refine G_isub (pc := 23) M dL_law_23 ?_
    refine G_icmp_gt (pc := 24) M 903 dL_law_24 (by decide) (fun h => E _ _) (fun h => ?_)
    have h3 : 7 * n + 7 ≤ L := by
      rw [Int32.lt_iff_toInt_lt, sub7 hL, nI_toInt (by omega)] at h
      omega
    refine law_step B hc (by omega) hI h3 (fun c2 h4 => ?_)
    refine G_iinc (pc := 897) (v := 7) M dL_law_897 rfl (by decide +kernel) (Nat.le_of_ble_eq_true rfl) ?_
    rw [LV_7]
    exact G_goto (pc := 900) M 18 dL_law_900 (by decide) (ih (n + 1) c2 (by omega) (by omega) h4)
end
/-! the start -/
def P0 : SP := (2, 1, 1, 0, 0, 0, 0, fun _ => 0, fun _ => 0, 0, fun _ => 0, fun _ => 0, fun _ => 0, 0, fun _ => 0, fun _ => 0, fun _ => 0, 0, fun _ => -2, fun _ => 0)
def R0 : RS := (n3 2, n3 1, n3 1, fun _ => 0, fun _ => 0, fun _ => 0, fun _ => 0, fun _ => 0, fun _ => 0, fun _ => 0, fun _ => 0, fun _ => 0, fun _ => 0)
theorem n3_at (v : Int32) {i : Nat} (hi : i < 3) : n3 v i = v := by
  rcases (show i = 0 ∨ i = 1 ∨ i = 2 by omega) with rfl | rfl | rfl <;> rfl
theorem RX_0 {i : Nat} (hi : i < 3) : RX 0 i P0 0 (fun _ => 0) (fun _ => 0) (fun _ => 0) R0 := by
  have h : RX 0 i (bgP P0 2 1 1 0) 0 (fun _ => 0) (fun _ => 0) (fun _ => 0) (bgR R0 i (nI 2) (nI 1) (nI 1) 0) := RX.begin P0 R0 0 i ⟨by decide, by decide⟩ (by decide) (by decide) 0 _ _ _
  refine RX.frame (P := P0) (R := bgR R0 i (nI 2) (nI 1) (nI 1) 0) h (Nat.zero_le _) ?_ ?_ ?_ ?_ ?_ ?_ (fun _ _ => rfl) (fun _ _ => rfl) (fun a ha => ?_) (fun a ha => ?_) (fun a ha => ?_) (fun _ _ => rfl) ?_
  · show n3 2 i = upd (n3 2) i (nI 2) i
    rw [up_at, n3_at _ hi]; rfl
  · show n3 1 i = upd (n3 1) i (nI 1) i
    rw [up_at, n3_at _ hi]; rfl
  · show n3 1 i = upd (n3 1) i (nI 1) i
    rw [up_at, n3_at _ hi]; rfl
  · show (0 : Int64) = vp_updL (fun _ => 0) i 0 i
    simp [vp_updL]
  · show (0 : Int32) = upd (fun _ => 0) i 0 i
    rw [up_at]
  · show (0 : Int32) = upd (fun _ => 0) i 0 i
    rw [up_at]
  · show (0 : Int32) = zI (fun _ => 0) (64 * i) 64 (64 * i + a)
    simp [zI]
  · show (0 : Int32) = zI (fun _ => 0) (64 * i) 64 (64 * i + a)
    simp [zI]
  · show (0 : Int64) = zL (fun _ => 0) (1920 * i) 1920 (1920 * i + a)
    simp [zL]
  · show (0 : Int32) = upd (fun _ => 0) i 0 i
    rw [up_at]
theorem start_world {D : DD} {L1 N2 : List Nat} {q1 : Nat} (h1 : L1.length = 50) : sc0 D (pn L1) ++ rfW D (pn (q1 :: N2)) (n3 2) (n3 1) (n3 1) (fun _ => 0) (fun _ => 0) (fun _ => 0) (fun _ => 0) (fun _ => 0) (fun _ => 0) (fun _ => 0) (fun _ => 0) (fun _ => 0) (fun _ => 0) (-2) (fun _ => 0) (fun _ => 0) (fun _ => 0) = world D (pn (L1 ++ q1 :: N2)) (-2) (fun _ => P0) R0 (-2) (fun _ => 0) (fun _ => 0) (fun _ => 0) := by
  have e1 : ∀ k, k < 50 → pn (L1 ++ q1 :: N2) k = pn L1 k := fun k hk => pn_l _ _ _ (by omega)
  have e2 : ∀ k, pn (q1 :: N2) k = pn (L1 ++ q1 :: N2) (k + 50) := fun k => by rw [← pn_r L1 (q1 :: N2) k, h1, Nat.add_comm]
  generalize pn (L1 ++ q1 :: N2) = ad at e1 e2 ⊢
  have e3 : pn (q1 :: N2) = fun k => ad (k + 50) := funext e2
  rw [e3]
  obtain ⟨F, hF⟩ : ∃ F : Nat → Nat, pn L1 = fun k => if k < 50 then ad k else F k := ⟨pn L1, funext fun k => by
    show pn L1 k = if k < 50 then ad k else pn L1 k
    by_cases hk : k < 50
    · rw [if_pos hk]; exact (e1 k hk).symm
    · rw [if_neg hk]⟩
  rw [hF]
  rfl
theorem start_INV {D : DD} {L1 N2 : List Nat} {q1 : Nat} (h1 : L1.length = 50) : INV D (pn (L1 ++ q1 :: N2)) 0 (sc0 D (pn L1) ++ rfW D (pn (q1 :: N2)) (n3 2) (n3 1) (n3 1) (fun _ => 0) (fun _ => 0) (fun _ => 0) (fun _ => 0) (fun _ => 0) (fun _ => 0) (fun _ => 0) (fun _ => 0) (fun _ => 0) (fun _ => 0) (-2) (fun _ => 0) (fun _ => 0) (fun _ => 0)) :=
  ⟨-2, fun _ => P0, R0, fun _ => 0, fun _ => 0, fun _ => 0, start_world h1, fun i hi => ⟨0, _, _, _, RX_0 hi⟩⟩
theorem law_body {D : DD} {X : MX} {A : Nat → Prop} {b L : Nat} {xs : Nat → Int32} {Q : State → Prop} (B : LX D X A b L xs) (hE : va_AO "StreamCounts$Stream" X.2.2.2.2.1) (E : ∀ ad k cs, G D X A 67 58584 Q ad 903 (LV b ad k) [] cs) : G D X A 0 0 Q (pn []) 0 [some (.ref b), none, none, none] [] [] := by
  have M := B.1
  refine G_new (pc := 0) (L := []) (cs := []) M dL_law_0 nw_L_7 rfl (Nat.le_of_ble_eq_true rfl) (Nat.le_of_ble_eq_true rfl) (fun q0 => ?_)
  refine G_dup (pc := 3) M dL_law_3 rfl ?_
  refine G_initP (pc := 4) (L := []) (cs := []) M dL_law_4 kp_L_9 (i_X6 D X.2.1) (fun U V h hu => hu.moved h) hE rfl rfl (Nat.le_of_ble_eq_true rfl) (Nat.le_of_ble_eq_true rfl) (Nat.le_of_ble_eq_true rfl) (Nat.le_of_ble_eq_true rfl) (Nat.le_of_ble_eq_true rfl) (fun N hn => ?_)
  have hn1 : (q0 :: N).length = 50 := Eq.trans hn rfl
  clear hn
  refine G_astore_n (pc := 7) M dL_law_7 (Nat.le_of_ble_eq_true rfl) ?_
  refine G_new (pc := 8) (L := q0 :: N) (cs := sc0 D (pn (q0 :: N))) M dL_law_8 nw_L_10 (hn1.trans rfl) (Nat.le_of_ble_eq_true rfl) (Nat.le_of_ble_eq_true rfl) (fun q1 => ?_)
  refine G_dup (pc := 11) M dL_law_11 rfl ?_
  refine G_initP (pc := 12) (L := q0 :: N) (cs := sc0 D (pn (q0 :: N))) M dL_law_12 kp_L_12 (i_X7 D X.2.1) (fun U V h hu => trivial) trivial (hn1.trans rfl) rfl (Nat.le_of_ble_eq_true rfl) (Nat.le_of_ble_eq_true rfl) (Nat.le_of_ble_eq_true rfl) (Nat.le_of_ble_eq_true rfl) (Nat.le_of_ble_eq_true rfl) (fun N2 hn => ?_)
  refine G_astore_n (pc := 15) M dL_law_15 (Nat.le_of_ble_eq_true rfl) ?_
  refine G_iconst (pc := 16) (v := 0) M dL_law_16 (by decide +kernel) ?_
  refine G_istore_n (pc := 17) M dL_law_17 (Nat.le_of_ble_eq_true rfl) ?_
  have h0 : pn ((q0 :: N) ++ q1 :: N2) 0 = q0 := rfl
  have h50 : pn ((q0 :: N) ++ q1 :: N2) 50 = q1 := by
    have := pn_r (q0 :: N) (q1 :: N2) 0
    rw [hn1] at this
    exact this
  have hLV : ([some (.ref b), some (.ref q0), some (.ref q1), some (.int 0)] : List (Option Value)) = LV b (pn ((q0 :: N) ++ q1 :: N2)) (7 * 0) := by
    show _ = ([some (.ref b), some (.ref (pn ((q0 :: N) ++ q1 :: N2) 0)), some (.ref (pn ((q0 :: N) ++ q1 :: N2) 50)), some (.int (nI (7 * 0)))] : List (Option Value))
    rw [h0, h50]; rfl
  have := law_loop (Q := Q) (ad := pn ((q0 :: N) ++ q1 :: N2)) B (kc := 67) (ks := 58584) ⟨by decide, by decide⟩ (fun k cs => E _ k cs) (L + 1) 0 _ (Nat.zero_le _) (by omega) (start_INV hn1)
  rw [← hLV] at this
  exact this
/-- the classes' ids -/
theorem law_arr {s : State} {a : Array Value} {ty : FieldType} (h : (Cond.arrayClass ty).before a s = true) (hty : ∀ c, s.vm.findClass ("[" ++ ty.toString) = some c → va_RA s c ty) : ∃ cA, ArrOfT s cA ty ∧ va_RA s cA ty := by
  obtain ⟨c, k, comp, h1, h2, h3⟩ := Cond.arrayClass_spec h
  exact ⟨c, fun n z => ⟨fun k h => (by cases h), k, h2, comp, h3⟩, hty c h1⟩
theorem law_D {s : State} {a : Array Value} (hts : ∀ w ∈ TB, w.before a s = true) (hE : va_AO "StreamCounts$Stream" s) : ∃ D : DD, va_K D.1 vcl (tysO D) s := by
  obtain ⟨c0, i0, k0⟩ := u_known (C := RX0) (T := TX0) (N := 6) (n := 6) hts inT0 (hts _ (TB_at 54 (by decide +kernel) rfl))
  obtain ⟨c1, i1, k1⟩ := u_known (C := RX1) (T := TX1) (N := 4) (n := 4) hts inT1 (hts _ (TB_at 83 (by decide +kernel) rfl))
  obtain ⟨c2, i2, k2⟩ := u_known (C := RX2) (T := TX2) (N := 2) (n := 2) hts inT2 (hts _ (TB_at 134 (by decide +kernel) rfl))
  obtain ⟨c3, i3, k3⟩ := u_known (C := RX3) (T := TX3) (N := 3) (n := 3) hts inT3 (hts _ (TB_at 149 (by decide +kernel) rfl))
  obtain ⟨c4, i4, k4⟩ := u_known (C := RX4) (T := TX4) (N := 10) (n := 10) hts inT4 (hts _ (TB_at 48 (by decide +kernel) rfl))
  obtain ⟨c5, i5, k5⟩ := u_known (C := RX5) (T := TX5) (N := 6) (n := 6) hts inT5 (hts _ (TB_at 105 (by decide +kernel) rfl))
  obtain ⟨c6, i6, k6⟩ := u_known (C := RX6) (T := TX6) (N := 2) (n := 2) hts inT6 (hts _ (TB_at 39 (by decide +kernel) rfl))
  obtain ⟨c7, i7, k7⟩ := u_known (C := RX7) (T := TX7) (N := 17) (n := 17) hts inT7 (hts _ (TB_at 488 (by decide +kernel) rfl))
  obtain ⟨a0, hA0⟩ := law_arr (hts _ tb_ai) (fun c h => h)
  obtain ⟨a1, hA1⟩ := law_arr (hts _ tb_al) (fun c h => h)
  obtain ⟨a2, hA2⟩ := law_arr (hts _ tb_ab) (fun c h => h)
  obtain ⟨comp, a3, kk, f1, f2, f3, f4, f5⟩ := Cond.arrayOver_spec hE
  have hA3 : ArrOfT s a3 (.object "StreamCounts$Stream") ∧ va_RA s a3 (.object "StreamCounts$Stream") := ⟨fun n z => ⟨fun k h => (by cases h), kk, f3, comp, f4⟩, kk, comp, f3, f4, f1, f5⟩
  refine ⟨((fun k => match k with | 0 => c0 | 1 => c1 | 2 => c2 | 3 => c3 | 4 => c4 | 5 => c5 | 6 => c6 | _ => c7, fun k => match k with | 0 => i0 | 1 => i1 | 2 => i2 | 3 => i3 | 4 => i4 | 5 => i5 | 6 => i6 | _ => i7), fun k => match k with | 0 => a0 | 1 => a1 | 2 => a2 | _ => a3), ?_, ?_⟩
  · intro k q hq
    match k, hq with
    | 0, hq => cases hq; exact k0
    | 1, hq => cases hq; exact k1
    | 2, hq => cases hq; exact k2
    | 3, hq => cases hq; exact k3
    | 4, hq => cases hq; exact k4
    | 5, hq => cases hq; exact k5
    | 6, hq => cases hq; exact k6
    | 7, hq => cases hq; exact k7
    | k + 8, hq => simp [vcl] at hq
  · intro k q hq
    match k, hq with
    | 0, hq => cases hq; exact hA0
    | 1, hq => cases hq; exact hA1
    | 2, hq => cases hq; exact hA2
    | 3, hq => cases hq; exact hA3
    | k + 4, hq => simp [tysO] at hq
theorem nst_in : ∀ q ∈ nst, Cond.methodLinkNest q.1 q.2.1 q.2.2.1 q.2.2.2 ∈ lw_tbl := by decide +kernel
theorem law_NL {s : State} {a : Array Value} (hts : ∀ w ∈ lw_tbl, w.before a s = true) : NL s := fun q hq => va_Nw.of rfl (hts _ (nst_in q hq))
theorem ao_in : Cond.arrayOver (.object "StreamCounts$Stream") ∈ lw_tbl := by decide +kernel
