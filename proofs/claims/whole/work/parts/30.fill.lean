/-! Arrays.fill; Matching -/
theorem fill_loop {D : DD} {X : MX} {A : Nat → Prop} (M : CX D X A mi_J7_fill_53178.1.cls mi_J7_fill_53178.2.1 mi_J7_fill_53178.2.2.1 (miR mi_J7_fill_53178)) (hr : RT X mi_J7_fill_53178.2.2.2.1) {ad : Nat → Nat} {n : Nat} {f : Nat → Int32} {x : Int32} (hn : n < 2 ^ 31) : ∀ m k : Nat, k ≤ n → n - k < m →
    G D X A 0 0 (GQ D X A ad 1 (fun v c => v = none ∧ c = [ia D n (fun _ => x)])) ad 5 [some (.ref (ad 0)), some (.int x), some (.int (nI k)), some (.int (nI n))] [] [ia D n (fun j => if j < k then x else f j)] := by
  intro m
  induction m with
  | zero => intro k _ h; omega
  | succ m ih =>
    intro k hk hm
    refine G_iload_n (pc := 5) M dJ7_fill_53178_5 rfl ?_
    refine G_iload_n (pc := 6) M dJ7_fill_53178_6 rfl ?_
    refine G_icmp_ge (pc := 7) M 20 dJ7_fill_53178_7 (by decide) (fun h7 => ?_) (fun h7 => ?_)
    · have e : k = n := by
        have := (nI_leI (a := n) (b := k) (by omega) (by omega)).mp h7
        omega
      subst e
      refine G_normI 0 (fun _ => x) rfl (fun j hj => if_pos hj) ?_
      exact G_vret M hr dJ7_fill_53178_20 rfl ⟨rfl, rfl⟩
    · have hkn : k < n := Nat.lt_of_not_le (fun q => h7 (nI_le q (by omega)))
      refine G_aload_n (pc := 10) M dJ7_fill_53178_10 rfl ?_
      refine G_iload_n (pc := 11) M dJ7_fill_53178_11 rfl ?_
      refine G_iload_n (pc := 12) M dJ7_fill_53178_12 rfl ?_
      refine G_iastore (pc := 13) M dJ7_fill_53178_13 rfl (by first | assumption | exact vp_in_nI (by omega) (by omega)) ?_
      rw [cl_nI (by omega)]
      refine G_iinc (pc := 14) (v := 1) M dJ7_fill_53178_14 rfl (by decide +kernel) (Nat.le_of_ble_eq_true rfl) ?_
      refine G_goto (pc := 17) M 5 dJ7_fill_53178_17 (by decide) ?_
      have := ih (k + 1) (by omega) (by omega)
      have e : upd (fun j => if j < k then x else f j) k x = (fun j => if j < k + 1 then x else f j) := by
        funext j
        simp only [upd]
        by_cases h : j = k
        · subst h; simp
        · rw [if_neg h]
          by_cases h2 : j < k
          · rw [if_pos h2, if_pos (by omega)]
          · rw [if_neg h2, if_neg (by omega)]
      rw [← e, ← nI_1 k] at this
      exact this
theorem c_filli (D : DD) (l : Launch) (ad : Nat → Nat) (n : Nat) (f : Nat → Int32) (x : Int32) (hn : n < 2 ^ 31) : Ct D l mi_J7_fill_53178 [.ref (ad 0), .int x] ad [ia D n f] (fun v c => v = none ∧ c = [ia D n (fun _ => x)]) := by
  refine Ct.of (by decide +kernel) (Nat.le_of_ble_eq_true rfl) (fun X A hX M hr => ?_)
  subst hX
  refine G_iconst (pc := 0) (v := 0) M dJ7_fill_53178_0 (by decide +kernel) ?_
  refine G_istore_n (pc := 1) M dJ7_fill_53178_1 (Nat.le_of_ble_eq_true rfl) ?_
  refine G_aload_n (pc := 2) M dJ7_fill_53178_2 rfl ?_
  refine G_alen_ia (pc := 3) M dJ7_fill_53178_3 rfl rfl ?_
  refine G_istore_n (pc := 4) M dJ7_fill_53178_4 (Nat.le_of_ble_eq_true rfl) ?_
  have := fill_loop M hr (ad := ad) (f := f) (x := x) hn (n + 1) 0 (by omega) (by omega)
  simp only [Nat.not_lt_zero, if_false] at this
  exact this
theorem fillL_loop {D : DD} {X : MX} {A : Nat → Prop} (M : CX D X A mi_J7_fill_d0a16.1.cls mi_J7_fill_d0a16.2.1 mi_J7_fill_d0a16.2.2.1 (miR mi_J7_fill_d0a16)) (hr : RT X mi_J7_fill_d0a16.2.2.2.1) {ad : Nat → Nat} {n : Nat} {f : Nat → Int64} {x : Int64} (hn : n < 2 ^ 31) : ∀ m k : Nat, k ≤ n → n - k < m →
    G D X A 0 0 (GQ D X A ad 1 (fun v c => v = none ∧ c = [la D n (fun _ => x)])) ad 6 [some (.ref (ad 0)), some (.long x), none, some (.int (nI k)), some (.int (nI n))] [] [la D n (fun j => if j < k then x else f j)] := by
  intro m
  induction m with
  | zero => intro k _ h; omega
  | succ m ih =>
    intro k hk hm
    refine G_iload_n (pc := 6) M dJ7_fill_d0a16_6 rfl ?_
    refine G_iload (pc := 7) M dJ7_fill_d0a16_7 rfl ?_
    refine G_icmp_ge (pc := 9) M 22 dJ7_fill_d0a16_9 (by decide) (fun h9 => ?_) (fun h9 => ?_)
    · have e : k = n := by
        have := (nI_leI (a := n) (b := k) (by omega) (by omega)).mp h9
        omega
      subst e
      refine G_normL 0 (fun _ => x) rfl (fun j hj => if_pos hj) ?_
      exact G_vret M hr dJ7_fill_d0a16_22 rfl ⟨rfl, rfl⟩
    · have hkn : k < n := Nat.lt_of_not_le (fun q => h9 (nI_le q (by omega)))
      refine G_aload_n (pc := 12) M dJ7_fill_d0a16_12 rfl ?_
      refine G_iload_n (pc := 13) M dJ7_fill_d0a16_13 rfl ?_
      refine G_lload_n (pc := 14) M dJ7_fill_d0a16_14 rfl ?_
      refine G_lastore (pc := 15) M dJ7_fill_d0a16_15 rfl (by first | assumption | exact vp_in_nI (by omega) (by omega)) ?_
      rw [cl_nI (by omega)]
      refine G_iinc (pc := 16) (v := 1) M dJ7_fill_d0a16_16 rfl (by decide +kernel) (Nat.le_of_ble_eq_true rfl) ?_
      refine G_goto (pc := 19) M 6 dJ7_fill_d0a16_19 (by decide) ?_
      have := ih (k + 1) (by omega) (by omega)
      have e : vp_updL (fun j => if j < k then x else f j) k x = (fun j => if j < k + 1 then x else f j) := by
        funext j
        simp only [vp_updL]
        by_cases h : j = k
        · subst h; simp
        · rw [if_neg h]
          by_cases h2 : j < k
          · rw [if_pos h2, if_pos (by omega)]
          · rw [if_neg h2, if_neg (by omega)]
      rw [← e, ← nI_1 k] at this
      exact this
theorem c_filll (D : DD) (l : Launch) (ad : Nat → Nat) (n : Nat) (f : Nat → Int64) (x : Int64) (hn : n < 2 ^ 31) : Ct D l mi_J7_fill_d0a16 [.ref (ad 0), .long x] ad [la D n f] (fun v c => v = none ∧ c = [la D n (fun _ => x)]) := by
  refine Ct.of (by decide +kernel) (Nat.le_of_ble_eq_true rfl) (fun X A hX M hr => ?_)
  subst hX
  refine G_iconst (pc := 0) (v := 0) M dJ7_fill_d0a16_0 (by decide +kernel) ?_
  refine G_istore_n (pc := 1) M dJ7_fill_d0a16_1 (Nat.le_of_ble_eq_true rfl) ?_
  refine G_aload_n (pc := 2) M dJ7_fill_d0a16_2 rfl ?_
  refine G_alen_la (pc := 3) M dJ7_fill_d0a16_3 rfl rfl ?_
  refine G_istore (pc := 4) M dJ7_fill_d0a16_4 (Nat.le_of_ble_eq_true rfl) ?_
  have := fillL_loop M hr (ad := ad) (f := f) (x := x) hn (n + 1) 0 (by omega) (by omega)
  simp only [Nat.not_lt_zero, if_false] at this
  exact this
theorem c_mRestart (D : DD) (l : Launch) (ad : Nat → Nat) (pr : Int32) (mt : Nat → Int32) : Ct D l mi_X2_restart [.ref (ad 0)] ad [ob 2 [.ref (ad 1), .int pr], ia D 64 mt] (fun v c => v = none ∧ c = [ob 2 [.ref (ad 1), .int 0], ia D 64 (fun _ => -2)]) := by
  refine Ct.of (by decide +kernel) (Nat.le_of_ble_eq_true rfl) (fun X A hX M hr => ?_)
  subst hX
  refine G_aload_n (pc := 0) M dX2_restart_0 rfl ?_
  refine G_iconst (pc := 1) (v := 0) M dX2_restart_1 (by decide +kernel) ?_
  refine G_putfi (pc := 2) M dX2_restart_2 fl_X2_15 rfl (Nat.le_of_ble_eq_true rfl) ?_
  refine G_aload_n (pc := 5) M dX2_restart_5 rfl ?_
  refine G_getf (pc := 6) M dX2_restart_6 fl_X2_9 rfl (by first | rfl | assumption) ?_
  refine G_bipush (pc := 9) (v := -2) M dX2_restart_9 (by decide +kernel) ?_
  refine G_calls (pc := 11) M [1] dX2_restart_11 ms_X2_19 (c_filli D _ (fun j => ad (pn [1] j)) 64 mt (-2) (by omega)) ⟨rfl, trivial⟩ rfl rfl rfl rfl (Nat.le_of_ble_eq_true rfl) (Nat.le_of_ble_eq_true rfl) (Nat.le_of_ble_eq_true rfl) ⟨Nat.zero_le _, Nat.zero_le _⟩ (fun v c1 hq hlen => ?_)
  obtain ⟨rfl, rfl⟩ := hq
  exact G_vret M hr dX2_restart_14 rfl ⟨rfl, rfl⟩
/-- an arc of x and y makes them mates -/
def mtB (mt : Nat → Int32) (x y : Nat) : Bool := decide (mt x = -2) && decide (mt y = -2)
def mtF (mt : Nat → Int32) (x y : Nat) : Nat → Int32 := bif mtB mt x y then upd (upd mt x (nI y)) y (nI x) else mt
theorem c_mAccept (D : DD) (l : Launch) (ad : Nat → Nat) (pr : Int32) (mt : Nat → Int32) (x y : Nat) (hx : x < 64) (hy : y < 64) : Ct D l mi_X2_accept [.ref (ad 0), .int (nI x), .int (nI y)] ad [ob 2 [.ref (ad 1), .int pr], ia D 64 mt] (fun v c => v = none ∧ c = [ob 2 [.ref (ad 1), .int (bif mtB mt x y then pr + 1 else pr)], ia D 64 (mtF mt x y)]) := by
  refine Ct.of (by decide +kernel) (Nat.le_of_ble_eq_true rfl) (fun X A hX M hr => ?_)
  subst hX
  refine G_aload_n (pc := 0) M dX2_accept_0 rfl ?_
  refine G_getf (pc := 1) M dX2_accept_1 fl_X2_9 rfl (by first | rfl | assumption) ?_
  refine G_iload_n (pc := 4) M dX2_accept_4 rfl ?_
  refine G_iaload (pc := 5) M dX2_accept_5 rfl (by first | assumption | exact vp_in_nI (by omega) (by omega)) ?_
  rw [cl_nI (by omega)]
  refine G_bipush (pc := 6) (v := -2) M dX2_accept_6 (by decide +kernel) ?_
  refine G_icmp_ne (pc := 8) M 46 dX2_accept_8 (by decide) (fun h8 => ?_) (fun h8 => ?_)
  · exact G_vret M hr dX2_accept_46 rfl ⟨rfl, by simp [mtB, mtF, *]⟩
  · have h8b : mt x = -2 := by simpa using h8
    refine G_aload_n (pc := 11) M dX2_accept_11 rfl ?_
    refine G_getf (pc := 12) M dX2_accept_12 fl_X2_9 rfl (by first | rfl | assumption) ?_
    refine G_iload_n (pc := 15) M dX2_accept_15 rfl ?_
    refine G_iaload (pc := 16) M dX2_accept_16 rfl (by first | assumption | exact vp_in_nI (by omega) (by omega)) ?_
    rw [cl_nI (by omega)]
    refine G_bipush (pc := 17) (v := -2) M dX2_accept_17 (by decide +kernel) ?_
    refine G_icmp_ne (pc := 19) M 46 dX2_accept_19 (by decide) (fun h19 => ?_) (fun h19 => ?_)
    · exact G_vret M hr dX2_accept_46 rfl ⟨rfl, by simp [mtB, mtF, *]⟩
    · have h19b : mt y = -2 := by simpa using h19
      refine G_aload_n (pc := 22) M dX2_accept_22 rfl ?_
      refine G_getf (pc := 23) M dX2_accept_23 fl_X2_9 rfl (by first | rfl | assumption) ?_
      refine G_iload_n (pc := 26) M dX2_accept_26 rfl ?_
      refine G_iload_n (pc := 27) M dX2_accept_27 rfl ?_
      refine G_iastore (pc := 28) M dX2_accept_28 rfl (by first | assumption | exact vp_in_nI (by omega) (by omega)) ?_
      rw [cl_nI (by omega)]
      refine G_aload_n (pc := 29) M dX2_accept_29 rfl ?_
      refine G_getf (pc := 30) M dX2_accept_30 fl_X2_9 rfl (by first | rfl | assumption) ?_
      refine G_iload_n (pc := 33) M dX2_accept_33 rfl ?_
      refine G_iload_n (pc := 34) M dX2_accept_34 rfl ?_
      refine G_iastore (pc := 35) M dX2_accept_35 rfl (by first | assumption | exact vp_in_nI (by omega) (by omega)) ?_
      rw [cl_nI (by omega)]
      refine G_aload_n (pc := 36) M dX2_accept_36 rfl ?_
      refine G_dup (pc := 37) M dX2_accept_37 rfl ?_
      refine G_getf (pc := 38) M dX2_accept_38 fl_X2_15 rfl (by first | rfl | assumption) ?_
      refine G_iconst (pc := 41) (v := 1) M dX2_accept_41 (by decide +kernel) ?_
      refine G_iadd (pc := 42) M dX2_accept_42 ?_
      refine G_putfi (pc := 43) M dX2_accept_43 fl_X2_15 rfl (Nat.le_of_ble_eq_true rfl) ?_
      exact G_vret M hr dX2_accept_46 rfl ⟨rfl, by simp [mtB, mtF, *]⟩
