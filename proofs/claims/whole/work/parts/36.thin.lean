/-! Thinned -/
abbrev thO (ad : Nat → Nat) (nn st z : Nat) : va_E := ob 5 [.ref (ad 1), .ref (ad 2), .ref (ad 3), .int (nI nn), .int (nI st), .int (nI z)]
abbrev thW (D : DD) (ad : Nat → Nat) (nn st z : Nat) (tm ky : Nat → Int32) (nb : Nat → Int64) : List va_E := [thO ad nn st z, ia D 512 tm, ia D 512 ky, la D 64 nb]
theorem c_tRestart (D : DD) (l : Launch) (ad : Nat → Nat) (n0 s0 z0 nn st : Nat) (tm ky : Nat → Int32) (nb : Nat → Int64) : Ct D l mi_X5_restart [.ref (ad 0), .int (nI nn), .int (nI st)] ad (thW D ad n0 s0 z0 tm ky nb) (fun v c => v = none ∧ c = thW D ad nn st 0 tm ky (fun _ => 0)) := by
  refine Ct.of (by decide +kernel) (Nat.le_of_ble_eq_true rfl) (fun X A hX M hr => ?_)
  subst hX
  refine G_aload_n (pc := 0) M dX5_restart_0 rfl ?_
  refine G_iload_n (pc := 1) M dX5_restart_1 rfl ?_
  refine G_putfi (pc := 2) M dX5_restart_2 fl_X5_22 rfl (Nat.le_of_ble_eq_true rfl) ?_
  refine G_aload_n (pc := 5) M dX5_restart_5 rfl ?_
  refine G_iload_n (pc := 6) M dX5_restart_6 rfl ?_
  refine G_putfi (pc := 7) M dX5_restart_7 fl_X5_26 rfl (Nat.le_of_ble_eq_true rfl) ?_
  refine G_aload_n (pc := 10) M dX5_restart_10 rfl ?_
  refine G_iconst (pc := 11) (v := 0) M dX5_restart_11 (by decide +kernel) ?_
  refine G_putfi (pc := 12) M dX5_restart_12 fl_X5_29 rfl (Nat.le_of_ble_eq_true rfl) ?_
  refine G_aload_n (pc := 15) M dX5_restart_15 rfl ?_
  refine G_getf (pc := 16) M dX5_restart_16 fl_X5_18 rfl (by first | rfl | assumption) ?_
  refine G_lconst (pc := 19) (v := 0) M dX5_restart_19 (by decide +kernel) ?_
  refine G_calls (pc := 20) M [3] dX5_restart_20 ms_X5_32 (c_filll D _ (fun j => ad (pn [3] j)) 64 nb 0 (by omega)) ⟨rfl, trivial⟩ rfl rfl rfl rfl (Nat.le_of_ble_eq_true rfl) (Nat.le_of_ble_eq_true rfl) (Nat.le_of_ble_eq_true rfl) ⟨Nat.zero_le _, Nat.zero_le _⟩ (fun v c1 hq hlen => ?_)
  obtain ⟨rfl, rfl⟩ := hq
  exact G_vret M hr dX5_restart_23 rfl ⟨rfl, rfl⟩
def nbF (nb : Nat → Int64) (set : Int64) : Nat → Int64
  | 0 => 0
  | k + 1 => bif bt set k then nbF nb set k ||| nb k else nbF nb set k
theorem nb_loop {D : DD} {X : MX} {A : Nat → Prop} (M : CX D X A mi_X5_neighboursOf.1.cls mi_X5_neighboursOf.2.1 mi_X5_neighboursOf.2.2.1 (miR mi_X5_neighboursOf)) (hr : RT X mi_X5_neighboursOf.2.2.2.1) {ad : Nat → Nat} {fs : List Value} {nn : Nat} {nb : Nat → Int64} {set : Int64} (hnn : nn ≤ 64) (hf2 : gt fs 2 = some (.ref (ad 1))) (hf3 : gt fs 3 = some (.int (nI nn))) : ∀ m k : Nat, k ≤ nn → nn - k < m →
    G D X A 0 0 (GQ D X A ad 2 (fun v c => v = some (.long (nbF nb set nn)) ∧ c = [ob 5 fs, la D 64 nb])) ad 5 [some (.ref (ad 0)), some (.long set), none, some (.long (nbF nb set k)), none, some (.int (nI k))] [] [ob 5 fs, la D 64 nb] := by
  intro m
  induction m with
  | zero => intro k _ h; omega
  | succ m ih =>
    intro k hk hm
    refine G_iload (pc := 5) M dX5_neighboursOf_5 rfl ?_
    refine G_aload_n (pc := 7) M dX5_neighboursOf_7 rfl ?_
    refine G_getf (pc := 8) M dX5_neighboursOf_8 fl_X5_22 rfl (by first | rfl | assumption) ?_
    refine G_icmp_ge (pc := 11) M 39 dX5_neighboursOf_11 (by decide) (fun h11 => ?_) (fun h11 => ?_)
    · have e : k = nn := by
        have := (nI_leI (a := nn) (b := k) (by omega) (by omega)).mp h11
        omega
      subst e
      refine G_lload_n (pc := 39) M dX5_neighboursOf_39 rfl ?_
      exact G_lret M hr dX5_neighboursOf_40 rfl ⟨rfl, rfl⟩
    · have hkn : k < nn := Nat.lt_of_not_le (fun q => h11 (nI_le q (by omega)))
      refine G_lload_n (pc := 14) M dX5_neighboursOf_14 rfl ?_
      refine G_iload (pc := 15) M dX5_neighboursOf_15 rfl ?_
      refine G_calln (pc := 17) M [] dX5_neighboursOf_17 mn_X5_46 (c_holds D _ (fun j => ad (pn [] j)) set (nI k)) trivial rfl rfl rfl rfl (Nat.le_of_ble_eq_true rfl) (Nat.le_of_ble_eq_true rfl) (Nat.le_of_ble_eq_true rfl) ⟨Nat.zero_le _, Nat.zero_le _⟩ (fun v c1 hq hlen => ?_)
      obtain ⟨rfl, rfl⟩ := hq
      rw [hb_bt set (by omega)]
      refine G_if_eq (pc := 20) M 33 dX5_neighboursOf_20 (by decide) (fun h20 => ?_) (fun h20 => ?_)
      · have e : nbF nb set (k + 1) = nbF nb set k := by rw [nbF, bz0 h20]; rfl
        refine G_iinc (pc := 33) (v := 1) M dX5_neighboursOf_33 rfl (by decide +kernel) (Nat.le_of_ble_eq_true rfl) ?_
        refine G_goto (pc := 36) M 5 dX5_neighboursOf_36 (by decide) ?_
        have := ih (k + 1) (by omega) (by omega)
        rw [e, ← nI_1 k] at this
        exact this
      · have e : nbF nb set (k + 1) = nbF nb set k ||| nb k := by rw [nbF, bz1 h20]; rfl
        refine G_lload_n (pc := 23) M dX5_neighboursOf_23 rfl ?_
        refine G_aload_n (pc := 24) M dX5_neighboursOf_24 rfl ?_
        refine G_getf (pc := 25) M dX5_neighboursOf_25 fl_X5_18 rfl (by first | rfl | assumption) ?_
        refine G_iload (pc := 28) M dX5_neighboursOf_28 rfl ?_
        refine G_laload (pc := 30) M dX5_neighboursOf_30 rfl (by first | assumption | exact vp_in_nI (by omega) (by omega)) ?_
        rw [cl_nI (by omega)]
        refine G_lor (pc := 31) M dX5_neighboursOf_31 ?_
        refine G_lstore_n (pc := 32) M dX5_neighboursOf_32 (Nat.le_of_ble_eq_true rfl) ?_
        refine G_iinc (pc := 33) (v := 1) M dX5_neighboursOf_33 rfl (by decide +kernel) (Nat.le_of_ble_eq_true rfl) ?_
        refine G_goto (pc := 36) M 5 dX5_neighboursOf_36 (by decide) ?_
        have := ih (k + 1) (by omega) (by omega)
        rw [e, ← nI_1 k] at this
        exact this
theorem c_neighboursOf (D : DD) (l : Launch) (ad : Nat → Nat) (fs : List Value) (nn : Nat) (nb : Nat → Int64) (set : Int64) (hnn : nn ≤ 64) (hf2 : gt fs 2 = some (.ref (ad 1))) (hf3 : gt fs 3 = some (.int (nI nn))) : Ct D l mi_X5_neighboursOf [.ref (ad 0), .long set] ad [ob 5 fs, la D 64 nb] (fun v c => v = some (.long (nbF nb set nn)) ∧ c = [ob 5 fs, la D 64 nb]) := by
  refine Ct.of (by decide +kernel) (Nat.le_of_ble_eq_true rfl) (fun X A hX M hr => ?_)
  subst hX
  refine G_lconst (pc := 0) (v := 0) M dX5_neighboursOf_0 (by decide +kernel) ?_
  refine G_lstore_n (pc := 1) M dX5_neighboursOf_1 (Nat.le_of_ble_eq_true rfl) ?_
  refine G_iconst (pc := 2) (v := 0) M dX5_neighboursOf_2 (by decide +kernel) ?_
  refine G_istore (pc := 3) M dX5_neighboursOf_3 (Nat.le_of_ble_eq_true rfl) ?_
  exact nb_loop M hr hnn hf2 hf3 65 0 (by omega) (by omega)
def one (a : Nat) : Int64 := (1 : Int64) <<< ((nI a).toInt64 &&& 63)
/-- the search from the edge Ed, with Re reached, r steps at most left, sp done -/
def dst (nb : Nat → Int64) (nn b : Nat) : Nat → Nat → Int64 → Int64 → Int32
  | 0, _, _, _ => -2
  | r + 1, sp, Re, Ed => if Ed = 0 then -2 else bif bt Ed b then nI sp else dst nb nn b r (sp + 1) (Re ||| (nbF nb Ed nn &&& (Re ^^^ (-1)))) (nbF nb Ed nn &&& (Re ^^^ (-1)))
theorem dst_loop {D : DD} {X : MX} {A : Nat → Prop} (M : CX D X A mi_X5_distance.1.cls mi_X5_distance.2.1 mi_X5_distance.2.2.1 (miR mi_X5_distance)) (hr : RT X mi_X5_distance.2.2.2.1) {ad : Nat → Nat} {fs : List Value} {nn a b mo : Nat} {nb : Nat → Int64} (hnn : nn ≤ 64) (hb : b < 64) (hmo : mo ≤ 64) (hf2 : gt fs 2 = some (.ref (ad 1))) (hf3 : gt fs 3 = some (.int (nI nn))) : ∀ r sp : Nat, sp + r = mo + 1 → ∀ Re Ed : Int64,
    G D X A 0 0 (GQ D X A ad 2 (fun v c => v = some (.int (dst nb nn b r sp Re Ed)) ∧ c = [ob 5 fs, la D 64 nb])) ad 12 [some (.ref (ad 0)), some (.int (nI a)), some (.int (nI b)), some (.int (nI mo)), some (.long Re), none, some (.long Ed), none, some (.int (nI sp))] [] [ob 5 fs, la D 64 nb] := by
  intro r
  induction r with
  | zero =>
    intro sp hs Re Ed
    refine G_iload (pc := 12) M dX5_distance_12 rfl ?_
    refine G_iload_n (pc := 14) M dX5_distance_14 rfl ?_
    refine G_icmp_gt (pc := 15) M 65 dX5_distance_15 (by decide) (fun h15 => ?_) (fun h15 => ?_)
    · refine G_bipush (pc := 65) (v := -2) M dX5_distance_65 (by decide +kernel) ?_
      exact G_iret M hr dX5_distance_67 rfl ⟨rfl, rfl⟩
    · exact absurd (nI_lt (a := mo) (b := sp) (by omega) (by omega)) h15
  | succ r ih =>
    intro sp hs Re Ed
    refine G_iload (pc := 12) M dX5_distance_12 rfl ?_
    refine G_iload_n (pc := 14) M dX5_distance_14 rfl ?_
    refine G_icmp_gt (pc := 15) M 65 dX5_distance_15 (by decide) (fun h15 => ?_) (fun h15 => ?_)
    · exact absurd ((nI_ltI (a := mo) (b := sp) (by omega) (by omega)).mp h15) (by omega)
    · refine G_lload (pc := 18) M dX5_distance_18 rfl ?_
      refine G_lconst (pc := 20) (v := 0) M dX5_distance_20 (by decide +kernel) ?_
      refine G_lcmp (pc := 21) M dX5_distance_21 ?_
      refine G_if_eq (pc := 22) M 65 dX5_distance_22 (by decide) (fun h22 => ?_) (fun h22 => ?_)
      · rw [lg_cmp_eq] at h22
        have e : dst nb nn b (r + 1) sp Re Ed = -2 := by rw [dst, if_pos h22]
        refine G_bipush (pc := 65) (v := -2) M dX5_distance_65 (by decide +kernel) ?_
        exact G_iret M hr dX5_distance_67 rfl ⟨by rw [e], rfl⟩
      · rw [lg_cmp_eq] at h22
        refine G_lload (pc := 25) M dX5_distance_25 rfl ?_
        refine G_iload_n (pc := 27) M dX5_distance_27 rfl ?_
        refine G_calln (pc := 28) M [] dX5_distance_28 mn_X5_46 (c_holds D _ (fun j => ad (pn [] j)) Ed (nI b)) trivial rfl rfl rfl rfl (Nat.le_of_ble_eq_true rfl) (Nat.le_of_ble_eq_true rfl) (Nat.le_of_ble_eq_true rfl) ⟨Nat.zero_le _, Nat.zero_le _⟩ (fun v c1 hq hlen => ?_)
        obtain ⟨rfl, rfl⟩ := hq
        rw [hb_bt Ed (by omega)]
        refine G_if_eq (pc := 31) M 37 dX5_distance_31 (by decide) (fun h31 => ?_) (fun h31 => ?_)
        · have e : dst nb nn b (r + 1) sp Re Ed = dst nb nn b r (sp + 1) (Re ||| (nbF nb Ed nn &&& (Re ^^^ (-1)))) (nbF nb Ed nn &&& (Re ^^^ (-1))) := by rw [dst, if_neg h22, bz0 h31]; rfl
          refine G_aload_n (pc := 37) M dX5_distance_37 rfl ?_
          refine G_lload (pc := 38) M dX5_distance_38 rfl ?_
          refine G_callv (pc := 40) M [0, 1] dX5_distance_40 mv_X5_50 (c_neighboursOf D _ (fun j => ad (pn [0, 1] j)) fs nn nb Ed hnn hf2 hf3) rfl ⟨rfl, rfl, trivial⟩ rfl rfl rfl rfl (Nat.le_of_ble_eq_true rfl) (Nat.le_of_ble_eq_true rfl) (Nat.le_of_ble_eq_true rfl) ⟨Nat.zero_le _, Nat.zero_le _⟩ (fun v c1 hq hlen => ?_)
          obtain ⟨rfl, rfl⟩ := hq
          refine G_lload (pc := 43) M dX5_distance_43 rfl ?_
          refine G_ldc2 (pc := 45) M dX5_distance_45 cn_X5_54 ?_
          refine G_lxor (pc := 48) M dX5_distance_48 ?_
          refine G_land (pc := 49) M dX5_distance_49 ?_
          refine G_lstore (pc := 50) M dX5_distance_50 (Nat.le_of_ble_eq_true rfl) ?_
          refine G_lload (pc := 52) M dX5_distance_52 rfl ?_
          refine G_lload (pc := 54) M dX5_distance_54 rfl ?_
          refine G_lor (pc := 56) M dX5_distance_56 ?_
          refine G_lstore (pc := 57) M dX5_distance_57 (Nat.le_of_ble_eq_true rfl) ?_
          refine G_iinc (pc := 59) (v := 1) M dX5_distance_59 rfl (by decide +kernel) (Nat.le_of_ble_eq_true rfl) ?_
          refine G_goto (pc := 62) M 12 dX5_distance_62 (by decide) ?_
          rw [e, nI_1]
          exact ih (sp + 1) (by omega) _ _
        · have e : dst nb nn b (r + 1) sp Re Ed = nI sp := by rw [dst, if_neg h22, bz1 h31]; rfl
          refine G_iload (pc := 34) M dX5_distance_34 rfl ?_
          exact G_iret M hr dX5_distance_36 rfl ⟨by rw [e], rfl⟩
theorem c_distance (D : DD) (l : Launch) (ad : Nat → Nat) (fs : List Value) (nn a b mo : Nat) (nb : Nat → Int64) (hnn : nn ≤ 64) (hb : b < 64) (hmo : mo ≤ 64) (hf2 : gt fs 2 = some (.ref (ad 1))) (hf3 : gt fs 3 = some (.int (nI nn))) : Ct D l mi_X5_distance [.ref (ad 0), .int (nI a), .int (nI b), .int (nI mo)] ad [ob 5 fs, la D 64 nb] (fun v c => v = some (.int (dst nb nn b (mo + 1) 0 (one a) (one a))) ∧ c = [ob 5 fs, la D 64 nb]) := by
  refine Ct.of (by decide +kernel) (Nat.le_of_ble_eq_true rfl) (fun X A hX M hr => ?_)
  subst hX
  refine G_lconst (pc := 0) (v := 1) M dX5_distance_0 (by decide +kernel) ?_
  refine G_iload_n (pc := 1) M dX5_distance_1 rfl ?_
  refine G_lshl (pc := 2) M dX5_distance_2 ?_
  refine G_lstore (pc := 3) M dX5_distance_3 (Nat.le_of_ble_eq_true rfl) ?_
  refine G_lload (pc := 5) M dX5_distance_5 rfl ?_
  refine G_lstore (pc := 7) M dX5_distance_7 (Nat.le_of_ble_eq_true rfl) ?_
  refine G_iconst (pc := 9) (v := 0) M dX5_distance_9 (by decide +kernel) ?_
  refine G_istore (pc := 10) M dX5_distance_10 (Nat.le_of_ble_eq_true rfl) ?_
  exact dst_loop M hr hnn hb hmo hf2 hf3 (mo + 1) 0 (by omega) _ _
def nbA (nb : Nat → Int64) (x y : Nat) : Nat → Int64 := vp_updL (vp_updL nb x (nb x ||| one y)) y (vp_updL nb x (nb x ||| one y) y ||| one x)
theorem c_tAccept (D : DD) (l : Launch) (ad : Nat → Nat) (nn st z x y : Nat) (tm ky : Nat → Int32) (nb : Nat → Int64) (t : Int32) (hnn : nn ≤ 64) (hst : st ≤ 64) (hz : z < 512) (hx : x < 64) (hy : y < 64) : Ct D l mi_X5_accept [.ref (ad 0), .int (nI x), .int (nI y), .int t] ad (thW D ad nn st z tm ky nb) (fun v c => v = none ∧ c = if dst nb nn y (st + 1) 0 (one x) (one x) = -2 then thW D ad nn st (z + 1) (upd tm z t) (upd ky z (nI (64 * x + y))) (nbA nb x y) else thW D ad nn st z tm ky nb) := by
  refine Ct.of (by decide +kernel) (Nat.le_of_ble_eq_true rfl) (fun X A hX M hr => ?_)
  subst hX
  refine G_aload_n (pc := 0) M dX5_accept_0 rfl ?_
  refine G_getf (pc := 1) M dX5_accept_1 fl_X5_29 rfl (by first | rfl | assumption) ?_
  refine G_sipush (pc := 4) (v := 512) M dX5_accept_4 (by decide +kernel) ?_
  refine G_icmp_ge (pc := 7) M 25 dX5_accept_7 (by decide) (fun h7 => ?_) (fun h7 => ?_)
  · exact absurd ((nI_leI (a := 512) (b := z) (by omega) (by omega)).mp h7) (by omega)
  · refine G_aload_n (pc := 10) M dX5_accept_10 rfl ?_
    refine G_iload_n (pc := 11) M dX5_accept_11 rfl ?_
    refine G_iload_n (pc := 12) M dX5_accept_12 rfl ?_
    refine G_aload_n (pc := 13) M dX5_accept_13 rfl ?_
    refine G_getf (pc := 14) M dX5_accept_14 fl_X5_26 rfl (by first | rfl | assumption) ?_
    refine G_callv (pc := 17) M [0, 3] dX5_accept_17 mv_X5_38 (c_distance D _ (fun j => ad (pn [0, 3] j)) _ nn x y st nb hnn hy hst rfl rfl) rfl ⟨rfl, rfl, trivial⟩ rfl rfl rfl rfl (Nat.le_of_ble_eq_true rfl) (Nat.le_of_ble_eq_true rfl) (Nat.le_of_ble_eq_true rfl) ⟨Nat.zero_le _, Nat.zero_le _⟩ (fun v c1 hq hlen => ?_)
    obtain ⟨rfl, rfl⟩ := hq
    refine G_bipush (pc := 20) (v := -2) M dX5_accept_20 (by decide +kernel) ?_
    refine G_icmp_eq (pc := 22) M 26 dX5_accept_22 (by decide) (fun h22 => ?_) (fun h22 => ?_)
    · refine G_aload_n (pc := 26) M dX5_accept_26 rfl ?_
      refine G_getf (pc := 27) M dX5_accept_27 fl_X5_9 rfl (by first | rfl | assumption) ?_
      refine G_aload_n (pc := 30) M dX5_accept_30 rfl ?_
      refine G_getf (pc := 31) M dX5_accept_31 fl_X5_29 rfl (by first | rfl | assumption) ?_
      refine G_iload_n (pc := 34) M dX5_accept_34 rfl ?_
      refine G_iastore (pc := 35) M dX5_accept_35 rfl (by first | assumption | exact vp_in_nI (by omega) (by omega)) ?_
      rw [cl_nI (by omega)]
      refine G_aload_n (pc := 36) M dX5_accept_36 rfl ?_
      refine G_getf (pc := 37) M dX5_accept_37 fl_X5_15 rfl (by first | rfl | assumption) ?_
      refine G_aload_n (pc := 40) M dX5_accept_40 rfl ?_
      refine G_getf (pc := 41) M dX5_accept_41 fl_X5_29 rfl (by first | rfl | assumption) ?_
      refine G_iload_n (pc := 44) M dX5_accept_44 rfl ?_
      refine G_iload_n (pc := 45) M dX5_accept_45 rfl ?_
      refine G_calln (pc := 46) M [] dX5_accept_46 mn_X5_42 (c_keyOf D _ (fun j => ad (pn [] j)) (nI x) (nI y)) trivial rfl rfl rfl rfl (Nat.le_of_ble_eq_true rfl) (Nat.le_of_ble_eq_true rfl) (Nat.le_of_ble_eq_true rfl) ⟨Nat.zero_le _, Nat.zero_le _⟩ (fun v c1 hq hlen => ?_)
      obtain ⟨rfl, rfl⟩ := hq
      rw [ixA]
      refine G_iastore (pc := 49) M dX5_accept_49 rfl (by first | assumption | exact vp_in_nI (by omega) (by omega)) ?_
      rw [cl_nI (by omega)]
      refine G_aload_n (pc := 50) M dX5_accept_50 rfl ?_
      refine G_dup (pc := 51) M dX5_accept_51 rfl ?_
      refine G_getf (pc := 52) M dX5_accept_52 fl_X5_29 rfl (by first | rfl | assumption) ?_
      refine G_iconst (pc := 55) (v := 1) M dX5_accept_55 (by decide +kernel) ?_
      refine G_iadd (pc := 56) M dX5_accept_56 ?_
      rw [nI_1]
      refine G_putfi (pc := 57) M dX5_accept_57 fl_X5_29 rfl (Nat.le_of_ble_eq_true rfl) ?_
      refine G_aload_n (pc := 60) M dX5_accept_60 rfl ?_
      refine G_getf (pc := 61) M dX5_accept_61 fl_X5_18 rfl (by first | rfl | assumption) ?_
      refine G_iload_n (pc := 64) M dX5_accept_64 rfl ?_
      first | refine G_dup2 (pc := 65) M dX5_accept_65 rfl rfl ?_ | refine G_dup2L (pc := 65) M dX5_accept_65 rfl ?_
      refine G_laload (pc := 66) M dX5_accept_66 rfl (by first | assumption | exact vp_in_nI (by omega) (by omega)) ?_
      rw [cl_nI (by omega)]
      refine G_lconst (pc := 67) (v := 1) M dX5_accept_67 (by decide +kernel) ?_
      refine G_iload_n (pc := 68) M dX5_accept_68 rfl ?_
      refine G_lshl (pc := 69) M dX5_accept_69 ?_
      refine G_lor (pc := 70) M dX5_accept_70 ?_
      refine G_lastore (pc := 71) M dX5_accept_71 rfl (by first | assumption | exact vp_in_nI (by omega) (by omega)) ?_
      rw [cl_nI (by omega)]
      refine G_aload_n (pc := 72) M dX5_accept_72 rfl ?_
      refine G_getf (pc := 73) M dX5_accept_73 fl_X5_18 rfl (by first | rfl | assumption) ?_
      refine G_iload_n (pc := 76) M dX5_accept_76 rfl ?_
      first | refine G_dup2 (pc := 77) M dX5_accept_77 rfl rfl ?_ | refine G_dup2L (pc := 77) M dX5_accept_77 rfl ?_
      refine G_laload (pc := 78) M dX5_accept_78 rfl (by first | assumption | exact vp_in_nI (by omega) (by omega)) ?_
      rw [cl_nI (by omega)]
      refine G_lconst (pc := 79) (v := 1) M dX5_accept_79 (by decide +kernel) ?_
      refine G_iload_n (pc := 80) M dX5_accept_80 rfl ?_
      refine G_lshl (pc := 81) M dX5_accept_81 ?_
      refine G_lor (pc := 82) M dX5_accept_82 ?_
      refine G_lastore (pc := 83) M dX5_accept_83 rfl (by first | assumption | exact vp_in_nI (by omega) (by omega)) ?_
      rw [cl_nI (by omega)]
      exact G_vret M hr dX5_accept_84 rfl ⟨rfl, by rw [if_pos h22]; rfl⟩
    · exact G_vret M hr dX5_accept_25 rfl ⟨rfl, by rw [if_neg h22]; rfl⟩
