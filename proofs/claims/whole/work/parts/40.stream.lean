--NORM
/-! Stream -/
abbrev stO (ad : Nat → Nat) (nn kk st : Nat) (sd : Int64) (ag : Int32) : va_E := ob 4 [.ref (ad 1), .ref (ad 4), .ref (ad 8), .ref (ad 12), .ref (ad 14), .int (nI nn), .int (nI kk), .int (nI st), .long sd, .int ag]
abbrev stW (D : DD) (ad : Nat → Nat) (nn kk st : Nat) (sd : Int64) (ag tk lo : Int32) (C tg : Nat → Int32) (fn : Nat) (ftm fky ld : Nat → Int32) (z : Nat) (ttm tky : Nat → Int32) (nb : Nat → Int64) (pr : Int32) (mt : Nat → Int32) (S : Nat → Int64) : List va_E :=
  [stO ad nn kk st sd ag, ob 0 [.ref (ad 2), .ref (ad 3), .int (nI nn), .int (nI kk), .int tk, .int lo], ia D 64 C, ia D 64 tg, ob 1 [.ref (ad 5), .ref (ad 6), .ref (ad 7), .int (nI fn)], ia D 64 ftm, ia D 64 fky, ia D 64 ld, ob 5 [.ref (ad 9), .ref (ad 10), .ref (ad 11), .int (nI nn), .int (nI st), .int (nI z)], ia D 512 ttm, ia D 512 tky, la D 64 nb, ob 2 [.ref (ad 13), .int pr], ia D 64 mt, ob 3 [.ref (ad 15), .int (nI nn), .long sd], la D 1920 S]
theorem c_fRestart (D : DD) (l : Launch) (ad : Nat → Nat) (a b c : Value) (n : Int32) : Ct D l mi_X1_restart [.ref (ad 0)] ad [ob 1 [a, b, c, .int n]] (fun v cs => v = none ∧ cs = [ob 1 [a, b, c, .int (nI 0)]]) := by
  refine Ct.of (by decide +kernel) (Nat.le_of_ble_eq_true rfl) (fun X A hX M hr => ?_)
  subst hX
  refine G_aload_n (pc := 0) M dX1_restart_0 rfl ?_
  refine G_iconst (pc := 1) (v := 0) M dX1_restart_1 (by decide +kernel) ?_
  refine G_putfi (pc := 2) M dX1_restart_2 fl_X1_21 rfl (Nat.le_of_ble_eq_true rfl) ?_
  try dsimp only [List.set]
  exact G_vret M hr dX1_restart_5 rfl ⟨rfl, rfl⟩
theorem c_sRestart (D : DD) (l : Launch) (ad : Nat → Nat) (n0 k0 s0 nn kk st : Nat) (d0 sd : Int64) (ag tk lo : Int32) (C tg : Nat → Int32) (fn : Nat) (ftm fky ld : Nat → Int32) (z : Nat) (ttm tky : Nat → Int32) (nb : Nat → Int64) (pr : Int32) (mt : Nat → Int32) (S : Nat → Int64) :
    Ct D l mi_X4_restart [.ref (ad 0), .int (nI nn), .int (nI kk), .int (nI st), .long sd] ad (stW D ad n0 k0 s0 d0 ag tk lo C tg fn ftm fky ld z ttm tky nb pr mt S) (fun v cs => v = none ∧ cs = stW D ad nn kk st sd 0 0 0 (fun _ => 0) tg 0 ftm fky ld 0 ttm tky (fun _ => 0) 0 (fun _ => -2) (fun _ => 0)) := by
  refine Ct.of (by decide +kernel) (Nat.le_of_ble_eq_true rfl) (fun X A hX M hr => ?_)
  subst hX
  refine G_aload_n (pc := 0) M dX4_restart_0 rfl ?_
  refine G_iload_n (pc := 1) M dX4_restart_1 rfl ?_
  refine G_putfi (pc := 2) M dX4_restart_2 fl_X4_50 rfl (Nat.le_of_ble_eq_true rfl) ?_
  try dsimp only [List.set]
  refine G_aload_n (pc := 5) M dX4_restart_5 rfl ?_
  refine G_iload_n (pc := 6) M dX4_restart_6 rfl ?_
  refine G_putfi (pc := 7) M dX4_restart_7 fl_X4_54 rfl (Nat.le_of_ble_eq_true rfl) ?_
  try dsimp only [List.set]
  refine G_aload_n (pc := 10) M dX4_restart_10 rfl ?_
  refine G_iload_n (pc := 11) M dX4_restart_11 rfl ?_
  refine G_putfi (pc := 12) M dX4_restart_12 fl_X4_57 rfl (Nat.le_of_ble_eq_true rfl) ?_
  try dsimp only [List.set]
  refine G_aload_n (pc := 15) M dX4_restart_15 rfl ?_
  refine G_lload (pc := 16) M dX4_restart_16 rfl ?_
  refine G_putfl (pc := 18) M dX4_restart_18 fl_X4_60 rfl (Nat.le_of_ble_eq_true rfl) ?_
  try dsimp only [List.set]
  refine G_aload_n (pc := 21) M dX4_restart_21 rfl ?_
  refine G_iconst (pc := 22) (v := 0) M dX4_restart_22 (by decide +kernel) ?_
  refine G_putfi (pc := 23) M dX4_restart_23 fl_X4_64 rfl (Nat.le_of_ble_eq_true rfl) ?_
  try dsimp only [List.set]
  refine G_aload_n (pc := 26) M dX4_restart_26 rfl ?_
  refine G_getf (pc := 27) M dX4_restart_27 fl_X4_12 rfl (by first | rfl | assumption) ?_
  refine G_iload_n (pc := 30) M dX4_restart_30 rfl ?_
  refine G_iload_n (pc := 31) M dX4_restart_31 rfl ?_
  refine G_callv (pc := 32) M [1, 2, 3] dX4_restart_32 mv_X4_67 (c_cRestart D _ (fun j => ad (pn [1, 2, 3] j)) n0 k0 nn kk tk lo C tg) rfl ⟨rfl, rfl, rfl, trivial⟩ rfl rfl rfl rfl (Nat.le_of_ble_eq_true rfl) (Nat.le_of_ble_eq_true rfl) (Nat.le_of_ble_eq_true rfl) ⟨Nat.zero_le _, Nat.zero_le _⟩ (fun v c1 hq hlen => ?_)
  obtain ⟨rfl, rfl⟩ := hq
  try dsimp only [sall, List.set, Option.toList, List.cons_append, List.nil_append]
  refine G_aload_n (pc := 35) M dX4_restart_35 rfl ?_
  refine G_getf (pc := 36) M dX4_restart_36 fl_X4_21 rfl (by first | rfl | assumption) ?_
  refine G_callv (pc := 39) M [4] dX4_restart_39 mv_X4_70 (c_fRestart D _ (fun j => ad (pn [4] j)) _ _ _ (nI fn)) rfl ⟨rfl, trivial⟩ rfl rfl rfl rfl (Nat.le_of_ble_eq_true rfl) (Nat.le_of_ble_eq_true rfl) (Nat.le_of_ble_eq_true rfl) ⟨Nat.zero_le _, Nat.zero_le _⟩ (fun v c1 hq hlen => ?_)
  obtain ⟨rfl, rfl⟩ := hq
  try dsimp only [sall, List.set, Option.toList, List.cons_append, List.nil_append]
  refine G_aload_n (pc := 42) M dX4_restart_42 rfl ?_
  refine G_getf (pc := 43) M dX4_restart_43 fl_X4_28 rfl (by first | rfl | assumption) ?_
  refine G_iload_n (pc := 46) M dX4_restart_46 rfl ?_
  refine G_iload_n (pc := 47) M dX4_restart_47 rfl ?_
  refine G_callv (pc := 48) M [8, 9, 10, 11] dX4_restart_48 mv_X4_72 (c_tRestart D _ (fun j => ad (pn [8, 9, 10, 11] j)) n0 s0 z nn st ttm tky nb) rfl ⟨rfl, rfl, rfl, rfl, trivial⟩ rfl rfl rfl rfl (Nat.le_of_ble_eq_true rfl) (Nat.le_of_ble_eq_true rfl) (Nat.le_of_ble_eq_true rfl) ⟨Nat.zero_le _, Nat.zero_le _⟩ (fun v c1 hq hlen => ?_)
  obtain ⟨rfl, rfl⟩ := hq
  try dsimp only [sall, List.set, Option.toList, List.cons_append, List.nil_append]
  refine G_aload_n (pc := 51) M dX4_restart_51 rfl ?_
  refine G_getf (pc := 52) M dX4_restart_52 fl_X4_35 rfl (by first | rfl | assumption) ?_
  refine G_callv (pc := 55) M [12, 13] dX4_restart_55 mv_X4_73 (c_mRestart D _ (fun j => ad (pn [12, 13] j)) pr mt) rfl ⟨rfl, rfl, trivial⟩ rfl rfl rfl rfl (Nat.le_of_ble_eq_true rfl) (Nat.le_of_ble_eq_true rfl) (Nat.le_of_ble_eq_true rfl) ⟨Nat.zero_le _, Nat.zero_le _⟩ (fun v c1 hq hlen => ?_)
  obtain ⟨rfl, rfl⟩ := hq
  try dsimp only [sall, List.set, Option.toList, List.cons_append, List.nil_append]
  refine G_aload_n (pc := 58) M dX4_restart_58 rfl ?_
  refine G_getf (pc := 59) M dX4_restart_59 fl_X4_42 rfl (by first | rfl | assumption) ?_
  refine G_iload_n (pc := 62) M dX4_restart_62 rfl ?_
  refine G_lload (pc := 63) M dX4_restart_63 rfl ?_
  refine G_callv (pc := 65) M [14, 15] dX4_restart_65 mv_X4_74 (c_rRestart D _ (fun j => ad (pn [14, 15] j)) n0 nn d0 sd S) rfl ⟨rfl, rfl, trivial⟩ rfl rfl rfl rfl (Nat.le_of_ble_eq_true rfl) (Nat.le_of_ble_eq_true rfl) (Nat.le_of_ble_eq_true rfl) ⟨Nat.zero_le _, Nat.zero_le _⟩ (fun v c1 hq hlen => ?_)
  obtain ⟨rfl, rfl⟩ := hq
  try dsimp only [sall, List.set, Option.toList, List.cons_append, List.nil_append]
  exact G_vret M hr dX4_restart_68 rfl ⟨rfl, rfl⟩
theorem W_weak {p : Program} {l : Launch} {e : Env} {R : Room} {s : State} {m : MethodId} {args : Array Value} {below : List Frame} {meth : Method} {c : Code} {H : Heap} {locs : List Loc} {kc ks : Nat} {Q1 Q2 : State → Prop} {g : JFrame} (h : ∀ t, Q1 t → Q2 t) (k : W p l e R s m args below meth c H locs kc ks Q1 g) : W p l e R s m args below meth c H locs kc ks Q2 g := fun T hT X => by
  obtain ⟨t, a, b⟩ := k T hT X
  exact ⟨t, a, h t b⟩
theorem G_weak {D : DD} {X : MX} {A : Nat → Prop} {ad : Nat → Nat} {n pc : Nat} {lv : List (Option Value)} {st : List Value} {cs : List va_E} {Q1 Q2 : Option Value → List va_E → Prop} (h : ∀ v c, Q1 v c → Q2 v c) (k : G D X A 0 0 (GQ D X A ad n Q1) ad pc lv st cs) : G D X A 0 0 (GQ D X A ad n Q2) ad pc lv st cs := fun ls H locs hL hP hD hS =>
  W_weak (fun t ⟨o, a, b, ⟨⟨v, c, e1, e2, e3⟩, e4⟩, d⟩ => ⟨o, a, b, ⟨⟨v, c, e1, h v c e2, e3⟩, e4⟩, d⟩) (k ls H locs hL hP hD hS)
theorem one64 : (1 : Int32).toInt64 = 1 := rfl
theorem neg1 : (-(1 : Int32)).toInt64 = -(1 : Int32).toInt64 := by decide
theorem c_sAccept (D : DD) (l : Launch) (ad : Nat → Nat) (nn kk st : Nat) (sd : Int64) (ag tk lo : Int32) (C tg : Nat → Int32) (fn : Nat) (ftm fky ld : Nat → Int32) (z : Nat) (ttm tky : Nat → Int32) (nb : Nat → Int64) (pr : Int32) (mt : Nat → Int32) (S : Nat → Int64) (a b : Nat) (fu fv : Nat → Nat) (hnn : nn ≤ 64) (hst : st ≤ 64) (ha : a < 64) (hb : b < 64) (hfn : fn < 64) (hz : z < 512) (hK : fArc fn fky fu fv) :
    Ct D l mi_X4_accept [.ref (ad 0), .int (nI a), .int (nI b)] ad (stW D ad nn kk st sd ag tk lo C tg fn ftm fky ld z ttm tky nb pr mt S) (fun v cs => v = some (.int (ag + 1)) ∧ ∃ ld2, cs =
      if dst nb nn (max a b) (st + 1) 0 (one (min a b)) (one (min a b)) = -2 then
        stW D ad nn kk st sd (ag + 1) (kT (kC C nn kk tk a) nn kk (kT C nn kk tk a) b) (kL (kC C nn kk tk a) kk (kT C nn kk tk a) (kL C kk tk lo a) b) (kC (kC C nn kk tk a) nn kk (kT C nn kk tk a) b) tg (facN fn (obt fu fv fn (min a b) (max a b) fn)) (facF ftm fn (obt fu fv fn (min a b) (max a b) fn) (ag + 1)) (facF fky fn (obt fu fv fn (min a b) (max a b) fn) (nI (64 * min a b + max a b))) ld2 (z + 1) (upd ttm z (ag + 1)) (upd tky z (nI (64 * min a b + max a b))) (nbA nb (min a b) (max a b)) (bif mtB mt (min a b) (max a b) then pr + 1 else pr) (mtF mt (min a b) (max a b)) (chgR S (min a b) (max a b) (arcKey (min a b) (max a b)) 1 (lvK sd (arcKey (min a b) (max a b)) + 1))
      else
        stW D ad nn kk st sd (ag + 1) (kT (kC C nn kk tk a) nn kk (kT C nn kk tk a) b) (kL (kC C nn kk tk a) kk (kT C nn kk tk a) (kL C kk tk lo a) b) (kC (kC C nn kk tk a) nn kk (kT C nn kk tk a) b) tg (facN fn (obt fu fv fn (min a b) (max a b) fn)) (facF ftm fn (obt fu fv fn (min a b) (max a b) fn) (ag + 1)) (facF fky fn (obt fu fv fn (min a b) (max a b) fn) (nI (64 * min a b + max a b))) ld2 z ttm tky nb (bif mtB mt (min a b) (max a b) then pr + 1 else pr) (mtF mt (min a b) (max a b)) (chgR S (min a b) (max a b) (arcKey (min a b) (max a b)) 1 (lvK sd (arcKey (min a b) (max a b)) + 1))) := by
  refine Ct.of (by decide +kernel) (Nat.le_of_ble_eq_true rfl) (fun X A hX M hr => ?_)
  subst hX
  have tail : ∀ (tk2 lo2 : Int32) (C2 : Nat → Int32) (f2 : Nat) (tm2 ky2 ld2 : Nat → Int32) (z2 : Nat) (tt2 tq2 : Nat → Int32) (nb2 : Nat → Int64) (Q : State → Prop), (Q = GQ D X A ad 16 (fun v cs => v = some (.int (ag + 1)) ∧ cs = stW D ad nn kk st sd (ag + 1) tk2 lo2 C2 tg f2 tm2 ky2 ld2 z2 tt2 tq2 nb2 (bif mtB mt (min a b) (max a b) then pr + 1 else pr) (mtF mt (min a b) (max a b)) (chgR S (min a b) (max a b) (arcKey (min a b) (max a b)) 1 (lvK sd (arcKey (min a b) (max a b)) + 1)))) → G D X A 0 0 Q ad 67 [some (.ref (ad 0)), some (.int (nI a)), some (.int (nI b)), some (.int (nI (min a b))), some (.int (nI (max a b)))] [] (stW D ad nn kk st sd (ag + 1) tk2 lo2 C2 tg f2 tm2 ky2 ld2 z2 tt2 tq2 nb2 pr mt S) := by
    intro tk2 lo2 C2 f2 tm2 ky2 ld2 z2 tt2 tq2 nb2 Q hQ
    subst hQ
    refine G_aload_n (pc := 67) M dX4_accept_67 rfl ?_
    refine G_getf (pc := 68) M dX4_accept_68 fl_X4_35 rfl (by first | rfl | assumption) ?_
    refine G_iload_n (pc := 71) M dX4_accept_71 rfl ?_
    refine G_iload (pc := 72) M dX4_accept_72 rfl ?_
    refine G_callv (pc := 74) M [12, 13] dX4_accept_74 mv_X4_95 (c_mAccept D _ (fun j => ad (pn [12, 13] j)) pr mt (min a b) (max a b) (by omega) (by omega)) rfl ⟨rfl, rfl, trivial⟩ rfl rfl rfl rfl (Nat.le_of_ble_eq_true rfl) (Nat.le_of_ble_eq_true rfl) (Nat.le_of_ble_eq_true rfl) ⟨Nat.zero_le _, Nat.zero_le _⟩ (fun v c1 hq hlen => ?_)
    obtain ⟨rfl, rfl⟩ := hq
    try dsimp only [sall, List.set, Option.toList, List.cons_append, List.nil_append]
    refine G_aload_n (pc := 77) M dX4_accept_77 rfl ?_
    refine G_getf (pc := 78) M dX4_accept_78 fl_X4_42 rfl (by first | rfl | assumption) ?_
    refine G_iload_n (pc := 81) M dX4_accept_81 rfl ?_
    refine G_iload (pc := 82) M dX4_accept_82 rfl ?_
    refine G_iconst (pc := 84) (v := 1) M dX4_accept_84 (by decide +kernel) ?_
    refine G_callv (pc := 85) M [14, 15] dX4_accept_85 mv_X4_97 (c_changeC D _ (fun j => ad (pn [14, 15] j)) nn sd S (min a b) (max a b) 1 neg1 (by omega) (by omega)) rfl ⟨rfl, rfl, trivial⟩ rfl rfl rfl rfl (Nat.le_of_ble_eq_true rfl) (Nat.le_of_ble_eq_true rfl) (Nat.le_of_ble_eq_true rfl) ⟨Nat.zero_le _, Nat.zero_le _⟩ (fun v c1 hq hlen => ?_)
    obtain ⟨rfl, rfl⟩ := hq
    try dsimp only [sall, List.set, Option.toList, List.cons_append, List.nil_append]
    refine G_pop (pc := 88) M dX4_accept_88 rfl ?_
    refine G_aload_n (pc := 89) M dX4_accept_89 rfl ?_
    refine G_getf (pc := 90) M dX4_accept_90 fl_X4_64 rfl (by first | rfl | assumption) ?_
    exact G_iret M hr dX4_accept_93 rfl ⟨rfl, rfl⟩
  have wk : ∀ {Q1 Q2 : Option Value → List va_E → Prop} {pc : Nat} {lv : List (Option Value)} {st : List Value} {cs : List va_E}, (∀ v c, Q1 v c → Q2 v c) → G D X A 0 0 (GQ D X A ad 16 Q1) ad pc lv st cs → G D X A 0 0 (GQ D X A ad 16 Q2) ad pc lv st cs := G_weak
  refine G_iload_n (pc := 0) M dX4_accept_0 rfl ?_
  refine G_iload_n (pc := 1) M dX4_accept_1 rfl ?_
  refine G_mmin (pc := 2) M dX4_accept_2 mm_X4_77 rfl (Nat.le_of_ble_eq_true rfl) (Nat.le_of_ble_eq_true rfl) (Nat.zero_le _) (Nat.zero_le _) ?_
  rw [mn_nI (by omega) (by omega)]
  refine G_istore_n (pc := 5) M dX4_accept_5 (Nat.le_of_ble_eq_true rfl) ?_
  refine G_iload_n (pc := 6) M dX4_accept_6 rfl ?_
  refine G_iload_n (pc := 7) M dX4_accept_7 rfl ?_
  refine G_mmax (pc := 8) M dX4_accept_8 mm_X4_83 rfl (Nat.le_of_ble_eq_true rfl) (Nat.le_of_ble_eq_true rfl) (Nat.zero_le _) (Nat.zero_le _) ?_
  rw [mx_nI (by omega) (by omega)]
  refine G_istore (pc := 11) M dX4_accept_11 (Nat.le_of_ble_eq_true rfl) ?_
  refine G_aload_n (pc := 13) M dX4_accept_13 rfl ?_
  refine G_dup (pc := 14) M dX4_accept_14 rfl ?_
  refine G_getf (pc := 15) M dX4_accept_15 fl_X4_64 rfl (by first | rfl | assumption) ?_
  refine G_iconst (pc := 18) (v := 1) M dX4_accept_18 (by decide +kernel) ?_
  refine G_iadd (pc := 19) M dX4_accept_19 ?_
  refine G_putfi (pc := 20) M dX4_accept_20 fl_X4_64 rfl (Nat.le_of_ble_eq_true rfl) ?_
  try dsimp only [List.set]
  refine G_aload_n (pc := 23) M dX4_accept_23 rfl ?_
  refine G_getf (pc := 24) M dX4_accept_24 fl_X4_12 rfl (by first | rfl | assumption) ?_
  refine G_iload_n (pc := 27) M dX4_accept_27 rfl ?_
  refine G_callv (pc := 28) M [1, 2, 3] dX4_accept_28 mv_X4_86 (c_cCount D _ (fun j => ad (pn [1, 2, 3] j)) nn kk a tk lo C tg hnn ha) rfl ⟨rfl, rfl, rfl, trivial⟩ rfl rfl rfl rfl (Nat.le_of_ble_eq_true rfl) (Nat.le_of_ble_eq_true rfl) (Nat.le_of_ble_eq_true rfl) ⟨Nat.zero_le _, Nat.zero_le _⟩ (fun v c1 hq hlen => ?_)
  obtain ⟨rfl, rfl⟩ := hq
  try dsimp only [sall, List.set, Option.toList, List.cons_append, List.nil_append]
  refine G_aload_n (pc := 31) M dX4_accept_31 rfl ?_
  refine G_getf (pc := 32) M dX4_accept_32 fl_X4_12 rfl (by first | rfl | assumption) ?_
  refine G_iload_n (pc := 35) M dX4_accept_35 rfl ?_
  refine G_callv (pc := 36) M [1, 2, 3] dX4_accept_36 mv_X4_86 (c_cCount D _ (fun j => ad (pn [1, 2, 3] j)) nn kk b (kT C nn kk tk a) (kL C kk tk lo a) (kC C nn kk tk a) tg hnn hb) rfl ⟨rfl, rfl, rfl, trivial⟩ rfl rfl rfl rfl (Nat.le_of_ble_eq_true rfl) (Nat.le_of_ble_eq_true rfl) (Nat.le_of_ble_eq_true rfl) ⟨Nat.zero_le _, Nat.zero_le _⟩ (fun v c1 hq hlen => ?_)
  obtain ⟨rfl, rfl⟩ := hq
  try dsimp only [sall, List.set, Option.toList, List.cons_append, List.nil_append]
  refine G_aload_n (pc := 39) M dX4_accept_39 rfl ?_
  refine G_getf (pc := 40) M dX4_accept_40 fl_X4_21 rfl (by first | rfl | assumption) ?_
  refine G_iload_n (pc := 43) M dX4_accept_43 rfl ?_
  refine G_iload (pc := 44) M dX4_accept_44 rfl ?_
  refine G_aload_n (pc := 46) M dX4_accept_46 rfl ?_
  refine G_getf (pc := 47) M dX4_accept_47 fl_X4_64 rfl (by first | rfl | assumption) ?_
  refine G_callv (pc := 50) M [4, 5, 6, 7] dX4_accept_50 mv_X4_90 (c_fAccept D _ (fun j => ad (pn [4, 5, 6, 7] j)) fn (min a b) (max a b) ftm fky ld (ag + 1) fu fv hfn (by omega) (by omega) hK) rfl ⟨rfl, rfl, rfl, rfl, trivial⟩ rfl rfl rfl rfl (Nat.le_of_ble_eq_true rfl) (Nat.le_of_ble_eq_true rfl) (Nat.le_of_ble_eq_true rfl) ⟨Nat.zero_le _, Nat.zero_le _⟩ (fun v c1 hq hlen => ?_)
  obtain ⟨rfl, ld2, rfl⟩ := hq
  try dsimp only [sall, List.set, Option.toList, List.cons_append, List.nil_append]
  refine G_aload_n (pc := 53) M dX4_accept_53 rfl ?_
  refine G_getf (pc := 54) M dX4_accept_54 fl_X4_28 rfl (by first | rfl | assumption) ?_
  refine G_iload_n (pc := 57) M dX4_accept_57 rfl ?_
  refine G_iload (pc := 58) M dX4_accept_58 rfl ?_
  refine G_aload_n (pc := 60) M dX4_accept_60 rfl ?_
  refine G_getf (pc := 61) M dX4_accept_61 fl_X4_64 rfl (by first | rfl | assumption) ?_
  refine G_callv (pc := 64) M [8, 9, 10, 11] dX4_accept_64 mv_X4_94 (c_tAccept D _ (fun j => ad (pn [8, 9, 10, 11] j)) nn st z (min a b) (max a b) ttm tky nb (ag + 1) hnn hst hz (by omega) (by omega)) rfl ⟨rfl, rfl, rfl, rfl, trivial⟩ rfl rfl rfl rfl (Nat.le_of_ble_eq_true rfl) (Nat.le_of_ble_eq_true rfl) (Nat.le_of_ble_eq_true rfl) ⟨Nat.zero_le _, Nat.zero_le _⟩ (fun v c1 hq hlen => ?_)
  obtain ⟨rfl, rfl⟩ := hq
  try dsimp only [sall, List.set, Option.toList, List.cons_append, List.nil_append]
  by_cases hd : dst nb nn (max a b) (st + 1) 0 (one (min a b)) (one (min a b)) = -2
  · rw [if_pos hd]
    exact wk (fun v c q => ⟨q.1, ld2, by rw [if_pos hd]; exact q.2⟩) (tail _ _ _ _ _ _ ld2 _ _ _ _ _ rfl)
  · rw [if_neg hd]
    exact wk (fun v c q => ⟨q.1, ld2, by rw [if_neg hd]; exact q.2⟩) (tail _ _ _ _ _ _ ld2 _ _ _ _ _ rfl)
theorem c_isApartFrom (D : DD) (l : Launch) (ad : Nat → Nat) (fs gs : List Value) (nn kk st n2 k2 s2 : Nat) (sd d2 : Int64) (h : nn < 100 ∧ kk < 100 ∧ st < 100 ∧ n2 < 100 ∧ k2 < 100 ∧ s2 < 100) (hf5 : gt fs 5 = some (.int (nI nn))) (hf6 : gt fs 6 = some (.int (nI kk))) (hf7 : gt fs 7 = some (.int (nI st))) (hf8 : gt fs 8 = some (.long sd)) (hg5 : gt gs 5 = some (.int (nI n2))) (hg6 : gt gs 6 = some (.int (nI k2))) (hg7 : gt gs 7 = some (.int (nI s2))) (hg8 : gt gs 8 = some (.long d2)) : Ct D l mi_X4_isApartFrom [.ref (ad 0), .ref (ad 1)] ad [ob 4 fs, ob 4 gs] (fun v c => v = some (.int (bz (!(decide (nn = n2) && decide (kk = k2) && decide (st = s2) && decide (sd = d2))))) ∧ c = [ob 4 fs, ob 4 gs]) := by
  have q1 : nI nn = nI n2 ↔ nn = n2 := nI_eq (by omega) (by omega)
  have q2 : nI kk = nI k2 ↔ kk = k2 := nI_eq (by omega) (by omega)
  have q3 : nI st = nI s2 ↔ st = s2 := nI_eq (by omega) (by omega)
  refine Ct.of (by decide +kernel) (Nat.le_of_ble_eq_true rfl) (fun X A hX M hr => ?_)
  subst hX
  refine G_aload_n (pc := 0) M dX4_isApartFrom_0 rfl ?_
  refine G_getf (pc := 1) M dX4_isApartFrom_1 fl_X4_50 rfl (by first | rfl | assumption) ?_
  refine G_aload_n (pc := 4) M dX4_isApartFrom_4 rfl ?_
  refine G_getf (pc := 5) M dX4_isApartFrom_5 fl_X4_50 rfl (by first | rfl | assumption) ?_
  refine G_icmp_ne (pc := 8) M 45 dX4_isApartFrom_8 (by decide) (fun h8 => ?_) (fun h8 => ?_)
  · rw [q1] at h8
    refine G_iconst (pc := 45) (v := 1) M dX4_isApartFrom_45 (by decide +kernel) ?_
    refine G_goto (pc := 46) M 50 dX4_isApartFrom_46 (by decide) ?_
    exact G_zret M hr dX4_isApartFrom_50 rfl rfl ⟨by simp_all [bz], rfl⟩
  · rw [q1] at h8
    refine G_aload_n (pc := 11) M dX4_isApartFrom_11 rfl ?_
    refine G_getf (pc := 12) M dX4_isApartFrom_12 fl_X4_54 rfl (by first | rfl | assumption) ?_
    refine G_aload_n (pc := 15) M dX4_isApartFrom_15 rfl ?_
    refine G_getf (pc := 16) M dX4_isApartFrom_16 fl_X4_54 rfl (by first | rfl | assumption) ?_
    refine G_icmp_ne (pc := 19) M 45 dX4_isApartFrom_19 (by decide) (fun h19 => ?_) (fun h19 => ?_)
    · rw [q2] at h19
      refine G_iconst (pc := 45) (v := 1) M dX4_isApartFrom_45 (by decide +kernel) ?_
      refine G_goto (pc := 46) M 50 dX4_isApartFrom_46 (by decide) ?_
      exact G_zret M hr dX4_isApartFrom_50 rfl rfl ⟨by simp_all [bz], rfl⟩
    · rw [q2] at h19
      refine G_aload_n (pc := 22) M dX4_isApartFrom_22 rfl ?_
      refine G_getf (pc := 23) M dX4_isApartFrom_23 fl_X4_57 rfl (by first | rfl | assumption) ?_
      refine G_aload_n (pc := 26) M dX4_isApartFrom_26 rfl ?_
      refine G_getf (pc := 27) M dX4_isApartFrom_27 fl_X4_57 rfl (by first | rfl | assumption) ?_
      refine G_icmp_ne (pc := 30) M 45 dX4_isApartFrom_30 (by decide) (fun h30 => ?_) (fun h30 => ?_)
      · rw [q3] at h30
        refine G_iconst (pc := 45) (v := 1) M dX4_isApartFrom_45 (by decide +kernel) ?_
        refine G_goto (pc := 46) M 50 dX4_isApartFrom_46 (by decide) ?_
        exact G_zret M hr dX4_isApartFrom_50 rfl rfl ⟨by simp_all [bz], rfl⟩
      · rw [q3] at h30
        refine G_aload_n (pc := 33) M dX4_isApartFrom_33 rfl ?_
        refine G_getf (pc := 34) M dX4_isApartFrom_34 fl_X4_60 rfl (by first | rfl | assumption) ?_
        refine G_aload_n (pc := 37) M dX4_isApartFrom_37 rfl ?_
        refine G_getf (pc := 38) M dX4_isApartFrom_38 fl_X4_60 rfl (by first | rfl | assumption) ?_
        refine G_lcmp (pc := 41) M dX4_isApartFrom_41 ?_
        refine G_if_eq (pc := 42) M 49 dX4_isApartFrom_42 (by decide) (fun h42 => ?_) (fun h42 => ?_)
        · rw [lg_cmp_eq] at h42
          refine G_iconst (pc := 49) (v := 0) M dX4_isApartFrom_49 (by decide +kernel) ?_
          exact G_zret M hr dX4_isApartFrom_50 rfl rfl ⟨by simp_all [bz], rfl⟩
        · rw [lg_cmp_eq] at h42
          refine G_iconst (pc := 45) (v := 1) M dX4_isApartFrom_45 (by decide +kernel) ?_
          refine G_goto (pc := 46) M 50 dX4_isApartFrom_46 (by decide) ?_
          exact G_zret M hr dX4_isApartFrom_50 rfl rfl ⟨by simp_all [bz], rfl⟩
