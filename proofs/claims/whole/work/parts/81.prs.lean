/-! pairs of calls: the questions -/
theorem pick (s : Int32) : ∃ i, i < 3 ∧ (okS s = true → s = nI i) := by
  cases e : okS s with
  | false => exact ⟨0, by omega, fun h => absurd h (by decide)⟩
  | true =>
    obtain ⟨k, h1, h2⟩ := okS_of e
    exact ⟨k, h1, fun _ => h2⟩
section
variable {D : DD} {l : Launch} {m1 m2 : MI} {As : List Value} {ad : Nat → Nat} {N : Nat} {lev : Int32} {Ps : Nat → SP} {R : RS} {le jo wy : Nat → Int32} {i : Nat}
theorem sf_ok (ad : Nat → Nat) {i : Nat} (hi : i < 3) {s : Int32} (hs : okS s = true → s = nI i) : okS s = true → sf ad s.toNatClampNeg = some ((fun j => ad (pn (isC i) j)) 2) := fun e => by
  rw [hs e, cl_nI (by omega)]; exact sf_at ad i hi
theorem pairG {T : Option Value → Prop} {A1 : Option Value} (hT : T A1) (hi : i < 3) {lev2 : Int32} {P2 : SP → Prop} {Z2 : RS → Prop} (hK : ∀ P R2, P2 P → Z2 R2 → ∀ j, j < 3 → ∃ g u v p, RX (N + 1) j (updS Ps i P j) g u v p R2)
    (h1 : Ct D l m1 (.ref (ad (pn (isC i) 0)) :: As) (fun j => ad (pn (isC i) j)) (scW D (fun j => ad (pn (isC i) j)) lev (sf ad) (Ps i)) (fun v c => v = A1 ∧ ∃ P, P2 P ∧ c = scW D (fun j => ad (pn (isC i) j)) lev2 (sf ad) P))
    (h2 : Ct D l m2 (.ref (ad (pn isR 0)) :: As) (fun j => ad (pn isR j)) (rW D (fun j => ad (pn isR j)) R lev le jo wy) (fun v c => v = A1 ∧ ∃ R2 le2 jo2 wy2, Z2 R2 ∧ c = rW D (fun j => ad (pn isR j)) R2 lev2 le2 jo2 wy2)) :
    Pair D l m1 m2 As ad N (world D ad lev Ps R lev le jo wy) T := by
  have c1 := lift_c (R := R) (rl := lev) (le := le) (jo := jo) (wy := wy) hi (Qm := fun v lv3 P3 => v = A1 ∧ lv3 = lev2 ∧ P2 P3) (Ct.weak (fun v c hv => by
    obtain ⟨e1, P, e2, e3⟩ := hv
    exact ⟨lev2, P, ⟨e1, rfl, e2⟩, e3⟩) h1)
  refine ⟨_, c1, fun v c hv => ?_⟩
  obtain ⟨lv3, P3, ⟨e1, e2, e3⟩, e4⟩ := hv
  subst e4
  subst e2
  refine ⟨by rw [e1]; exact hT, ⟨_, rfl⟩, ?_⟩
  have c2 := lift_r (lev := lv3) (Ps := updS Ps i P3) (Qm := fun v R2 rl2 => v = A1 ∧ rl2 = lv3 ∧ Z2 R2) (Ct.weak (fun v c hv => by
    obtain ⟨f1, R2, le2, jo2, wy2, f2, f3⟩ := hv
    exact ⟨R2, lv3, le2, jo2, wy2, ⟨f1, rfl, f2⟩, f3⟩) h2)
  refine Ct.weak (fun v2 c2 hv2 => ?_) c2
  obtain ⟨R2, rl2, le2, jo2, wy2, ⟨f1, f2, f3⟩, f4⟩ := hv2
  subst f4
  subst f2
  exact ⟨f1.trans e1.symm, rl2, updS Ps i P3, R2, le2, jo2, wy2, rfl, hK P3 R2 e3 f3⟩
theorem pairQ {T : Option Value → Prop} {A1 : Option Value} (hT : T A1) (hi : i < 3) (hR : ∀ j, j < 3 → ∃ g u v p, RX N j (Ps j) g u v p R) {lev2 : Int32} {P2 : SP → Prop} (hP : ∀ P, P2 P → ∃ g u v p, RX N i P g u v p R)
    (h1 : Ct D l m1 (.ref (ad (pn (isC i) 0)) :: As) (fun j => ad (pn (isC i) j)) (scW D (fun j => ad (pn (isC i) j)) lev (sf ad) (Ps i)) (fun v c => v = A1 ∧ ∃ P, P2 P ∧ c = scW D (fun j => ad (pn (isC i) j)) lev2 (sf ad) P))
    (h2 : Ct D l m2 (.ref (ad (pn isR 0)) :: As) (fun j => ad (pn isR j)) (rW D (fun j => ad (pn isR j)) R lev le jo wy) (fun v c => v = A1 ∧ ∃ le2 jo2 wy2, c = rW D (fun j => ad (pn isR j)) R lev2 le2 jo2 wy2)) :
    Pair D l m1 m2 As ad N (world D ad lev Ps R lev le jo wy) T := by
  refine pairG (Z2 := fun R2 => R2 = R) hT hi (fun P R2 q1 q2 j hj => ?_) h1 (Ct.weak (fun v c hv => ?_) h2)
  · subst q2
    by_cases e : j = i
    · subst e
      obtain ⟨g, u, v, p, h⟩ := hP P q1
      exact ⟨g, u, v, p, by rw [show updS Ps j P j = P from if_pos rfl]; exact h.mono (by omega)⟩
    · obtain ⟨g, u, v, p, h⟩ := hR j hj
      exact ⟨g, u, v, p, by rw [show updS Ps i P j = Ps j from if_neg e]; exact h.mono (by omega)⟩
  · obtain ⟨f1, le2, jo2, wy2, f3⟩ := hv
    exact ⟨f1, R, le2, jo2, wy2, rfl, f3⟩
/-- a question that changes no cell of the class -/
theorem pairS {T : Option Value → Prop} {A1 : Option Value} (hT : T A1) (hi : i < 3) (hR : ∀ j, j < 3 → ∃ g u v p, RX N j (Ps j) g u v p R)
    (h1 : Ct D l m1 (.ref (ad (pn (isC i) 0)) :: As) (fun j => ad (pn (isC i) j)) (scW D (fun j => ad (pn (isC i) j)) lev (sf ad) (Ps i)) (fun v c => v = A1 ∧ c = scW D (fun j => ad (pn (isC i) j)) lev (sf ad) (Ps i)))
    (h2 : Ct D l m2 (.ref (ad (pn isR 0)) :: As) (fun j => ad (pn isR j)) (rW D (fun j => ad (pn isR j)) R lev le jo wy) (fun v c => v = A1 ∧ ∃ le2 jo2 wy2, c = rW D (fun j => ad (pn isR j)) R lev le2 jo2 wy2)) :
    Pair D l m1 m2 As ad N (world D ad lev Ps R lev le jo wy) T :=
  pairQ (P2 := fun P => P = Ps i) hT hi hR (fun P e => by rw [e]; exact hR i hi) (Ct.weak (fun v c hv => ⟨hv.1, Ps i, rfl, hv.2⟩) h1) h2
theorem RX.hu {g : Nat} {u v p : Nat → Nat} (h : RX N i (Ps i) g u v p R) (hi : i < 3) {s : Int32} (hs : okS s = true → s = nI i) : okS s = true → ∀ t, t < g → R.lw (4200 * s.toNatClampNeg + t) = nI (u t) ∧ u t < 64 := fun e t ht => by
  rw [hs e, cl_nI (by omega)]; exact ⟨(h.arc t ht).1, (h.b64 t ht).1⟩
theorem RX.hv {g : Nat} {u v p : Nat → Nat} (h : RX N i (Ps i) g u v p R) (hi : i < 3) {s : Int32} (hs : okS s = true → s = nI i) : okS s = true → ∀ t, t < g → R.hg (4200 * s.toNatClampNeg + t) = nI (v t) ∧ v t < 64 := fun e t ht => by
  rw [hs e, cl_nI (by omega)]; exact ⟨(h.arc t ht).2.1, (h.b64 t ht).2⟩
theorem RX.hag {g : Nat} {u v p : Nat → Nat} (h : RX N i (Ps i) g u v p R) (hi : i < 3) {s : Int32} (hs : okS s = true → s = nI i) : okS s = true → R.ag s.toNatClampNeg = nI g := fun e => by
  rw [hs e, cl_nI (by omega)]; exact h.ag.2.1
end
section
variable {D : DD} {l : Launch} {ad : Nat → Nat} {N : Nat} {cs : List va_E}
theorem p_told (hN : N ≤ 511) (hI : INV D ad N cs) (s w : Int32) : Pair D l mi_X6_told mi_X7_told [.int s, .int w] ad N cs isI := by
  obtain ⟨lev, Ps, R, le, jo, wy, rfl, hR⟩ := hI
  obtain ⟨i, hi, hs⟩ := pick s
  obtain ⟨g, u, v, p, h⟩ := hR i hi
  have hg := h.ag.2.2
  refine pairS ⟨_, rfl⟩ hi hR (c_told D l (fun j => ad (pn (isC i) j)) lev (sf ad) (Ps i) s w (sf_ok ad hi hs)) (Ct.weak (fun v2 c hv => ?_) (r_told D l (fun j => ad (pn isR j)) R.nd R.sl R.sr R.sd R.ag R.lo R.lw R.hg R.ct R.mt R.sm R.th R.tn lev le jo wy s w g u v (by omega) (h.hag hi hs) (h.hu hi hs) (h.hv hi hs)))
  obtain ⟨e1, le2, jo2, e2⟩ := hv
  exact ⟨by rw [e1, an_told h hi hs], le2, jo2, wy, e2⟩
theorem p_span (hN : N ≤ 511) (hI : INV D ad N cs) (s a e : Int32) : Pair D l mi_X6_span mi_X7_span [.int s, .int a, .int e] ad N cs isI := by
  obtain ⟨lev, Ps, R, le, jo, wy, rfl, hR⟩ := hI
  obtain ⟨i, hi, hs⟩ := pick s
  obtain ⟨g, u, v, p, h⟩ := hR i hi
  refine pairS ⟨_, rfl⟩ hi hR (c_span D l (fun j => ad (pn (isC i) j)) lev (sf ad) (Ps i) (fun _ => nI (sNn (Ps i))) s a e (sf_ok ad hi hs) rfl h.nd.2.1) (Ct.weak (fun v2 c hv => ?_) (r_span D l (fun j => ad (pn isR j)) R.nd R.sl R.sr R.sd R.ag R.lo R.lw R.hg R.ct R.mt R.sm R.th R.tn lev le jo wy s a e (sNn (Ps i)) (h.cnd hi hs) h.nd.2.1))
  exact ⟨by rw [hv.1, an_span h hi hs], le, jo, wy, hv.2⟩
theorem p_slot (hN : N ≤ 511) (hI : INV D ad N cs) (s j w : Int32) : Pair D l mi_X6_slot mi_X7_slot [.int s, .int j, .int w] ad N cs isI := by
  obtain ⟨lev, Ps, R, le, jo, wy, rfl, hR⟩ := hI
  obtain ⟨i, hi, hs⟩ := pick s
  obtain ⟨g, u, v, p, h⟩ := hR i hi
  refine pairS ⟨_, rfl⟩ hi hR (c_slot D l (fun j => ad (pn (isC i) j)) lev (sf ad) (Ps i) s j w (sf_ok ad hi hs) h.nd.2.1 _ h.cr.tk (cntP_le _ 64)) (Ct.weak (fun v2 c hv => ?_) (r_slot D l (fun j => ad (pn isR j)) R.nd R.sl R.sr R.sd R.ag R.lo R.lw R.hg R.ct R.mt R.sm R.th R.tn lev le jo wy s j w))
  exact ⟨by rw [hv.1, an_slot h hi hs], le, jo, wy, hv.2⟩
theorem p_parts (hN : N ≤ 511) (hI : INV D ad N cs) (s n : Int32) : Pair D l mi_X6_parts mi_X7_parts [.int s, .int n] ad N cs isI := by
  obtain ⟨lev, Ps, R, le, jo, wy, rfl, hR⟩ := hI
  obtain ⟨i, hi, hs⟩ := pick s
  obtain ⟨g, u, v, p, h⟩ := hR i hi
  have hg := h.ag.2.2
  refine pairS ⟨_, rfl⟩ hi hR (c_parts D l (fun j => ad (pn (isC i) j)) lev (sf ad) (Ps i) s n (sf_ok ad hi hs) (by have := h.fn; omega)) (Ct.weak (fun v2 c hv => ?_) (r_parts D l (fun j => ad (pn isR j)) R.nd R.sl R.sr R.sd R.ag R.lo R.lw R.hg R.ct R.mt R.sm R.th R.tn lev le jo wy s n g u v (by omega) (h.hag hi hs) (h.hu hi hs) (h.hv hi hs)))
  obtain ⟨e1, le2, jo2, e2⟩ := hv
  exact ⟨by rw [e1, an_parts h (by omega) hi hs], le2, jo2, wy, e2⟩
theorem p_part (hN : N ≤ 511) (hI : INV D ad N cs) (s n a : Int32) : Pair D l mi_X6_part mi_X7_part [.int s, .int n, .int a] ad N cs isI := by
  obtain ⟨lev, Ps, R, le, jo, wy, rfl, hR⟩ := hI
  obtain ⟨i, hi, hs⟩ := pick s
  obtain ⟨g, u, v, p, h⟩ := hR i hi
  have hg := h.ag.2.2
  obtain ⟨fu, fv, hK, hf⟩ := h.fr.arc h.b64
  refine pairQ (A1 := some (.int (bif okN (fun _ => nI (sNn (Ps i))) s a && !decide (n < 0) then nI (lab fu fv (sFn (Ps i)) (afr (sFt (Ps i)) (sAg (Ps i) - n) (sFn (Ps i))) a.toNatClampNeg) else -1))) (lev2 := lev) (P2 := fun P => ∃ ld, P = sSetLd (Ps i) ld) ⟨_, rfl⟩ hi hR (fun P e => by obtain ⟨ld, rfl⟩ := e; exact ⟨g, u, v, p, h.setLd ld⟩) (Ct.weak (fun v2 c hv => ?_) (c_part D l (fun j => ad (pn (isC i) j)) lev (sf ad) (Ps i) (fun _ => nI (sNn (Ps i))) s n a fu fv (sf_ok ad hi hs) rfl h.nd.2.1 (by have := h.fn; omega) hK)) (Ct.weak (fun v2 c hv => ?_) (r_part D l (fun j => ad (pn isR j)) R.nd R.sl R.sr R.sd R.ag R.lo R.lw R.hg R.ct R.mt R.sm R.th R.tn lev le jo wy s n a (sNn (Ps i)) (h.cnd hi hs) h.nd.2.1 g u v (by omega) (h.hag hi hs) (h.hu hi hs) (h.hv hi hs)))
  · obtain ⟨e1, ld, e2⟩ := hv
    exact ⟨e1, sSetLd (Ps i) ld, ⟨ld, rfl⟩, e2⟩
  · obtain ⟨e1, le2, jo2, e2⟩ := hv
    exact ⟨by rw [e1, an_part h (by omega) hi hf hs], le2, jo2, wy, e2⟩
theorem p_tree (hN : N ≤ 511) (hI : INV D ad N cs) (s k w : Int32) : Pair D l mi_X6_tree mi_X7_tree [.int s, .int k, .int w] ad N cs isI := by
  obtain ⟨lev, Ps, R, le, jo, wy, rfl, hR⟩ := hI
  obtain ⟨i, hi, hs⟩ := pick s
  obtain ⟨g, u, v, p, h⟩ := hR i hi
  have hg := h.ag.2.2
  obtain ⟨fu, fv, hK, hf⟩ := h.fr.arc h.b64
  refine pairS ⟨_, rfl⟩ hi hR (c_tree D l (fun j => ad (pn (isC i) j)) lev (sf ad) (Ps i) s k w fu fv (sf_ok ad hi hs) (by have := h.fn; omega) hK) (Ct.weak (fun v2 c hv => ?_) (r_tree D l (fun j => ad (pn isR j)) R.nd R.sl R.sr R.sd R.ag R.lo R.lw R.hg R.ct R.mt R.sm R.th R.tn lev le jo wy s k w g u v (by omega) (h.hag hi hs) (h.hu hi hs) (h.hv hi hs)))
  obtain ⟨e1, le2, jo2, e2⟩ := hv
  exact ⟨by rw [e1, an_tree h (by omega) hi hf], le2, jo2, wy, e2⟩
theorem p_since (hN : N ≤ 511) (hI : INV D ad N cs) (s a b : Int32) : Pair D l mi_X6_since mi_X7_since [.int s, .int a, .int b] ad N cs isI := by
  obtain ⟨lev, Ps, R, le, jo, wy, rfl, hR⟩ := hI
  obtain ⟨i, hi, hs⟩ := pick s
  obtain ⟨g, u, v, p, h⟩ := hR i hi
  have hg := h.ag.2.2
  obtain ⟨fu, fv, hK, hf⟩ := h.fr.arc h.b64
  refine pairQ (A1 := some (.int (bif okN (fun _ => nI (sNn (Ps i))) s a && okN (fun _ => nI (sNn (Ps i))) s b then sinceC (Ps i) fu fv a b else -1))) (lev2 := lev) (P2 := fun P => ∃ ld, P = sSetLd (Ps i) ld) ⟨_, rfl⟩ hi hR (fun P e => by obtain ⟨ld, rfl⟩ := e; exact ⟨g, u, v, p, h.setLd ld⟩) (Ct.weak (fun v2 c hv => ?_) (c_since D l (fun j => ad (pn (isC i) j)) lev (sf ad) (Ps i) (fun _ => nI (sNn (Ps i))) s a b fu fv (sf_ok ad hi hs) rfl h.nd.2.1 (by have := h.fn; omega) hK)) (Ct.weak (fun v2 c hv => ?_) (r_since D l (fun j => ad (pn isR j)) R.nd R.sl R.sr R.sd R.ag R.lo R.lw R.hg R.ct R.mt R.sm R.th R.tn lev le jo wy s a b (sNn (Ps i)) (h.cnd hi hs) h.nd.2.1 g u v (by omega) (h.hag hi hs) (h.hu hi hs) (h.hv hi hs)))
  · obtain ⟨e1, ld, e2⟩ := hv
    exact ⟨e1, sSetLd (Ps i) ld, ⟨ld, rfl⟩, e2⟩
  · rcases hv with ⟨q1, q2, q3⟩ | ⟨q1, q2, q3, le2, jo2, q4⟩ | ⟨q1, q2, ⟨n, n1, n2, n3, n4⟩, le2, jo2, q4⟩
    · exact ⟨by rw [q2, an_since h (by omega) hi hf hs (.inl ⟨q1, rfl⟩)], le, jo, wy, q3⟩
    · exact ⟨by rw [q3, an_since h (by omega) hi hf hs (.inr (.inl ⟨q1, q2, rfl⟩))], le2, jo2, wy, q4⟩
    · exact ⟨by rw [n2, an_since h (by omega) hi hf hs (.inr (.inr ⟨q1, q2, n, n1, rfl, n3, n4⟩))], le2, jo2, wy, q4⟩
theorem p_far (hN : N ≤ 511) (hI : INV D ad N cs) (s a b : Int32) : Pair D l mi_X6_far mi_X7_far [.int s, .int a, .int b] ad N cs isI := by
  obtain ⟨lev, Ps, R, le, jo, wy, rfl, hR⟩ := hI
  obtain ⟨i, hi, hs⟩ := pick s
  obtain ⟨g, u, v, p, h⟩ := hR i hi
  have hg := h.ag.2.2
  have hz := h.tn.2
  refine pairS ⟨_, rfl⟩ hi hR (c_far D l (fun j => ad (pn (isC i) j)) lev (sf ad) (Ps i) (fun _ => nI (sNn (Ps i))) s a b (sf_ok ad hi hs) rfl h.nd.2.1) (Ct.weak (fun v2 c hv => ?_) (r_far D l (fun j => ad (pn isR j)) R.nd R.sl R.sr R.sd R.ag R.lo R.lw R.hg R.ct R.mt R.sm R.th R.tn lev le jo wy s a b (sNn (Ps i)) (h.cnd hi hs) h.nd.2.1 (sZ (Ps i)) (fun k => u (p k)) (fun k => v (p k)) (fun k => 4200 * i + p k) (by omega) (fun e => by rw [hs e, cl_nI (by omega)]; exact h.tn.1) (fun e k hk => by
    rw [hs e, cl_nI (by omega)]
    have t := h.th k hk
    have t2 := h.arc _ t.2.1
    have t3 := h.b64 _ t.2.1
    exact ⟨t.1, by omega, t2.1, t3.1, t2.2.1, t3.2⟩)))
  obtain ⟨e1, wy2, e2⟩ := hv
  exact ⟨by rw [e1, an_far h hi hs], le, jo, wy2, e2⟩
theorem p_kept (hN : N ≤ 511) (hI : INV D ad N cs) (s k w : Int32) : Pair D l mi_X6_kept mi_X7_kept [.int s, .int k, .int w] ad N cs isI := by
  obtain ⟨lev, Ps, R, le, jo, wy, rfl, hR⟩ := hI
  obtain ⟨i, hi, hs⟩ := pick s
  obtain ⟨g, u, v, p, h⟩ := hR i hi
  have hg := h.ag.2.2
  have hz := h.tn.2
  refine pairS ⟨_, rfl⟩ hi hR (c_kept D l (fun j => ad (pn (isC i) j)) lev (sf ad) (Ps i) s k w (fun k => u (p k)) (fun k => v (p k)) (sf_ok ad hi hs) (by omega) (fun k hk => ⟨(h.th k hk).2.2.2, (h.b64 _ (h.th k hk).2.1).1, (h.b64 _ (h.th k hk).2.1).2⟩)) (Ct.weak (fun v2 c hv => ?_) (r_kept D l (fun j => ad (pn isR j)) R.nd R.sl R.sr R.sd R.ag R.lo R.lw R.hg R.ct R.mt R.sm R.th R.tn lev le jo wy s k w (sZ (Ps i)) (by omega) (fun e => by
    rw [hs e, cl_nI (by omega)]
    refine ⟨h.tn.1, fun j hj => ?_⟩
    have t := h.th j hj
    rw [t.1]
    exact vp_in_nI (by omega) (by omega))))
  exact ⟨by rw [hv.1, an_kept h (by omega) hi hs], le, jo, wy, hv.2⟩
theorem p_mate (hN : N ≤ 511) (hI : INV D ad N cs) (s a : Int32) : Pair D l mi_X6_mate mi_X7_mate [.int s, .int a] ad N cs isI := by
  obtain ⟨lev, Ps, R, le, jo, wy, rfl, hR⟩ := hI
  obtain ⟨i, hi, hs⟩ := pick s
  obtain ⟨g, u, v, p, h⟩ := hR i hi
  refine pairS ⟨_, rfl⟩ hi hR (c_mate D l (fun j => ad (pn (isC i) j)) lev (sf ad) (Ps i) (fun _ => nI (sNn (Ps i))) s a (sf_ok ad hi hs) rfl h.nd.2.1) (Ct.weak (fun v2 c hv => ?_) (r_mate D l (fun j => ad (pn isR j)) R.nd R.sl R.sr R.sd R.ag R.lo R.lw R.hg R.ct R.mt R.sm R.th R.tn lev le jo wy s a (sNn (Ps i)) (h.cnd hi hs) h.nd.2.1))
  exact ⟨by rw [hv.1, an_mate h hi hs], le, jo, wy, hv.2⟩
theorem p_sum (hN : N ≤ 511) (hI : INV D ad N cs) (s a lv w : Int32) : Pair D l mi_X6_sum mi_X7_sum [.int s, .int a, .int lv, .int w] ad N cs isJ := by
  obtain ⟨lev, Ps, R, le, jo, wy, rfl, hR⟩ := hI
  obtain ⟨i, hi, hs⟩ := pick s
  obtain ⟨g, u, v, p, h⟩ := hR i hi
  refine pairS ⟨_, rfl⟩ hi hR (c_sum D l (fun j => ad (pn (isC i) j)) lev (sf ad) (Ps i) (fun _ => nI (sNn (Ps i))) s a lv w (sf_ok ad hi hs) rfl h.nd.2.1) (Ct.weak (fun v2 c hv => ?_) (r_sum D l (fun j => ad (pn isR j)) R.nd R.sl R.sr R.sd R.ag R.lo R.lw R.hg R.ct R.mt R.sm R.th R.tn lev le jo wy s a lv w (sNn (Ps i)) (h.cnd hi hs) h.nd.2.1))
  exact ⟨by rw [hv.1, an_sum h hi hs], le, jo, wy, hv.2⟩
theorem p_level (hN : N ≤ 511) (hI : INV D ad N cs) : Pair D l mi_X6_level mi_X7_level [] ad N cs isI := by
  obtain ⟨lev, Ps, R, le, jo, wy, rfl, hR⟩ := hI
  refine pairS (i := 0) (A1 := some (.int lev)) ⟨_, rfl⟩ (by omega) hR (Ct.weak (fun v2 c hv => ?_) (Ct.frame (ad := fun j => ad (pn (isC 0) j)) [0] (cs := scW D (fun j => ad (pn (isC 0) j)) lev (sf ad) (Ps 0)) (wc := [ob 6 [.ref (ad 1), .int lev]]) ⟨rfl, trivial⟩ rfl (c_level D l (fun j => ad (pn (isC 0) (pn [0] j))) (.ref (ad 1)) lev))) (Ct.weak (fun v2 c hv => ?_) (r_level D l (fun j => ad (pn isR j)) R.nd R.sl R.sr R.sd R.ag R.lo R.lw R.hg R.ct R.mt R.sm R.th R.tn lev le jo wy))
  · obtain ⟨c1, ⟨e1, e2⟩, _, e3⟩ := hv
    subst e2
    exact ⟨e1, e3⟩
  · exact ⟨hv.1, le, jo, wy, hv.2⟩
theorem p_out (hN : N ≤ 511) (hI : INV D ad N cs) (s : Int32) (set : Int64) : Pair D l mi_X6_out mi_X7_out [.int s, .long set] ad N cs isI := by
  obtain ⟨lev, Ps, R, le, jo, wy, rfl, hR⟩ := hI
  obtain ⟨i, hi, hs⟩ := pick s
  obtain ⟨g, u, v, p, h⟩ := hR i hi
  refine pairQ (A1 := some (.int (bif okS s then oA (sS (Ps i)) set (sNn (Ps i)) (oS (sS (Ps i)) set (sNn (Ps i)) 10) else -1))) (lev2 := bif okS s then oL (oS (sS (Ps i)) set (sNn (Ps i)) 10) else lev) (P2 := fun P => P = Ps i) ⟨_, rfl⟩ hi hR (fun P e => by rw [e]; exact hR i hi) (Ct.weak (fun v2 c hv => ⟨hv.1, Ps i, rfl, hv.2⟩) (c_out D l (fun j => ad (pn (isC i) j)) lev (sf ad) (Ps i) s set (sf_ok ad hi hs) h.nd.2.1)) (Ct.weak (fun v2 c hv => ?_) (r_out D l (fun j => ad (pn isR j)) R.nd R.sl R.sr R.sd R.ag R.lo R.lw R.hg R.ct R.mt R.sm R.th R.tn lev le jo wy s set (sNn (Ps i)) (h.cnd hi hs) h.nd.2.1))
  refine ⟨by rw [hv.1, an_out h hi hs], le, jo, wy, ?_⟩
  rw [an_outL h hi hs]
  exact hv.2
end
