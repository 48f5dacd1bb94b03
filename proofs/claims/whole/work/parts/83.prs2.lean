/-! pairs of calls: begin, take, add, same, merge -/
theorem rngK {lo hi : Nat} {x : Int32} (hh : hi < 2 ^ 31) (hl : lo < 2 ^ 31) (h : rng (nI lo) (nI hi) x = true) : ∃ k, lo ≤ k ∧ k ≤ hi ∧ x = nI k := by
  simp only [rng, Bool.and_eq_true, Bool.not_eq_true', decide_eq_false_iff_not] at h
  have h0 : ¬ x < 0 := fun q => h.1 (by
    rw [Int32.lt_iff_toInt_lt] at q ⊢
    rw [nI_toInt hl]
    rw [i_0] at q
    omega)
  obtain ⟨k, hk, e⟩ := nI_of h0
  subst e
  rw [nI_ltI hk hl, nI_ltI hh hk] at h
  exact ⟨k, by omega, by omega, rfl⟩
theorem okTk {t : Int32} (h : okT t = true) : ∃ k, k ≤ 7 ∧ t = nI k := by
  simp only [okT, Bool.or_eq_true, decide_eq_true_iff] at h
  rcases h with ((h | h) | h) | h
  · exact ⟨1, by omega, h⟩
  · exact ⟨3, by omega, h⟩
  · exact ⟨5, by omega, h⟩
  · exact ⟨7, by omega, h⟩
theorem bgB_of {s n k t : Int32} (h : bgB s n k t = true) : okS s = true ∧ ∃ n2 k2 t2, (2 ≤ n2 ∧ n2 ≤ 64) ∧ k2 ≤ 16 ∧ t2 ≤ 7 ∧ n = nI n2 ∧ k = nI k2 ∧ t = nI t2 := by
  simp only [bgB, Bool.and_eq_true] at h
  obtain ⟨⟨⟨h1, h2⟩, h3⟩, h4⟩ := h
  obtain ⟨n2, a1, a2, a3⟩ := rngK (lo := 2) (hi := 64) (by omega) (by omega) h2
  obtain ⟨k2, b1, b2, b3⟩ := rngK (lo := 1) (hi := 16) (by omega) (by omega) h3
  obtain ⟨t2, c1, c2⟩ := okTk h4
  exact ⟨h1, n2, k2, t2, ⟨a1, a2⟩, b2, c1, a3, b3, c2⟩
theorem arB_of {nn : Nat} {s a b : Int32} (hn : nn ≤ 64) (h : arB (fun _ => nI nn) s a b = true) : okS s = true ∧ ∃ x y, x < nn ∧ y < nn ∧ ¬ x = y ∧ a = nI x ∧ b = nI y := by
  simp only [arB, Bool.and_eq_true, Bool.not_eq_true', decide_eq_false_iff_not] at h
  obtain ⟨⟨h1, h2⟩, h3⟩ := h
  obtain ⟨q1, x, x1, rfl⟩ := okN_k hn h1
  obtain ⟨_, y, y1, rfl⟩ := okN_k hn h2
  exact ⟨q1, x, y, x1, y1, fun e => h3 (by rw [e]), rfl, rfl⟩
theorem arB_c {nd : Nat → Int32} {nn : Nat} {s a b : Int32} (h : okS s = true → nd s.toNatClampNeg = nI nn) : arB (fun _ => nI nn) s a b = arB nd s a b := by
  simp only [arB]; rw [okN_c h, okN_c h]
theorem scX_S (D : DD) (ad : Nat → Nat) (lev : Int32) (f : Nat → Option Nat) (P : SP) (Z : Nat → Int64) : scX D ad lev f (sNn P) (sKk P) (sSt P) (sSd P) (sAg P) (sTk P) (sLo P) (sC P) (sTg P) (sFn P) (sFt P) (sFk P) (sLd P) (sZ P) (sTt P) (sTq P) (sNb P) (sPr P) (sMt P) Z = scW D ad lev f (sSetS P Z) := rfl
theorem updS_at (Ps : Nat → SP) (i : Nat) (P : SP) : updS Ps i P i = P := if_pos rfl
theorem updS_ne (Ps : Nat → SP) {i j : Nat} (P : SP) (h : j ≠ i) : updS Ps i P j = Ps j := if_neg h
section
variable {D : DD} {l : Launch} {ad : Nat → Nat} {N : Nat} {cs : List va_E}
theorem p_begin (hN : N ≤ 511) (hI : INV D ad N cs) (s n k t : Int32) (wd : Int64) : Pair D l mi_X6_begin mi_X7_begin [.int s, .int n, .int k, .int t, .long wd] ad N cs isI := by
  obtain ⟨lev, Ps, R, le, jo, wy, rfl, hR⟩ := hI
  obtain ⟨i, hi, hs⟩ := pick s
  obtain ⟨g, u, v, p, h⟩ := hR i hi
  have c1 := c_begin D l (fun j => ad (pn (isC i) j)) lev (sf ad) (Ps i) s n k t wd (sf_ok ad hi hs)
  have c2 := r_begin D l (fun j => ad (pn isR j)) R.nd R.sl R.sr R.sd R.ag R.lo R.lw R.hg R.ct R.mt R.sm R.th R.tn lev le jo wy s n k t wd
  cases e : bgB s n k t with
  | false =>
    rw [e] at c1
    simp only [cond_false] at c1
    refine pairS ⟨_, rfl⟩ hi hR c1 (Ct.weak (fun v2 c hv => ?_) c2)
    rcases hv with ⟨_, q2, q3⟩ | ⟨q1, _⟩
    · exact ⟨q2, le, jo, wy, q3⟩
    · rw [e] at q1; exact absurd q1 (by decide)
  | true =>
    rw [e] at c1
    simp only [cond_true] at c1
    obtain ⟨ho, n2, k2, t2, b1, b2, b3, rfl, rfl, rfl⟩ := bgB_of e
    refine pairG (A1 := some (.int (sAg (Ps i)))) (lev2 := lev) (P2 := fun P => P = bgP (Ps i) n2 k2 t2 wd) (Z2 := fun R2 => R2 = bgR R i (nI n2) (nI k2) (nI t2) wd) ⟨_, rfl⟩ hi (fun P R2 q1 q2 j hj => ?_) (Ct.weak (fun v2 c hv => ?_) c1) (Ct.weak (fun v2 c hv => ?_) c2)
    · subst q1
      subst q2
      by_cases ej : j = i
      · subst ej
        exact ⟨0, u, v, p, by rw [updS_at]; exact RX.begin (Ps j) R (N + 1) j b1 b2 b3 wd u v p⟩
      · obtain ⟨g2, u2, v2, p2, h2⟩ := hR j hj
        exact ⟨g2, u2, v2, p2, by rw [updS_ne Ps _ ej]; exact (h2.mono (by omega)).begin_o (by have := h2.ag.2.2; omega) (fun q => ej q.symm) _ _ _ _⟩
    · refine ⟨hv.1, _, rfl, ?_⟩
      have e2 := hv.2
      rw [bgX, cl_nI (by omega), cl_nI (by omega), cl_nI (by omega)] at e2
      exact e2
    · rcases hv with ⟨q1, _⟩ | ⟨_, si, q2, q3, q4, q5⟩
      · rw [e] at q1; exact absurd q1 (by decide)
      · have ei : si = i := by
          have := hs ho
          rw [q3, nI_eq (by omega) (by omega)] at this
          exact this
        subst ei
        exact ⟨by rw [q4, h.ag.1, h.ag.2.1], _, le, jo, wy, rfl, q5⟩
theorem p_take (hN : N ≤ 511) (hI : INV D ad N cs) (s a b : Int32) : Pair D l mi_X6_take mi_X7_take [.int s, .int a, .int b] ad N cs isI := by
  obtain ⟨lev, Ps, R, le, jo, wy, rfl, hR⟩ := hI
  obtain ⟨i, hi, hs⟩ := pick s
  obtain ⟨g, u, v, p, h⟩ := hR i hi
  have hn := h.nd
  have c1 := c_take D l (fun j => ad (pn (isC i) j)) lev (sf ad) (Ps i) (fun _ => nI (sNn (Ps i))) s a b (sf_ok ad hi hs) rfl hn.2.1
  have c2 := r_take D l (fun j => ad (pn isR j)) R.nd R.sl R.sr R.sd R.ag R.lo R.lw R.hg R.ct R.mt R.sm R.th R.tn lev le jo wy s a b (sNn (Ps i)) (h.cnd hi hs) hn.2.1
  have hc := arB_c (a := a) (b := b) (h.cnd hi hs)
  cases e : arB (fun _ => nI (sNn (Ps i))) s a b with
  | false =>
    rw [e] at c1 hc
    simp only [cond_false] at c1
    refine pairS ⟨_, rfl⟩ hi hR c1 (Ct.weak (fun v2 c hv => ?_) c2)
    rcases hv with ⟨_, q2, q3⟩ | ⟨si, x, y, _, _, _, _, _, _, _, q1, _⟩
    · exact ⟨q2, le, jo, wy, q3⟩
    · rw [← hc] at q1; exact absurd q1 (by decide)
  | true =>
    obtain ⟨ho, x, y, x1, y1, xy, rfl, rfl⟩ := arB_of hn.2.1 e
    rw [e] at c1 hc
    simp only [cond_true] at c1
    rw [cl_nI (by omega), cl_nI (by omega)] at c1
    refine pairG (A1 := some (.int (nI (lvK (sSd (Ps i)) (arcKey (min x y) (max x y)))))) (lev2 := lev) (P2 := fun P => P = sSetS (Ps i) (chgR (sS (Ps i)) (min x y) (max x y) (arcKey (min x y) (max x y)) (-1) (lvK (sSd (Ps i)) (arcKey (min x y) (max x y)) + 1))) (Z2 := fun R2 => R2 = (R.nd, R.sl, R.sr, R.sd, R.ag, R.lo, R.lw, R.hg, R.ct, R.mt, winL 1920 i R.sm (chgR (fun j => R.sm (1920 * i + j)) (min x y) (max x y) (arcKey (min x y) (max x y)) (-1) (lvK (sSd (Ps i)) (arcKey (min x y) (max x y)) + 1)), R.th, R.tn)) ⟨_, rfl⟩ hi (fun P R2 q1 q2 j hj => ?_) (Ct.weak (fun v2 c hv => ⟨hv.1, _, rfl, hv.2.trans (scX_S D (fun j => ad (pn (isC i) j)) lev (sf ad) (Ps i) _)⟩) c1) (Ct.weak (fun v2 c hv => ?_) c2)
    · subst q1
      subst q2
      by_cases ej : j = i
      · subst ej
        exact ⟨g, u, v, p, by rw [updS_at]; exact (h.mono (by omega)).take (by omega) (by omega) (by have := lvK_le (sSd (Ps j)) (arcKey (min x y) (max x y)); omega)⟩
      · obtain ⟨g2, u2, v2, p2, h2⟩ := hR j hj
        exact ⟨g2, u2, v2, p2, by rw [updS_ne Ps _ ej]; exact (h2.mono (by omega)).take_o (by have := h2.ag.2.2; omega) (fun q => ej q.symm) _⟩
    · rcases hv with ⟨q1, _⟩ | ⟨si, x2, y2, a1, a2, a3, a4, a5, a6, a7, a8, a9, a10⟩
      · rw [← hc] at q1; exact absurd q1 (by decide)
      · have ei : si = i := by
          have := hs ho
          rw [a2, nI_eq (by omega) (by omega)] at this
          exact this
        subst ei
        rw [nI_eq (by omega) (by omega)] at a4 a6
        subst a4
        subst a6
        rw [h.sd] at a9 a10
        exact ⟨a9, _, le, jo, wy, rfl, a10⟩
theorem p_add (hN : N ≤ 511) (hI : INV D ad N cs) (s a b : Int32) : Pair D l mi_X6_add mi_X7_add [.int s, .int a, .int b] ad N cs isI := by
  obtain ⟨lev, Ps, R, le, jo, wy, rfl, hR⟩ := hI
  obtain ⟨i, hi, hs⟩ := pick s
  obtain ⟨g, u, v, p, h⟩ := hR i hi
  have hn := h.nd
  have hg := h.ag.2.2
  have hz := h.tn.2
  have hst := h.sr.1
  obtain ⟨fu, fv, hK, hf⟩ := h.fr.arc h.b64
  have c1 := c_add D l (fun j => ad (pn (isC i) j)) lev (sf ad) (Ps i) (fun _ => nI (sNn (Ps i))) s a b fu fv (sf_ok ad hi hs) rfl hn.2.1 (by omega) h.fn (by omega) hK
  have c2 := r_add D l (fun j => ad (pn isR j)) R.nd R.sl R.sr R.sd R.ag R.lo R.lw R.hg R.ct R.mt R.sm R.th R.tn lev le jo wy s a b (sNn (Ps i)) g (sSt (Ps i)) (sZ (Ps i)) (fun k => u (p k)) (fun k => v (p k)) (fun k => 4200 * i + p k) (h.cnd hi hs) hn.2.1 (by omega) (by omega) (h.hag hi hs) (fun e => by rw [hs e, cl_nI (by omega)]; exact h.sr.2) (fun e => by rw [hs e, cl_nI (by omega)]; exact h.tn.1) (fun e k hk => by
    rw [hs e, cl_nI (by omega)]
    have t := h.th k hk
    have t2 := h.arc _ t.2.1
    have t3 := h.b64 _ t.2.1
    exact ⟨t.1, by omega, by omega, t2.1, t3.1, t2.2.1, t3.2⟩)
  have hc := arB_c (a := a) (b := b) (h.cnd hi hs)
  cases e : arB (fun _ => nI (sNn (Ps i))) s a b with
  | false =>
    rw [e] at c1 hc
    refine pairS (A1 := some (.int (-1))) ⟨_, rfl⟩ hi hR (Ct.weak (fun v2 c hv => ?_) c1) (Ct.weak (fun v2 c hv => ?_) c2)
    · obtain ⟨q1, ld, ⟨_, q2⟩ | ⟨q2, _⟩ | ⟨q2, _⟩⟩ := hv
      · exact ⟨q1, q2⟩
      · exact absurd q2 (by decide)
      · exact absurd q2 (by decide)
    · rcases hv with ⟨_, q2, q3⟩ | ⟨si, x, y, _, _, _, _, _, _, _, q1, _⟩
      · exact ⟨q2, le, jo, wy, q3⟩
      · rw [← hc] at q1; exact absurd q1 (by decide)
  | true =>
    obtain ⟨ho, x, y, x1, y1, xy, rfl, rfl⟩ := arB_of hn.2.1 e
    rw [e] at c1 hc
    rw [cl_nI (by omega), cl_nI (by omega)] at c1
    have hth := thin_eq (st := sSt (Ps i)) hn.2.1 (by omega) h.nb x1 y1 (fun t ht => ⟨(h.arc _ (h.th t ht).2.1).2.2.1, (h.arc _ (h.th t ht).2.1).2.2.2⟩)
    by_cases hB : adB (Ps i) x y
    · refine pairG (A1 := some (.int (sAg (Ps i) + 1))) (lev2 := lev) (P2 := fun P => ∃ ld, P = adP1 (Ps i) fu fv x y ld) (Z2 := fun R2 => R2 = adR R i g x y (upd R.th (4200 * i + sZ (Ps i)) (nI (4200 * i + g))) (upd R.tn i (nI (sZ (Ps i) + 1)))) ⟨_, rfl⟩ hi (fun P R2 q1 q2 j hj => ?_) (Ct.weak (fun v2 c hv => ?_) c1) (Ct.weak (fun v2 c hv => ?_) c2)
      · obtain ⟨ld, q1⟩ := q1
        subst q1
        subst q2
        by_cases ej : j = i
        · subst ej
          exact ⟨g + 1, _, _, _, by rw [updS_at]; exact h.add1 (by omega) hf x1 y1 xy ld⟩
        · obtain ⟨g2, u2, v2, p2, h2⟩ := hR j hj
          exact ⟨g2, u2, v2, p2, by rw [updS_ne Ps _ ej]; exact (h2.mono (by omega)).add_o (by have := h2.ag.2.2; omega) (fun q => ej q.symm) (by omega) (by omega) (by omega) (fun t ht => up_ne _ _ (by omega)) (up_ne _ _ ej)⟩
      · obtain ⟨q1, ld, ⟨q2, _⟩ | ⟨_, _, q3⟩ | ⟨_, q2, _⟩⟩ := hv
        · exact absurd q2 (by decide)
        · exact ⟨q1, _, ⟨ld, rfl⟩, q3⟩
        · exact absurd hB q2
      · rcases hv with ⟨q1, _⟩ | ⟨si, x2, y2, a1, a2, a3, a4, a5, a6, a7, a8, a9, wy2, a10⟩
        · rw [← hc] at q1; exact absurd q1 (by decide)
        · have ei : si = i := by
            have := hs ho
            rw [a2, nI_eq (by omega) (by omega)] at this
            exact this
          subst ei
          rw [nI_eq (by omega) (by omega)] at a4 a6
          subst a4
          subst a6
          rw [if_pos (hth.mp hB), if_pos (hth.mp hB)] at a10
          exact ⟨by rw [a9, h.ag.1, nI_1], _, le, jo, wy2, rfl, a10⟩
    · refine pairG (A1 := some (.int (sAg (Ps i) + 1))) (lev2 := lev) (P2 := fun P => ∃ ld, P = adP2 (Ps i) fu fv x y ld) (Z2 := fun R2 => R2 = adR R i g x y R.th R.tn) ⟨_, rfl⟩ hi (fun P R2 q1 q2 j hj => ?_) (Ct.weak (fun v2 c hv => ?_) c1) (Ct.weak (fun v2 c hv => ?_) c2)
      · obtain ⟨ld, q1⟩ := q1
        subst q1
        subst q2
        by_cases ej : j = i
        · subst ej
          exact ⟨g + 1, _, _, _, by rw [updS_at]; exact h.add2 (by omega) hf x1 y1 xy ld⟩
        · obtain ⟨g2, u2, v2, p2, h2⟩ := hR j hj
          exact ⟨g2, u2, v2, p2, by rw [updS_ne Ps _ ej]; exact (h2.mono (by omega)).add_o (by have := h2.ag.2.2; omega) (fun q => ej q.symm) (by omega) (by omega) (by omega) (fun t ht => rfl) rfl⟩
      · obtain ⟨q1, ld, ⟨q2, _⟩ | ⟨_, q2, _⟩ | ⟨_, _, q3⟩⟩ := hv
        · exact absurd q2 (by decide)
        · exact absurd q2 hB
        · exact ⟨q1, _, ⟨ld, rfl⟩, q3⟩
      · rcases hv with ⟨q1, _⟩ | ⟨si, x2, y2, a1, a2, a3, a4, a5, a6, a7, a8, a9, wy2, a10⟩
        · rw [← hc] at q1; exact absurd q1 (by decide)
        · have ei : si = i := by
            have := hs ho
            rw [a2, nI_eq (by omega) (by omega)] at this
            exact this
          subst ei
          rw [nI_eq (by omega) (by omega)] at a4 a6
          subst a4
          subst a6
          rw [if_neg (fun q => hB (hth.mpr q)), if_neg (fun q => hB (hth.mpr q))] at a10
          exact ⟨by rw [a9, h.ag.1, nI_1], _, le, jo, wy2, rfl, a10⟩
end
