/-! pairs of calls: same, merge -/
section
variable {D : DD} {l : Launch} {ad : Nat → Nat} {N : Nat} {cs : List va_E}
theorem isT_2 : ∀ i k, i < 3 → k < 3 → i ≠ k → pn (isT i k) 2 = pn (isC i) 2 ∧ pn (isT i k) 8 = pn (isC k) 2 := by
  intro i k hi hk hne
  rcases (show (i = 0 ∧ k = 1) ∨ (i = 0 ∧ k = 2) ∨ (i = 1 ∧ k = 0) ∨ (i = 1 ∧ k = 2) ∨ (i = 2 ∧ k = 0) ∨ (i = 2 ∧ k = 1) by omega) with ⟨rfl, rfl⟩ | ⟨rfl, rfl⟩ | ⟨rfl, rfl⟩ | ⟨rfl, rfl⟩ | ⟨rfl, rfl⟩ | ⟨rfl, rfl⟩ <;> exact ⟨rfl, rfl⟩
theorem is1_2 : ∀ i, i < 3 → pn (is1 i) 2 = pn (isC i) 2 := by
  intro i hi
  rcases (show i = 0 ∨ i = 1 ∨ i = 2 by omega) with rfl | rfl | rfl <;> rfl
theorem alkB_self (S : Nat → Int64) (n : Nat) : alkB S S n = true := (alkB_iff S S n).mpr (fun _ _ => rfl)
theorem keep_tg {Ps : Nat → SP} {R : RS} {i : Nat} (hR : ∀ j, j < 3 → ∃ g u v p, RX N j (Ps j) g u v p R) : ∀ P R2, (∃ tg, P = sSetTg (Ps i) tg) → R2 = R → ∀ j, j < 3 → ∃ g u v p, RX (N + 1) j (updS Ps i P j) g u v p R2 := by
  intro P R2 q1 q2 j hj
  obtain ⟨tg, q1⟩ := q1
  subst q1
  subst q2
  obtain ⟨g2, u2, v2, p2, h2⟩ := hR j hj
  by_cases ej : j = i
  · subst ej
    exact ⟨g2, u2, v2, p2, by rw [updS_at]; exact (h2.mono (by omega)).setTg tg⟩
  · exact ⟨g2, u2, v2, p2, by rw [updS_ne Ps _ ej]; exact h2.mono (by omega)⟩
theorem p_same (hN : N ≤ 511) (hI : INV D ad N cs) (s o : Int32) : Pair D l mi_X6_same mi_X7_same [.int s, .int o] ad N cs isI := by
  obtain ⟨lev, Ps, R, le, jo, wy, rfl, hR⟩ := hI
  have c2 := r_same D l (fun j => ad (pn isR j)) R.nd R.sl R.sr R.sd R.ag R.lo R.lw R.hg R.ct R.mt R.sm R.th R.tn lev le jo wy s o
  cases e : (okS s && okS o) with
  | false =>
    rw [e] at c2
    simp only [cond_false] at c2
    exact pairW ⟨_, rfl⟩ hR (lift_0 (c_sameR D l (fun j => ad (pn [] j)) s o e)) c2
  | true =>
    rw [e] at c2
    simp only [cond_true] at c2
    rw [Bool.and_eq_true] at e
    obtain ⟨i, hi, rfl⟩ := okS_of e.1
    obtain ⟨k, hk, rfl⟩ := okS_of e.2
    rw [cl_nI (by omega), cl_nI (by omega)] at c2
    obtain ⟨g, u, v, p, h⟩ := hR i hi
    obtain ⟨g2, u2, v2, p2, h2⟩ := hR k hk
    have hn := h.nd
    have hn2 := h2.nd
    have hl := h.sl
    have hl2 := h2.sl
    have hr := h.sr
    have hr2 := h2.sr
    by_cases ik : i = k
    · subst ik
      have e1 : apB R.nd R.sl R.sr R.sd i i = false := by simp [apB]
      rw [e1, alkB_self] at c2
      refine pairW (A1 := some (.int 1)) ⟨_, rfl⟩ hR (lift_1 hi (c_same1 D l (fun j => ad (pn (is1 i) j)) lev (sf ad) _ _ _ _ (sNn (Ps i)) (nI (sKk (Ps i))) (nI (sSt (Ps i))) (sSd (Ps i)) (sAg (Ps i)) (sS (Ps i)) (nI i) e.1 ?_ hn.2.1)) c2
      rw [cl_nI (by omega), sf_at ad i hi, is1_2 i hi]
    · rw [← an_same h h2] at c2
      refine pairT (P2 := fun P => ∃ tg, P = sSetTg (Ps i) tg) (Z2 := fun R2 => R2 = R) ⟨_, rfl⟩ hi hk ik (keep_tg hR) (Ct.weak (fun v2 c hv => ?_) (c_same2 D l (fun j => ad (pn (isT i k) j)) lev (sf ad) _ _ _ _ _ _ _ (sNn (Ps i)) (sKk (Ps i)) (sSt (Ps i)) (sSd (Ps i)) (sAg (Ps i)) (sTk (Ps i)) (sLo (Ps i)) (sC (Ps i)) (sTg (Ps i)) (sS (Ps i)) (sNn (Ps k)) (sKk (Ps k)) (sSt (Ps k)) (sSd (Ps k)) (sAg (Ps k)) (sTk (Ps k)) (sLo (Ps k)) (sC (Ps k)) (sS (Ps k)) (nI i) (nI k) e.1 e.2 ?_ ?_ (by omega) hn.2.1)) (Ct.weak (fun v2 c hv => ⟨hv.1, R, rfl, hv.2⟩) c2)
      · exact ⟨hv.1, _, _, _, _, _, ⟨sTg (Ps i), rfl⟩, hv.2⟩
      · rw [cl_nI (by omega), sf_at ad i hi, (isT_2 i k hi hk ik).1]
      · rw [cl_nI (by omega), sf_at ad k hk, (isT_2 i k hi hk ik).2]
theorem p_merge (hN : N ≤ 511) (hI : INV D ad N cs) (s o : Int32) : Pair D l mi_X6_merge mi_X7_merge [.int s, .int o] ad N cs isI := by
  obtain ⟨lev, Ps, R, le, jo, wy, rfl, hR⟩ := hI
  obtain ⟨i, hi, hs⟩ := pick s
  obtain ⟨g, u, v, p, h⟩ := hR i hi
  have hn := h.nd
  have hl := h.sl
  have hr := h.sr
  have c2 := r_merge D l (fun j => ad (pn isR j)) R.nd R.sl R.sr R.sd R.ag R.lo R.lw R.hg R.ct R.mt R.sm R.th R.tn lev le jo wy s o (sKk (Ps i)) (by omega) (fun e => by rw [hs e, cl_nI (by omega)]; exact h.sl.2)
  cases e : (okS s && okS o && !decide (s = o)) with
  | false =>
    refine pairW ⟨_, rfl⟩ hR (lift_0 (c_mergeR D l (fun j => ad (pn [] j)) s o e)) (Ct.weak (fun v2 c hv => ?_) c2)
    rcases hv with ⟨_, q2, q3⟩ | ⟨si, oi, a1, a2, a3, a4, a5, _⟩
    · exact ⟨q2, q3⟩
    · refine absurd e ?_
      rw [a3, a4, okS_nI a1, okS_nI a2]
      have : ¬ nI si = nI oi := fun q => a5 ((nI_eq (by omega) (by omega)).mp q)
      simp [this]
  | true =>
    rw [Bool.and_eq_true, Bool.and_eq_true] at e
    obtain ⟨⟨es, eo⟩, ene⟩ := e
    have hsi := hs es
    subst hsi
    obtain ⟨k, hk, rfl⟩ := okS_of eo
    have hne : ¬ nI i = nI k := by simpa using ene
    have ik : i ≠ k := fun q => hne (by rw [q])
    obtain ⟨g2, u2, v2, p2, h2⟩ := hR k hk
    have hn2 := h2.nd
    have hl2 := h2.sl
    have hr2 := h2.sr
    have c1 := c_merge2 D l (fun j => ad (pn (isT i k) j)) lev (sf ad) (.ref (ad (2 + 16 * i + 4))) (.ref (ad (2 + 16 * i + 8))) (.ref (ad (2 + 16 * i + 12))) (.ref (ad (2 + 16 * k + 4))) (.ref (ad (2 + 16 * k + 8))) (.ref (ad (2 + 16 * k + 12))) (.ref (ad (2 + 16 * k + 3))) (sNn (Ps i)) (sKk (Ps i)) (sSt (Ps i)) (sSd (Ps i)) (sAg (Ps i)) (sTk (Ps i)) (sLo (Ps i)) (sC (Ps i)) (sTg (Ps i)) (sS (Ps i)) (sNn (Ps k)) (sKk (Ps k)) (sSt (Ps k)) (sSd (Ps k)) (sAg (Ps k)) (sTk (Ps k)) (sLo (Ps k)) (sC (Ps k)) (sS (Ps k)) (nI i) (nI k) es eo hne (by rw [cl_nI (by omega), sf_at ad i hi, (isT_2 i k hi hk ik).1]) (by rw [cl_nI (by omega), sf_at ad k hk, (isT_2 i k hi hk ik).2]) (by omega) hn.2.1 (by omega)
    have hap := ap_same h h2
    have hat : ∀ si oi, nI i = nI si → nI k = nI oi → si < 3 → oi < 3 → si = i ∧ oi = k := fun si oi q1 q2 q3 q4 => ⟨((nI_eq (by omega) (by omega)).mp q1).symm, ((nI_eq (by omega) (by omega)).mp q2).symm⟩
    cases e5 : sameB (sNn (Ps i)) (sKk (Ps i)) (sSt (Ps i)) (sNn (Ps k)) (sKk (Ps k)) (sSt (Ps k)) (sSd (Ps i)) (sSd (Ps k)) with
    | false =>
      rw [e5] at hap
      refine pairT (A1 := some (.int (-3))) (P2 := fun P => ∃ tg, P = sSetTg (Ps i) tg) (Z2 := fun R2 => R2 = R) ⟨_, rfl⟩ hi hk ik (keep_tg hR) (Ct.weak (fun v2 c hv => ?_) c1) (Ct.weak (fun v2 c hv => ?_) c2)
      · obtain ⟨tg, ⟨_, q2, q3⟩ | ⟨q1, _⟩ | ⟨q1, _⟩⟩ := hv
        · exact ⟨q2, _, _, _, _, _, ⟨tg, rfl⟩, q3⟩
        · rw [e5] at q1; exact absurd q1 (by decide)
        · rw [e5] at q1; exact absurd q1 (by decide)
      · rcases hv with ⟨q1, _⟩ | ⟨si, oi, a1, a2, a3, a4, a5, a6⟩
        · rw [es, eo] at q1; simp [hne] at q1
        · obtain ⟨rfl, rfl⟩ := hat si oi a3 a4 a1 a2
          rcases a6 with ⟨_, b2, b3⟩ | ⟨b1, _⟩
          · exact ⟨b2, R, rfl, b3⟩
          · rw [hap] at b1; exact absurd b1 (by decide)
    | true =>
      rw [e5] at hap
      have enn : sNn (Ps i) = sNn (Ps k) := by
        simp only [sameB, Bool.and_eq_true, decide_eq_true_iff] at e5
        exact e5.1.1.1
      have hful := mg_full h h2 (by omega) enn
      cases e6 : pfull (sC (Ps i)) (sC (Ps k)) (sLo (Ps i)) (sLo (Ps k)) (sNn (Ps i)) (sKk (Ps i)) with
      | true =>
        rw [e6] at hful
        refine pairT (A1 := some (.int (-6))) (P2 := fun P => ∃ tg, P = sSetTg (Ps i) tg) (Z2 := fun R2 => R2 = R) ⟨_, rfl⟩ hi hk ik (keep_tg hR) (Ct.weak (fun v2 c hv => ?_) c1) (Ct.weak (fun v2 c hv => ?_) c2)
        · obtain ⟨tg, ⟨q1, _⟩ | ⟨_, _, q2, q3⟩ | ⟨_, q1, _⟩⟩ := hv
          · rw [e5] at q1; exact absurd q1 (by decide)
          · exact ⟨q2, _, _, _, _, _, ⟨tg, rfl⟩, q3⟩
          · rw [e6] at q1; exact absurd q1 (by decide)
        · rcases hv with ⟨q1, _⟩ | ⟨si, oi, a1, a2, a3, a4, a5, a6⟩
          · rw [es, eo] at q1; simp [hne] at q1
          · obtain ⟨rfl, rfl⟩ := hat si oi a3 a4 a1 a2
            rcases a6 with ⟨b1, _⟩ | ⟨_, ⟨_, b2, b3⟩ | ⟨b1, _⟩⟩
            · rw [hap] at b1; exact absurd b1 (by decide)
            · exact ⟨b2, R, rfl, b3⟩
            · rw [← hful] at b1; exact absurd b1 (by decide)
      | false =>
        have hcnt := mg_cnt h h2 (by omega) enn
        have hmer := fun tg => (h.merge h2 (by omega) (fun q => ik q.symm) enn e6 tg).mono (M := N + 1) (by omega)
        rw [e6] at hful
        refine pairT (A1 := some (.int (nI (cntP (lsD (sm2 (sC (Ps i)) (sC (Ps k))) (pcut (sC (Ps i)) (sC (Ps k)) (sNn (Ps i)) (sKk (Ps i)))) (sNn (Ps i)))))) (P2 := fun P => ∃ tg, P = mgP (Ps i) tg (sC (Ps k)) (sLo (Ps k)) (sS (Ps k))) (Z2 := fun R2 => R2 = mgR R i k (sKk (Ps i))) ⟨_, rfl⟩ hi hk ik (fun P R2 q1 q2 j hj => ?_) (Ct.weak (fun v2 c hv => ?_) c1) (Ct.weak (fun v2 c hv => ?_) c2)
        · obtain ⟨tg, q1⟩ := q1
          subst q1
          subst q2
          by_cases ej : j = i
          · subst ej
            exact ⟨g, u, v, p, by rw [updS_at]; exact hmer tg⟩
          · obtain ⟨g3, u3, v3, p3, h3⟩ := hR j hj
            exact ⟨g3, u3, v3, p3, by rw [updS_ne Ps _ ej]; exact (h3.mono (by omega)).merge_o (by have := h3.ag.2.2; omega) (fun q => ej q.symm) k (sKk (Ps i))⟩
        · obtain ⟨tg, ⟨q1, _⟩ | ⟨_, q1, _⟩ | ⟨_, _, q2, q3⟩⟩ := hv
          · rw [e5] at q1; exact absurd q1 (by decide)
          · rw [e6] at q1; exact absurd q1 (by decide)
          · exact ⟨q2, _, _, _, _, _, ⟨tg, rfl⟩, q3⟩
        · rcases hv with ⟨q1, _⟩ | ⟨si, oi, a1, a2, a3, a4, a5, a6⟩
          · rw [es, eo] at q1; simp [hne] at q1
          · obtain ⟨rfl, rfl⟩ := hat si oi a3 a4 a1 a2
            rcases a6 with ⟨b1, _⟩ | ⟨_, ⟨b1, _⟩ | ⟨_, b2, b3⟩⟩
            · rw [hap] at b1; exact absurd b1 (by decide)
            · rw [← hful] at b1; exact absurd b1 (by decide)
            · exact ⟨by rw [b2, hcnt], _, rfl, b3⟩
end
