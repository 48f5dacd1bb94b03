/-! the relation between a stream of the class and the reference's windows -/
abbrev RS : Type := (Nat → Int32) × (Nat → Int32) × (Nat → Int32) × (Nat → Int64) × (Nat → Int32) × (Nat → Int32) × (Nat → Int32) × (Nat → Int32) × (Nat → Int32) × (Nat → Int32) × (Nat → Int64) × (Nat → Int32) × (Nat → Int32)
abbrev RS.nd (R : RS) : Nat → Int32 := R.1
abbrev RS.sl (R : RS) : Nat → Int32 := R.2.1
abbrev RS.sr (R : RS) : Nat → Int32 := R.2.2.1
abbrev RS.sd (R : RS) : Nat → Int64 := R.2.2.2.1
abbrev RS.ag (R : RS) : Nat → Int32 := R.2.2.2.2.1
abbrev RS.lo (R : RS) : Nat → Int32 := R.2.2.2.2.2.1
abbrev RS.lw (R : RS) : Nat → Int32 := R.2.2.2.2.2.2.1
abbrev RS.hg (R : RS) : Nat → Int32 := R.2.2.2.2.2.2.2.1
abbrev RS.ct (R : RS) : Nat → Int32 := R.2.2.2.2.2.2.2.2.1
abbrev RS.mt (R : RS) : Nat → Int32 := R.2.2.2.2.2.2.2.2.2.1
abbrev RS.sm (R : RS) : Nat → Int64 := R.2.2.2.2.2.2.2.2.2.2.1
abbrev RS.th (R : RS) : Nat → Int32 := R.2.2.2.2.2.2.2.2.2.2.2.1
abbrev RS.tn (R : RS) : Nat → Int32 := R.2.2.2.2.2.2.2.2.2.2.2.2
def RX (N i : Nat) (P : SP) (g : Nat) (u v p : Nat → Nat) (R : RS) : Prop :=
  (sAg P = nI g ∧ R.ag i = nI g ∧ g ≤ N) ∧
  (2 ≤ sNn P ∧ sNn P ≤ 64 ∧ R.nd i = nI (sNn P)) ∧
  (sKk P ≤ 16 ∧ R.sl i = nI (sKk P)) ∧
  (sSt P ≤ 7 ∧ R.sr i = nI (sSt P)) ∧
  (R.sd i = sSd P) ∧
  (CR i (sNn P) (1000000000 + 2 * (N : Int)) (sC P) (sTk P) (sLo P) R.ct R.lo) ∧
  (∀ t, t < g → R.lw (4200 * i + t) = nI (u t) ∧ R.hg (4200 * i + t) = nI (v t) ∧ u t < sNn P ∧ v t < sNn P) ∧
  (FR u v g (sFn P) (sFt P) (sFk P)) ∧
  (R.tn i = nI (sZ P) ∧ sZ P ≤ g) ∧
  (∀ k, k < sZ P → R.th (4200 * i + k) = nI (4200 * i + p k) ∧ p k < g ∧ sTt P k = nI (p k + 1) ∧ sTq P k = nI (64 * u (p k) + v (p k))) ∧
  (NB (fun k => u (p k)) (fun k => v (p k)) (sZ P) (sNn P) (sNb P)) ∧
  (∀ a, a < 64 → (R.mt (64 * i + a) = 0 ∧ sMt P a = -2) ∨ ∃ b, b < 64 ∧ R.mt (64 * i + a) = nI (b + 1) ∧ sMt P a = nI b) ∧
  (∃ n, sPr P = nI n ∧ cntP (fun a => R.mt (64 * i + a)) 64 = 2 * n) ∧
  (∀ j, j < 1920 → sS P j = R.sm (1920 * i + j)) ∧
  (∀ j, 30 * sNn P ≤ j → j < 1920 → sS P j = 0)
theorem RX.ag {N i : Nat} {P : SP} {g : Nat} {u v p : Nat → Nat} {R : RS} (h : RX N i P g u v p R) : sAg P = nI g ∧ R.ag i = nI g ∧ g ≤ N := h.1
theorem RX.nd {N i : Nat} {P : SP} {g : Nat} {u v p : Nat → Nat} {R : RS} (h : RX N i P g u v p R) : 2 ≤ sNn P ∧ sNn P ≤ 64 ∧ R.nd i = nI (sNn P) := h.2.1
theorem RX.sl {N i : Nat} {P : SP} {g : Nat} {u v p : Nat → Nat} {R : RS} (h : RX N i P g u v p R) : sKk P ≤ 16 ∧ R.sl i = nI (sKk P) := h.2.2.1
theorem RX.sr {N i : Nat} {P : SP} {g : Nat} {u v p : Nat → Nat} {R : RS} (h : RX N i P g u v p R) : sSt P ≤ 7 ∧ R.sr i = nI (sSt P) := h.2.2.2.1
theorem RX.sd {N i : Nat} {P : SP} {g : Nat} {u v p : Nat → Nat} {R : RS} (h : RX N i P g u v p R) : R.sd i = sSd P := h.2.2.2.2.1
theorem RX.cr {N i : Nat} {P : SP} {g : Nat} {u v p : Nat → Nat} {R : RS} (h : RX N i P g u v p R) : CR i (sNn P) (1000000000 + 2 * (N : Int)) (sC P) (sTk P) (sLo P) R.ct R.lo := h.2.2.2.2.2.1
theorem RX.arc {N i : Nat} {P : SP} {g : Nat} {u v p : Nat → Nat} {R : RS} (h : RX N i P g u v p R) : ∀ t, t < g → R.lw (4200 * i + t) = nI (u t) ∧ R.hg (4200 * i + t) = nI (v t) ∧ u t < sNn P ∧ v t < sNn P := h.2.2.2.2.2.2.1
theorem RX.fr {N i : Nat} {P : SP} {g : Nat} {u v p : Nat → Nat} {R : RS} (h : RX N i P g u v p R) : FR u v g (sFn P) (sFt P) (sFk P) := h.2.2.2.2.2.2.2.1
theorem RX.tn {N i : Nat} {P : SP} {g : Nat} {u v p : Nat → Nat} {R : RS} (h : RX N i P g u v p R) : R.tn i = nI (sZ P) ∧ sZ P ≤ g := h.2.2.2.2.2.2.2.2.1
theorem RX.th {N i : Nat} {P : SP} {g : Nat} {u v p : Nat → Nat} {R : RS} (h : RX N i P g u v p R) : ∀ k, k < sZ P → R.th (4200 * i + k) = nI (4200 * i + p k) ∧ p k < g ∧ sTt P k = nI (p k + 1) ∧ sTq P k = nI (64 * u (p k) + v (p k)) := h.2.2.2.2.2.2.2.2.2.1
theorem RX.nb {N i : Nat} {P : SP} {g : Nat} {u v p : Nat → Nat} {R : RS} (h : RX N i P g u v p R) : NB (fun k => u (p k)) (fun k => v (p k)) (sZ P) (sNn P) (sNb P) := h.2.2.2.2.2.2.2.2.2.2.1
theorem RX.mt {N i : Nat} {P : SP} {g : Nat} {u v p : Nat → Nat} {R : RS} (h : RX N i P g u v p R) : ∀ a, a < 64 → (R.mt (64 * i + a) = 0 ∧ sMt P a = -2) ∨ ∃ b, b < 64 ∧ R.mt (64 * i + a) = nI (b + 1) ∧ sMt P a = nI b := h.2.2.2.2.2.2.2.2.2.2.2.1
theorem RX.pr {N i : Nat} {P : SP} {g : Nat} {u v p : Nat → Nat} {R : RS} (h : RX N i P g u v p R) : ∃ n, sPr P = nI n ∧ cntP (fun a => R.mt (64 * i + a)) 64 = 2 * n := h.2.2.2.2.2.2.2.2.2.2.2.2.1
theorem RX.sm {N i : Nat} {P : SP} {g : Nat} {u v p : Nat → Nat} {R : RS} (h : RX N i P g u v p R) : ∀ j, j < 1920 → sS P j = R.sm (1920 * i + j) := h.2.2.2.2.2.2.2.2.2.2.2.2.2.1
theorem RX.sz {N i : Nat} {P : SP} {g : Nat} {u v p : Nat → Nat} {R : RS} (h : RX N i P g u v p R) : ∀ j, 30 * sNn P ≤ j → j < 1920 → sS P j = 0 := h.2.2.2.2.2.2.2.2.2.2.2.2.2.2
theorem RX.mk {N i : Nat} {P : SP} {g : Nat} {u v p : Nat → Nat} {R : RS} (f_ag : sAg P = nI g ∧ R.ag i = nI g ∧ g ≤ N) (f_nd : 2 ≤ sNn P ∧ sNn P ≤ 64 ∧ R.nd i = nI (sNn P)) (f_sl : sKk P ≤ 16 ∧ R.sl i = nI (sKk P)) (f_sr : sSt P ≤ 7 ∧ R.sr i = nI (sSt P)) (f_sd : R.sd i = sSd P) (f_cr : CR i (sNn P) (1000000000 + 2 * (N : Int)) (sC P) (sTk P) (sLo P) R.ct R.lo) (f_arc : ∀ t, t < g → R.lw (4200 * i + t) = nI (u t) ∧ R.hg (4200 * i + t) = nI (v t) ∧ u t < sNn P ∧ v t < sNn P) (f_fr : FR u v g (sFn P) (sFt P) (sFk P)) (f_tn : R.tn i = nI (sZ P) ∧ sZ P ≤ g) (f_th : ∀ k, k < sZ P → R.th (4200 * i + k) = nI (4200 * i + p k) ∧ p k < g ∧ sTt P k = nI (p k + 1) ∧ sTq P k = nI (64 * u (p k) + v (p k))) (f_nb : NB (fun k => u (p k)) (fun k => v (p k)) (sZ P) (sNn P) (sNb P)) (f_mt : ∀ a, a < 64 → (R.mt (64 * i + a) = 0 ∧ sMt P a = -2) ∨ ∃ b, b < 64 ∧ R.mt (64 * i + a) = nI (b + 1) ∧ sMt P a = nI b) (f_pr : ∃ n, sPr P = nI n ∧ cntP (fun a => R.mt (64 * i + a)) 64 = 2 * n) (f_sm : ∀ j, j < 1920 → sS P j = R.sm (1920 * i + j)) (f_sz : ∀ j, 30 * sNn P ≤ j → j < 1920 → sS P j = 0) : RX N i P g u v p R := ⟨f_ag, f_nd, f_sl, f_sr, f_sd, f_cr, f_arc, f_fr, f_tn, f_th, f_nb, f_mt, f_pr, f_sm, f_sz⟩
section
variable {N i : Nat} {P : SP} {g : Nat} {u v p : Nat → Nat} {R : RS}
theorem RX.mono (h : RX N i P g u v p R) {M : Nat} (hM : N ≤ M) : RX M i P g u v p R :=
  RX.mk (⟨h.ag.1, h.ag.2.1, Nat.le_trans h.ag.2.2 hM⟩) (h.nd) (h.sl) (h.sr) (h.sd) (⟨h.cr.eq, fun a ha => by have := h.cr.bd a ha; omega, h.cr.zr, h.cr.tk, h.cr.lo⟩) (h.arc) (h.fr) (h.tn) (h.th) (h.nb) (h.mt) (h.pr) (h.sm) (h.sz)
theorem RX.frame (h : RX N i P g u v p R) (hg : g ≤ 4200) {Q : RS} (e1 : Q.nd i = R.nd i) (e2 : Q.sl i = R.sl i) (e3 : Q.sr i = R.sr i) (e4 : Q.sd i = R.sd i) (e5 : Q.ag i = R.ag i) (e6 : Q.lo i = R.lo i) (e7 : ∀ t, t < 4200 → Q.lw (4200 * i + t) = R.lw (4200 * i + t)) (e8 : ∀ t, t < 4200 → Q.hg (4200 * i + t) = R.hg (4200 * i + t)) (e9 : ∀ a, a < 64 → Q.ct (64 * i + a) = R.ct (64 * i + a)) (e10 : ∀ a, a < 64 → Q.mt (64 * i + a) = R.mt (64 * i + a)) (e11 : ∀ j, j < 1920 → Q.sm (1920 * i + j) = R.sm (1920 * i + j)) (e12 : ∀ t, t < 4200 → Q.th (4200 * i + t) = R.th (4200 * i + t)) (e13 : Q.tn i = R.tn i) : RX N i P g u v p Q :=
  RX.mk (by rw [e5]; exact h.ag) (by rw [e1]; exact h.nd) (by rw [e2]; exact h.sl) (by rw [e3]; exact h.sr) (by rw [e4]; exact h.sd) (⟨fun a ha => by rw [e9 a ha]; exact h.cr.eq a ha, h.cr.bd, h.cr.zr, h.cr.tk, by rw [e6]; exact h.cr.lo⟩) (fun t ht => by rw [e7 t (by omega), e8 t (by omega)]; exact h.arc t ht) (h.fr) (by rw [e13]; exact h.tn) (fun k hk => by rw [e12 k (by have := h.tn.2; omega)]; exact h.th k hk) (h.nb) (fun a ha => by rw [e10 a ha]; exact h.mt a ha) (by rw [cntP_congr (g := fun a => R.mt (64 * i + a)) 64 (fun a ha => e10 a ha)]; exact h.pr) (fun j hj => by rw [e11 j hj]; exact h.sm j hj) (h.sz)
theorem nI_subN {n c : Nat} (h : c ≤ n) : nI n - nI c = nI (n - c) := by
  rw [show n = (n - c) + c by omega, ← nI_add, Int32.add_sub_cancel, show n - c + c - c = n - c by omega]
theorem RX.b64 (h : RX N i P g u v p R) : ∀ t, t < g → u t < 64 ∧ v t < 64 := fun t ht => by have := h.arc t ht; have := h.nd; omega
theorem RX.fn (h : RX N i P g u v p R) : sFn P < 64 := by
  have h1 := cj_lt (u := u) (v := v) (g := g) (nn := sNn P) (by have := h.nd; omega) (fun t ht => ⟨(h.arc t ht).2.2.1, (h.arc t ht).2.2.2⟩)
  rw [← h.fr.1] at h1
  have := h.nd
  omega
theorem okN_c {nd : Nat → Int32} {nn : Nat} {s a : Int32} (h : okS s = true → nd s.toNatClampNeg = nI nn) : okN (fun _ => nI nn) s a = okN nd s a := by
  simp only [okN]
  cases e : okS s with
  | false => simp
  | true => rw [h e]
theorem okN_k {nn : Nat} {s a : Int32} (hn : nn ≤ 64) (h : okN (fun _ => nI nn) s a = true) : okS s = true ∧ ∃ k, k < nn ∧ a = nI k := by
  simp only [okN, Bool.and_eq_true, Bool.not_eq_true', decide_eq_false_iff_not] at h
  obtain ⟨⟨h1, h2⟩, h3⟩ := h
  obtain ⟨j, hj, e⟩ := nI_of h2
  subst e
  rw [nI_leI (by omega) hj] at h3
  exact ⟨h1, j, by omega, rfl⟩
theorem RX.cnd (h : RX N i P g u v p R) (hi : i < 3) {s : Int32} (hs : okS s = true → s = nI i) : okS s = true → R.nd s.toNatClampNeg = nI (sNn P) := fun e => by
  rw [hs e, cl_nI (by omega)]; exact h.nd.2.2
theorem an_told (h : RX N i P g u v p R) (hi : i < 3) {s w : Int32} (hs : okS s = true → s = nI i) : (bif okS s then toldC P w else -1) = (bif okS s then toldR R.nd R.sl R.sr R.ag R.lo R.ct R.mt R.tn u v g s.toNatClampNeg w else -1) := by
  cases e : okS s with
  | false => simp
  | true =>
    simp only [cond_true]
    rw [hs e, cl_nI (by omega)]
    obtain ⟨n, p1, p2⟩ := h.pr
    have hle := h.fn
    have hcj : cj u v g g ≤ sNn P := by
      have h1 := cj_lt (u := u) (v := v) (g := g) (nn := sNn P) (by have := h.nd; omega) (fun t ht => ⟨(h.arc t ht).2.2.1, (h.arc t ht).2.2.2⟩)
      omega
    simp only [toldC, toldR]
    rw [h.ag.1, h.ag.2.1, h.cr.win, ← h.cr.tk, ← h.cr.lo, h.nd.2.2, h.sl.2, h.sr.2, h.tn.1, p1, p2, nI_subN hcj, nI_subN (by omega), ← h.fr.1, show 2 * n / 2 = n by omega, show sNn P - (sNn P - sFn P) = sFn P by rw [h.fr.1]; omega]
theorem an_span (h : RX N i P g u v p R) (hi : i < 3) {s a e : Int32} (hs : okS s = true → s = nI i) : (bif okN (fun _ => nI (sNn P)) s a && rng 0 1 e then spanC P a e else -1) = (bif okN R.nd s a && rng 0 1 e then R.ct (64 * s.toNatClampNeg + a.toNatClampNeg) + (if e = 1 then R.lo s.toNatClampNeg else 0) else -1) := by
  rw [← okN_c (h.cnd hi hs)]
  cases q : okN (fun _ => nI (sNn P)) s a with
  | false => simp
  | true =>
    obtain ⟨q1, k, q2, rfl⟩ := okN_k h.nd.2.1 q
    have := h.nd
    have he := hs q1
    subst he
    rw [cl_nI (by omega), ← h.cr.eq (nI k).toNatClampNeg (by rw [cl_nI (by omega)]; omega), ← h.cr.lo]
    cases q3 : rng 0 1 e with
    | false => simp
    | true =>
      simp only [Bool.and_self, cond_true, spanC]
      simp only [rng, Bool.and_eq_true, Bool.not_eq_true', decide_eq_false_iff_not, Int32.lt_iff_toInt_lt, i_0, i_1] at q3
      by_cases e0 : e = 0
      · subst e0; simp
      · have e1 : e = 1 := by
          apply Int32.toInt_inj.mp
          have : e.toInt ≠ 0 := fun q => e0 (Int32.toInt_inj.mp q)
          rw [i_1]; omega
        subst e1; rw [if_neg e0, if_pos rfl]
theorem slot_pure {C ct : Nat → Int32} {tk : Int32} {nn i : Nat} (hnn : nn ≤ 64) (heq : ∀ a, a < 64 → C a = ct (64 * i + a)) (hzr : ∀ a, nn ≤ a → a < 64 → C a = 0) (htk : tk = nI (cntP C 64)) {k : Nat} (hk : k < 2 ^ 31) (hlt : nI k < tk) : ∃ r, r < nn ∧ nap C nn k 0 = nI r ∧ rnk (fun a => ct (64 * i + a)) k 64 = r := by
  have hz : ∀ a, nn ≤ a → a < 64 → (ct (64 * i + a)).toInt ≤ 0 := fun a h1 h2 => by rw [← heq a h2, hzr a h1 h2]; decide
  have hle := cntP_le C 64
  have hc : cntP (fun a => ct (64 * i + a)) 64 = cntP C 64 := cntP_congr 64 (fun j hj => (heq j hj).symm)
  have hn := (nap_is (p := k) hnn (f := fun a => ct (64 * i + a)) hz).1
  rw [hc] at hn
  rw [htk] at hlt
  generalize cntP C 64 = c at *
  obtain ⟨n1, n2⟩ := hn ((nI_ltI hk (by omega)).mp hlt)
  exact ⟨_, n2, (nap_congr (g := fun a => ct (64 * i + a)) (fun j hj => heq j (by omega)) _ _).trans n1, rfl⟩
theorem an_slot (h : RX N i P g u v p R) (hi : i < 3) {s j w : Int32} (hs : okS s = true → s = nI i) : (bif okS s then slotC P j w else -1) = (bif okS s then slotR (fun a => R.ct (64 * s.toNatClampNeg + a)) j w else -1) := by
  cases e : okS s with
  | false => simp
  | true =>
    simp only [cond_true]
    rw [hs e, cl_nI (by omega)]
    simp only [slotC, slotR]
    rw [show nI (cntP (fun a => R.ct (64 * i + a)) 64) = sTk P from by rw [h.cr.win]; exact h.cr.tk.symm]
    by_cases c : rng 0 1 w = true ∧ ¬ j < 0 ∧ j < sTk P
    · rw [if_pos c, if_pos c]
      obtain ⟨k, hk, rfl⟩ := nI_of c.2.1
      obtain ⟨r, r1, r2, r3⟩ := slot_pure h.nd.2.1 h.cr.eq h.cr.zr h.cr.tk hk c.2.2
      have := h.nd
      rw [cl_nI hk, r2, r3, if_neg (m2_nI r (by omega)), cl_nI (by omega), h.cr.eq r (by omega)]
    · rw [if_neg c, if_neg c]
theorem an_parts (h : RX N i P g u v p R) (hN : N ≤ 4000) (hi : i < 3) {s n : Int32} (hs : okS s = true → s = nI i) : (bif okS s && !decide (n < 0) then nI (sNn P) - nI (afr (sFt P) (sAg P - n) (sFn P)) else -1) = (bif okS s && !decide (n < 0) then R.nd s.toNatClampNeg - nI (cj u v g (min n.toNatClampNeg g)) else -1) := by
  cases e : okS s with
  | false => simp
  | true =>
    by_cases hn : n < 0
    · simp [hn]
    · rw [hs e, cl_nI (by omega), h.nd.2.2, h.ag.1, afr_cj h.fr (by have := h.ag; omega) hn]
theorem an_part (h : RX N i P g u v p R) (hN : N ≤ 4000) (hi : i < 3) {fu fv : Nat → Nat} (hf : ∀ j, j < g → jnd u v g j = true → fu (sFn P - 1 - cj u v g j) = u (g - 1 - j) ∧ fv (sFn P - 1 - cj u v g j) = v (g - 1 - j)) {s n a : Int32} (hs : okS s = true → s = nI i) : (bif okN (fun _ => nI (sNn P)) s a && !decide (n < 0) then nI (lab fu fv (sFn P) (afr (sFt P) (sAg P - n) (sFn P)) a.toNatClampNeg) else -1) = (bif okN R.nd s a && !decide (n < 0) then nI (lab u v g (min n.toNatClampNeg g) a.toNatClampNeg) else -1) := by
  rw [← okN_c (h.cnd hi hs)]
  by_cases hn : n < 0
  · simp [hn]
  · rw [h.ag.1, afr_cj h.fr (by have := h.ag; omega) hn, FRlab hf _ (by omega)]
theorem an_tree (h : RX N i P g u v p R) (hN : N ≤ 4000) (hi : i < 3) {fu fv : Nat → Nat} (hf : ∀ j, j < g → jnd u v g j = true → fu (sFn P - 1 - cj u v g j) = u (g - 1 - j) ∧ fv (sFn P - 1 - cj u v g j) = v (g - 1 - j)) {s k w : Int32} : (bif okS s then treeC P fu fv k w else -1) = (bif okS s && rng 0 2 w && !decide (k < 0) then trA u v w (trF (fun t => jnd u v g (g - 1 - t)) g k.toNatClampNeg g 0) else -1) := by
  cases e : okS s with
  | false => simp
  | true =>
    simp only [cond_true, Bool.true_and, treeC]
    cases q : rng 0 2 w with
    | false => simp
    | true =>
      by_cases hk : k < 0
      · simp [hk]
      · obtain ⟨j, hj, rfl⟩ := nI_of hk
        have hfn := h.fn
        have z : sFn P - cj u v g g = 0 := by rw [h.fr.1]; omega
        have hl : nI j < nI (sFn P) ↔ j < sFn P := nI_ltI hj (by omega)
        rw [cl_nI hj]
        simp only [hk, decide_false, Bool.not_false, Bool.and_self, cond_true]
        by_cases hlt : j < sFn P
        · rw [if_pos ⟨trivial, fun q => q, hl.mpr hlt⟩]
          obtain ⟨a, a1, a2, a3⟩ := cj_surj u v g g (sFn P - 1 - j) (by rw [← h.fr.1]; omega)
          have hp : sFn P - 1 - cj u v g a = j := by omega
          have := trF_some h.fr.1 j g (Nat.le_refl g) a a1 a2 hp
          rw [z] at this
          rw [this]
          have r := h.fr.2 a a1 a2
          have r2 := hf a a1 a2
          rw [hp] at r r2
          rw [r.1, r2.1, r2.2]
          simp only [trA]
          rw [show g - 1 - a + 1 = g - a by omega]
        · rw [if_neg (fun q => hlt (hl.mp q.2.2))]
          have := trF_none h.fr.1 (p := j) (by omega) g (Nat.le_refl g)
          rw [z] at this
          rw [this]
          rfl
theorem an_far (h : RX N i P g u v p R) (hi : i < 3) {s a b : Int32} (hs : okS s = true → s = nI i) : (bif okN (fun _ => nI (sNn P)) s a && okN (fun _ => nI (sNn P)) s b then dst (sNb P) (sNn P) b.toNatClampNeg 65 0 (one a.toNatClampNeg) (one a.toNatClampNeg) else -1) = (bif okN R.nd s a && okN R.nd s b then (if outW (fun k => u (p k)) (fun k => v (p k)) (sZ P) b.toNatClampNeg 64 (wy0 a.toNatClampNeg) b.toNatClampNeg < 0 then -2 else outW (fun k => u (p k)) (fun k => v (p k)) (sZ P) b.toNatClampNeg 64 (wy0 a.toNatClampNeg) b.toNatClampNeg) else -1) := by
  rw [← okN_c (h.cnd hi hs), ← okN_c (h.cnd hi hs)]
  cases q : okN (fun _ => nI (sNn P)) s a with
  | false => simp
  | true =>
    cases q2 : okN (fun _ => nI (sNn P)) s b with
    | false => simp
    | true =>
      obtain ⟨_, j, j1, rfl⟩ := okN_k h.nd.2.1 q
      obtain ⟨_, k, k1, rfl⟩ := okN_k h.nd.2.1 q2
      have := h.nd
      simp only [Bool.and_self, cond_true]
      rw [cl_nI (by omega), cl_nI (by omega)]
      exact far_eq h.nd.2.1 h.nb j1 k1 (fun t ht => ⟨(h.arc _ (h.th t ht).2.1).2.2.1, (h.arc _ (h.th t ht).2.1).2.2.2⟩)
theorem an_kept (h : RX N i P g u v p R) (hN : N ≤ 4000) (hi : i < 3) {s k w : Int32} (hs : okS s = true → s = nI i) : (bif okS s then keptC P (fun k => u (p k)) (fun k => v (p k)) k w else -1) = (bif okS s then keptR R.th R.lw R.hg s.toNatClampNeg (sZ P) k w else -1) := by
  cases e : okS s with
  | false => simp
  | true =>
    simp only [cond_true]
    rw [hs e, cl_nI (by omega)]
    simp only [keptC, keptR]
    by_cases c : rng 0 2 w = true ∧ ¬ k < 0 ∧ k < nI (sZ P)
    · rw [if_pos c, if_pos c]
      obtain ⟨j, hj, rfl⟩ := nI_of c.2.1
      have hg := h.ag.2.2
      have hz := h.tn.2
      have hlt := c.2.2
      rw [nI_ltI hj (by omega)] at hlt
      rw [cl_nI hj]
      obtain ⟨t1, t2, t3, t4⟩ := h.th j hlt
      obtain ⟨a1, a2, a3, a4⟩ := h.arc _ t2
      rw [t1, cl_nI (by omega), a1, a2, t3, nI_subN (by omega), show 4200 * i + p j - 4200 * i = p j by omega, nI_1]
      have hr := c.1
      simp only [rng, Bool.and_eq_true, Bool.not_eq_true', decide_eq_false_iff_not, Int32.lt_iff_toInt_lt, i_0] at hr
      by_cases w0 : w = 0
      · subst w0; simp
      · by_cases w1 : w = 1
        · subst w1; simp
        · have w2 : w = 2 := by
            apply Int32.toInt_inj.mp
            have n0 : w.toInt ≠ 0 := fun q => w0 (Int32.toInt_inj.mp q)
            have n1 : w.toInt ≠ 1 := fun q => w1 (Int32.toInt_inj.mp q)
            have i2 : (2 : Int32).toInt = 2 := rfl
            simp only [i2] at hr ⊢
            omega
          subst w2; simp
    · rw [if_neg c, if_neg c]
theorem an_mate (h : RX N i P g u v p R) (hi : i < 3) {s a : Int32} (hs : okS s = true → s = nI i) : (bif okN (fun _ => nI (sNn P)) s a then sMt P a.toNatClampNeg else -1) = (bif okN R.nd s a then (if R.mt (64 * s.toNatClampNeg + a.toNatClampNeg) = 0 then -2 else R.mt (64 * s.toNatClampNeg + a.toNatClampNeg) - 1) else -1) := by
  rw [← okN_c (h.cnd hi hs)]
  cases q : okN (fun _ => nI (sNn P)) s a with
  | false => simp
  | true =>
    obtain ⟨q1, k, q2, rfl⟩ := okN_k h.nd.2.1 q
    have := h.nd
    rw [hs q1, cl_nI (by omega), cl_nI (by omega)]
    simp only [cond_true]
    rcases h.mt k (by omega) with ⟨m1, m2⟩ | ⟨b, b1, m1, m2⟩
    · rw [m1, m2, if_pos rfl]
    · rw [m1, m2, if_neg (nI_ne0 (by omega) (by omega)), nI_pred]
theorem an_sum (h : RX N i P g u v p R) (hi : i < 3) {s a lv w : Int32} (hs : okS s = true → s = nI i) : (bif okN (fun _ => nI (sNn P)) s a then sumC P a lv w else 0) = (bif okN R.nd s a && (rng 0 9 lv && rng 0 2 w) then R.sm (1920 * s.toNatClampNeg + (30 * a.toNatClampNeg + (3 * lv.toNatClampNeg + w.toNatClampNeg))) else 0) := by
  rw [← okN_c (h.cnd hi hs)]
  cases q : okN (fun _ => nI (sNn P)) s a with
  | false => simp
  | true =>
    obtain ⟨q1, k, q2, rfl⟩ := okN_k h.nd.2.1 q
    have := h.nd
    simp only [cond_true, Bool.true_and, sumC]
    cases q3 : rng 0 9 lv with
    | false => simp
    | true =>
      cases q4 : rng 0 2 w with
      | false => simp
      | true =>
        simp only [Bool.and_self, cond_true]
        simp only [rng, Bool.and_eq_true, Bool.not_eq_true', decide_eq_false_iff_not] at q3 q4
        obtain ⟨x, hx, rfl⟩ := nI_of q3.1
        obtain ⟨y, hy, rfl⟩ := nI_of q4.1
        have l1 := q3.2
        have l2 := q4.2
        rw [show (9 : Int32) = nI 9 from rfl, nI_ltI (by omega) hx] at l1
        rw [show (2 : Int32) = nI 2 from rfl, nI_ltI (by omega) hy] at l2
        rw [hs q1, cl_nI (n := k) (by omega), cl_nI (n := i) (by omega), cl_nI hx, cl_nI hy]
        exact h.sm _ (by omega)
end
