/-! what add keeps -/
abbrev adP1 (P : SP) (fu fv : Nat → Nat) (a b : Nat) (ld : Nat → Int32) : SP := (sNn P, sKk P, sSt P, sSd P, sAg P + 1, kT (kC (sC P) (sNn P) (sKk P) (sTk P) a) (sNn P) (sKk P) (kT (sC P) (sNn P) (sKk P) (sTk P) a) b, kL (kC (sC P) (sNn P) (sKk P) (sTk P) a) (sKk P) (kT (sC P) (sNn P) (sKk P) (sTk P) a) (kL (sC P) (sKk P) (sTk P) (sLo P) a) b, kC (kC (sC P) (sNn P) (sKk P) (sTk P) a) (sNn P) (sKk P) (kT (sC P) (sNn P) (sKk P) (sTk P) a) b, sTg P, facN (sFn P) (obt fu fv (sFn P) (min a b) (max a b) (sFn P)), facF (sFt P) (sFn P) (obt fu fv (sFn P) (min a b) (max a b) (sFn P)) (sAg P + 1), facF (sFk P) (sFn P) (obt fu fv (sFn P) (min a b) (max a b) (sFn P)) (nI (64 * min a b + max a b)), ld, sZ P + 1, upd (sTt P) (sZ P) (sAg P + 1), upd (sTq P) (sZ P) (nI (64 * min a b + max a b)), nbA (sNb P) (min a b) (max a b), (bif mtB (sMt P) (min a b) (max a b) then sPr P + 1 else sPr P), mtF (sMt P) (min a b) (max a b), chgR (sS P) (min a b) (max a b) (arcKey (min a b) (max a b)) 1 (lvK (sSd P) (arcKey (min a b) (max a b)) + 1))
abbrev adP2 (P : SP) (fu fv : Nat → Nat) (a b : Nat) (ld : Nat → Int32) : SP := (sNn P, sKk P, sSt P, sSd P, sAg P + 1, kT (kC (sC P) (sNn P) (sKk P) (sTk P) a) (sNn P) (sKk P) (kT (sC P) (sNn P) (sKk P) (sTk P) a) b, kL (kC (sC P) (sNn P) (sKk P) (sTk P) a) (sKk P) (kT (sC P) (sNn P) (sKk P) (sTk P) a) (kL (sC P) (sKk P) (sTk P) (sLo P) a) b, kC (kC (sC P) (sNn P) (sKk P) (sTk P) a) (sNn P) (sKk P) (kT (sC P) (sNn P) (sKk P) (sTk P) a) b, sTg P, facN (sFn P) (obt fu fv (sFn P) (min a b) (max a b) (sFn P)), facF (sFt P) (sFn P) (obt fu fv (sFn P) (min a b) (max a b) (sFn P)) (sAg P + 1), facF (sFk P) (sFn P) (obt fu fv (sFn P) (min a b) (max a b) (sFn P)) (nI (64 * min a b + max a b)), ld, sZ P, sTt P, sTq P, sNb P, (bif mtB (sMt P) (min a b) (max a b) then sPr P + 1 else sPr P), mtF (sMt P) (min a b) (max a b), chgR (sS P) (min a b) (max a b) (arcKey (min a b) (max a b)) 1 (lvK (sSd P) (arcKey (min a b) (max a b)) + 1))
abbrev adR (R : RS) (i g a b : Nat) (th tn : Nat → Int32) : RS := (R.nd, R.sl, R.sr, R.sd, upd R.ag i (nI (g + 1)), cntL (cntL R.lo R.ct (R.sl i) i a) (cntC R.ct (R.sl i) i a) (R.sl i) i b, upd R.lw (4200 * i + g) (nI (min a b)), upd R.hg (4200 * i + g) (nI (max a b)), cntC (cntC R.ct (R.sl i) i a) (R.sl i) i b, (if R.mt (64 * i + a) = 0 ∧ R.mt (64 * i + b) = 0 then upd (upd R.mt (64 * i + a) (nI (b + 1))) (64 * i + b) (nI (a + 1)) else R.mt), winL 1920 i R.sm (chgR (fun j => R.sm (1920 * i + j)) (min a b) (max a b) (arcKey (min a b) (max a b)) 1 (lvK (R.sd i) (arcKey (min a b) (max a b)) + 1)), th, tn)
theorem un_at (u : Nat → Nat) (g x : Nat) : un u g x g = x := by simp [un]
theorem un_ne (u : Nat → Nat) {g t : Nat} (x : Nat) (h : t ≠ g) : un u g x t = u t := by simp [un, h]
section
variable {N i : Nat} {P : SP} {g : Nat} {u v p : Nat → Nat} {R : RS}
/-- all that add keeps but the thinned graph -/
theorem add_cr (h : RX N i P g u v p R) (hN : N ≤ 4000) {a b : Nat} (ha : a < sNn P) (hb : b < sNn P) : CR i (sNn P) (1000000000 + 2 * ((N + 1 : Nat) : Int)) (kC (kC (sC P) (sNn P) (sKk P) (sTk P) a) (sNn P) (sKk P) (kT (sC P) (sNn P) (sKk P) (sTk P) a) b) (kT (kC (sC P) (sNn P) (sKk P) (sTk P) a) (sNn P) (sKk P) (kT (sC P) (sNn P) (sKk P) (sTk P) a) b) (kL (kC (sC P) (sNn P) (sKk P) (sTk P) a) (sKk P) (kT (sC P) (sNn P) (sKk P) (sTk P) a) (kL (sC P) (sKk P) (sTk P) (sLo P) a) b) (cntC (cntC R.ct (R.sl i) i a) (R.sl i) i b) (cntL (cntL R.lo R.ct (R.sl i) i a) (cntC R.ct (R.sl i) i a) (R.sl i) i b) := by
  have h1 := (h.cr.count (kk := sKk P) h.nd.2.1 ha (by omega)).count (kk := sKk P) h.nd.2.1 hb (by omega)
  rw [← h.sl.2] at h1
  rw [show (1000000000 + 2 * ((N + 1 : Nat) : Int)) = 1000000000 + 2 * (N : Int) + 1 + 1 by omega]
  exact h1
theorem add_arc (h : RX N i P g u v p R) {a b : Nat} (ha : a < sNn P) (hb : b < sNn P) : ∀ t, t < g + 1 → upd R.lw (4200 * i + g) (nI (min a b)) (4200 * i + t) = nI (un u g (min a b) t) ∧ upd R.hg (4200 * i + g) (nI (max a b)) (4200 * i + t) = nI (un v g (max a b) t) ∧ un u g (min a b) t < sNn P ∧ un v g (max a b) t < sNn P := fun t ht => by
  by_cases e : t = g
  · subst e
    rw [up_at, up_at, un_at, un_at]
    exact ⟨rfl, rfl, by omega, by omega⟩
  · rw [up_ne _ _ (by omega), up_ne _ _ (by omega), un_ne _ _ e, un_ne _ _ e]
    exact h.arc t (by omega)
theorem add_sm (h : RX N i P g u v p R) {a b : Nat} : ∀ j, j < 1920 → chgR (sS P) (min a b) (max a b) (arcKey (min a b) (max a b)) 1 (lvK (sSd P) (arcKey (min a b) (max a b)) + 1) j = winL 1920 i R.sm (chgR (fun j => R.sm (1920 * i + j)) (min a b) (max a b) (arcKey (min a b) (max a b)) 1 (lvK (R.sd i) (arcKey (min a b) (max a b)) + 1)) (1920 * i + j) := fun j hj => by
  rw [winL_at hj, h.sd]
  exact chg_at (h.sm j hj) _
theorem add_sz (h : RX N i P g u v p R) {a b : Nat} (ha : a < sNn P) (hb : b < sNn P) : ∀ j, 30 * sNn P ≤ j → j < 1920 → chgR (sS P) (min a b) (max a b) (arcKey (min a b) (max a b)) 1 (lvK (sSd P) (arcKey (min a b) (max a b)) + 1) j = 0 := fun j h1 h2 => by
  rw [chg_off (nn := sNn P) (by omega) (by omega) h1 _ (by have := lvK_le (sSd P) (arcKey (min a b) (max a b)); omega)]
  exact h.sz j h1 h2
theorem RX.add1 (h : RX N i P g u v p R) (hN : N ≤ 4000) {fu fv : Nat → Nat} (hf : ∀ j, j < g → jnd u v g j = true → fu (sFn P - 1 - cj u v g j) = u (g - 1 - j) ∧ fv (sFn P - 1 - cj u v g j) = v (g - 1 - j)) {a b : Nat} (ha : a < sNn P) (hb : b < sNn P) (hab : ¬ a = b) (ld : Nat → Int32) : RX (N + 1) i (adP1 P fu fv a b ld) (g + 1) (un u g (min a b)) (un v g (max a b)) (un p (sZ P) g) (adR R i g a b (upd R.th (4200 * i + sZ P) (nI (4200 * i + g))) (upd R.tn i (nI (sZ P + 1)))) := by
  have hn := h.nd
  have e1 : sAg P + 1 = nI (g + 1) := by rw [h.ag.1, nI_1]
  obtain ⟨n, p1, p2⟩ := h.pr
  have hm := mt_add (i := i) (a := a) (b := b) (by omega) (by omega) hab h.mt p1 p2
  have hF := FRadd h.fr hf (show min a b ≠ max a b by omega)
  rw [← h.ag.1] at hF
  exact
  RX.mk
    (f_ag := ⟨e1, up_at _ _ _, by have := h.ag; omega⟩)
    (f_nd := h.nd)
    (f_sl := h.sl)
    (f_sr := h.sr)
    (f_sd := h.sd)
    (f_cr := add_cr h hN ha hb)
    (f_arc := add_arc h ha hb)
    (f_fr := hF)
    (f_tn := ⟨up_at _ _ _, by have := h.tn.2; show sZ P + 1 ≤ g + 1; omega⟩)
    (f_th := fun k hk => by
      show upd R.th (4200 * i + sZ P) (nI (4200 * i + g)) (4200 * i + k) = nI (4200 * i + un p (sZ P) g k) ∧ un p (sZ P) g k < g + 1 ∧ upd (sTt P) (sZ P) (sAg P + 1) k = nI (un p (sZ P) g k + 1) ∧ upd (sTq P) (sZ P) (nI (64 * min a b + max a b)) k = nI (64 * un u g (min a b) (un p (sZ P) g k) + un v g (max a b) (un p (sZ P) g k))
      replace hk : k < sZ P + 1 := hk
      by_cases e : k = sZ P
      · rw [e, up_at, up_at, up_at, un_at, un_at, un_at, e1]
        exact ⟨rfl, by omega, rfl, rfl⟩
      · obtain ⟨t1, t2, t3, t4⟩ := h.th k (by omega)
        rw [up_ne _ _ (by omega), up_ne _ _ e, up_ne _ _ e, un_ne _ _ e, un_ne _ _ (by omega), un_ne _ _ (by omega)]
        exact ⟨t1, by omega, t3, t4⟩)
    (f_nb := NB_add h.nb hn.2.1 (by omega) (by omega) (by omega) (fun k hk => by
      have t2 := (h.th k hk).2.1
      show un u g (min a b) (un p (sZ P) g k) = u (p k) ∧ un v g (max a b) (un p (sZ P) g k) = v (p k)
      rw [show un p (sZ P) g k = p k from un_ne _ _ (by omega), un_ne _ _ (by omega), un_ne _ _ (by omega)]
      exact ⟨rfl, rfl⟩) (by
      show un u g (min a b) (un p (sZ P) g (sZ P)) = min a b
      rw [un_at, un_at]) (by
      show un v g (max a b) (un p (sZ P) g (sZ P)) = max a b
      rw [un_at, un_at]))
    (f_mt := hm.1)
    (f_pr := hm.2)
    (f_sm := add_sm h)
    (f_sz := add_sz h ha hb)
theorem RX.add2 (h : RX N i P g u v p R) (hN : N ≤ 4000) {fu fv : Nat → Nat} (hf : ∀ j, j < g → jnd u v g j = true → fu (sFn P - 1 - cj u v g j) = u (g - 1 - j) ∧ fv (sFn P - 1 - cj u v g j) = v (g - 1 - j)) {a b : Nat} (ha : a < sNn P) (hb : b < sNn P) (hab : ¬ a = b) (ld : Nat → Int32) : RX (N + 1) i (adP2 P fu fv a b ld) (g + 1) (un u g (min a b)) (un v g (max a b)) p (adR R i g a b R.th R.tn) := by
  have hn := h.nd
  have e1 : sAg P + 1 = nI (g + 1) := by rw [h.ag.1, nI_1]
  obtain ⟨n, p1, p2⟩ := h.pr
  have hm := mt_add (i := i) (a := a) (b := b) (by omega) (by omega) hab h.mt p1 p2
  have hF := FRadd h.fr hf (show min a b ≠ max a b by omega)
  rw [← h.ag.1] at hF
  have hu : ∀ k, k < sZ P → un u g (min a b) (p k) = u (p k) ∧ un v g (max a b) (p k) = v (p k) := fun k hk => by
    have t2 := (h.th k hk).2.1
    rw [un_ne _ _ (by omega), un_ne _ _ (by omega)]
    exact ⟨rfl, rfl⟩
  exact
  RX.mk
    (f_ag := ⟨e1, up_at _ _ _, by have := h.ag; omega⟩)
    (f_nd := h.nd)
    (f_sl := h.sl)
    (f_sr := h.sr)
    (f_sd := h.sd)
    (f_cr := add_cr h hN ha hb)
    (f_arc := add_arc h ha hb)
    (f_fr := hF)
    (f_tn := ⟨h.tn.1, by have := h.tn.2; show sZ P ≤ g + 1; omega⟩)
    (f_th := fun k hk => by
      obtain ⟨t1, t2, t3, t4⟩ := h.th k hk
      show R.th (4200 * i + k) = nI (4200 * i + p k) ∧ p k < g + 1 ∧ sTt P k = nI (p k + 1) ∧ sTq P k = nI (64 * un u g (min a b) (p k) + un v g (max a b) (p k))
      rw [(hu k hk).1, (hu k hk).2]
      exact ⟨t1, by omega, t3, t4⟩)
    (f_nb := fun c hc e he => by
      have := h.nb c hc e he
      show bt (sNb P c) e = true ↔ Adj (fun k => un u g (min a b) (p k)) (fun k => un v g (max a b) (p k)) (sZ P) c e
      rw [this]
      constructor
      · rintro ⟨k, k1, k2⟩
        exact ⟨k, k1, by simp only [(hu k k1).1, (hu k k1).2]; exact k2⟩
      · rintro ⟨k, k1, k2⟩
        simp only [(hu k k1).1, (hu k k1).2] at k2
        exact ⟨k, k1, k2⟩)
    (f_mt := hm.1)
    (f_pr := hm.2)
    (f_sm := add_sm h)
    (f_sz := add_sz h ha hb)
theorem cntC_o {ct : Nat → Int32} {sl : Int32} {k a j : Nat} (ha : a < 64) (h : j < 64 * k ∨ 64 * k + 64 ≤ j) : cntC ct sl k a j = ct j := by
  simp only [cntC]
  cases cntT ct sl k a with
  | true => simp only [cond_true]; exact up_ne _ _ (by omega)
  | false => simp only [cond_false, lessF]; rw [if_neg (by omega)]
theorem cntL_o {lo ct : Nat → Int32} {sl : Int32} {k a j : Nat} (h : j ≠ k) : cntL lo ct sl k a j = lo j := by
  simp only [cntL]
  cases cntT ct sl k a with
  | true => rfl
  | false => simp only [cond_false]; exact up_ne _ _ h
theorem RX.add_o (h : RX N i P g u v p R) (hg : g ≤ 4200) {k g2 a b : Nat} (hk : k ≠ i) (hg2 : g2 < 4200) (ha : a < 64) (hb : b < 64) {th tn : Nat → Int32} (hth : ∀ t, t < 4200 → th (4200 * i + t) = R.th (4200 * i + t)) (htn : tn i = R.tn i) : RX N i P g u v p (adR R k g2 a b th tn) :=
  h.frame hg rfl rfl rfl rfl (up_ne _ _ hk.symm) (by show cntL _ _ _ _ _ i = _; rw [cntL_o hk.symm, cntL_o hk.symm]) (fun t ht => up_ne _ _ (by omega)) (fun t ht => up_ne _ _ (by omega)) (fun c hc => by show cntC _ _ _ _ _ = _; rw [cntC_o hb (by omega), cntC_o ha (by omega)]) (fun c hc => by
    show (if R.mt (64 * k + a) = 0 ∧ R.mt (64 * k + b) = 0 then upd (upd R.mt (64 * k + a) (nI (b + 1))) (64 * k + b) (nI (a + 1)) else R.mt) (64 * i + c) = _
    split
    · rw [up_ne _ _ (by omega), up_ne _ _ (by omega)]
    · rfl) (fun j hj => winL_off (by omega)) hth htn
end
