/-! what begin, take and add keep -/
theorem row_at {S T : Nat → Int64} {p : Nat} {key t : Int64} {j : Nat} (h : S j = T j) : rowAdd S p key t j = rowAdd T p key t j := by
  simp only [rowAdd, vp_updL]
  by_cases e2 : j = p + 2
  · subst e2; simp [h]
  · by_cases e1 : j = p + 1
    · subst e1; simp [h]
    · by_cases e0 : j = p
      · subst e0; simp [h]
      · simp [e0, e1, e2, h]
theorem row_off {S : Nat → Int64} {p : Nat} {key t : Int64} {j : Nat} (h : j < p ∨ p + 2 < j) : rowAdd S p key t j = S j := by
  simp only [rowAdd, vp_updL]
  rw [if_neg (by omega), if_neg (by omega), if_neg (by omega)]
theorem chg_at {S T : Nat → Int64} {x y : Nat} {key t : Int64} {j : Nat} (h : S j = T j) : ∀ n, chgR S x y key t n j = chgR T x y key t n j
  | 0 => h
  | n + 1 => by
    rw [chgR, chgR]
    exact row_at (row_at (chg_at h n))
theorem chg_off {S : Nat → Int64} {x y nn : Nat} {key t : Int64} {j : Nat} (hx : x < nn) (hy : y < nn) (hj : 30 * nn ≤ j) : ∀ n, n ≤ 10 → chgR S x y key t n j = S j
  | 0, _ => rfl
  | n + 1, hn => by
    rw [chgR, row_off (by omega), row_off (by omega)]
    exact chg_off hx hy hj n (by omega)
theorem lvK_le (a b : Int64) : lvK a b ≤ 9 := lvF_le _ 9
abbrev sSetS (P : SP) (x : Nat → Int64) : SP := (sNn P, sKk P, sSt P, sSd P, sAg P, sTk P, sLo P, sC P, sTg P, sFn P, sFt P, sFk P, sLd P, sZ P, sTt P, sTq P, sNb P, sPr P, sMt P, x)
section
variable {N i : Nat} {P : SP} {g : Nat} {u v p : Nat → Nat} {R : RS}
theorem RX.setLd (h : RX N i P g u v p R) (ld : Nat → Int32) : RX N i (sSetLd P ld) g u v p R :=
  RX.mk
    (f_ag := h.ag)
    (f_nd := h.nd)
    (f_sl := h.sl)
    (f_sr := h.sr)
    (f_sd := h.sd)
    (f_cr := h.cr)
    (f_arc := h.arc)
    (f_fr := h.fr)
    (f_tn := h.tn)
    (f_th := h.th)
    (f_nb := h.nb)
    (f_mt := h.mt)
    (f_pr := h.pr)
    (f_sm := h.sm)
    (f_sz := h.sz)
theorem RX.take (h : RX N i P g u v p R) {x y : Nat} (hx : x < sNn P) (hy : y < sNn P) {key t : Int64} {n : Nat} (hn : n ≤ 10) : RX N i (sSetS P (chgR (sS P) x y key t n)) g u v p (R.nd, R.sl, R.sr, R.sd, R.ag, R.lo, R.lw, R.hg, R.ct, R.mt, winL 1920 i R.sm (chgR (fun j => R.sm (1920 * i + j)) x y key t n), R.th, R.tn) :=
  RX.mk
    (f_ag := h.ag)
    (f_nd := h.nd)
    (f_sl := h.sl)
    (f_sr := h.sr)
    (f_sd := h.sd)
    (f_cr := h.cr)
    (f_arc := h.arc)
    (f_fr := h.fr)
    (f_tn := h.tn)
    (f_th := h.th)
    (f_nb := h.nb)
    (f_mt := h.mt)
    (f_pr := h.pr)
    (f_sm := fun j hj => by
      show chgR (sS P) x y key t n j = winL 1920 i R.sm (chgR (fun j => R.sm (1920 * i + j)) x y key t n) (1920 * i + j)
      rw [winL_at hj]
      exact chg_at (h.sm j hj) n)
    (f_sz := fun j h1 h2 => by
      show chgR (sS P) x y key t n j = 0
      rw [chg_off hx hy h1 n hn]
      exact h.sz j h1 h2)
theorem winL_off {w s j : Nat} {F S : Nat → Int64} (h : j < w * s ∨ w * s + w ≤ j) : winL w s F S j = F j := by
  simp only [winL]; rw [if_neg (by omega)]
theorem RX.take_o (h : RX N i P g u v p R) (hg : g ≤ 4200) {k : Nat} (hk : k ≠ i) (S : Nat → Int64) : RX N i P g u v p (R.nd, R.sl, R.sr, R.sd, R.ag, R.lo, R.lw, R.hg, R.ct, R.mt, winL 1920 k R.sm S, R.th, R.tn) :=
  h.frame hg rfl rfl rfl rfl rfl rfl (fun _ _ => rfl) (fun _ _ => rfl) (fun _ _ => rfl) (fun _ _ => rfl) (fun j hj => winL_off (by omega)) (fun _ _ => rfl) rfl
/-- begin -/
abbrev bgP (P : SP) (n k t : Nat) (sd : Int64) : SP := (n, k, t, sd, 0, 0, 0, fun _ => 0, sTg P, 0, sFt P, sFk P, sLd P, 0, sTt P, sTq P, fun _ => 0, 0, fun _ => -2, fun _ => 0)
abbrev bgR (R : RS) (i : Nat) (n k t : Int32) (sd : Int64) : RS := (upd R.nd i n, upd R.sl i k, upd R.sr i t, vp_updL R.sd i sd, upd R.ag i 0, upd R.lo i 0, R.lw, R.hg, zI R.ct (64 * i) 64, zI R.mt (64 * i) 64, zL R.sm (1920 * i) 1920, R.th, upd R.tn i 0)
theorem cntP_0 {f : Nat → Int32} : ∀ n, (∀ j, j < n → f j = 0) → cntP f n = 0
  | 0, _ => rfl
  | n + 1, h => by rw [cntP, cntP_0 n (fun j hj => h j (by omega)), h n (by omega)]; rfl
theorem RX.begin (P : SP) (R : RS) (N i : Nat) {n k t : Nat} (h1 : 2 ≤ n ∧ n ≤ 64) (h2 : k ≤ 16) (h3 : t ≤ 7) (sd : Int64) (u v p : Nat → Nat) : RX N i (bgP P n k t sd) 0 u v p (bgR R i (nI n) (nI k) (nI t) sd) := by
  have z1 : ∀ (f : Nat → Int32) a, a < 64 → zI f (64 * i) 64 (64 * i + a) = 0 := fun f a ha => by simp only [zI]; rw [if_pos (by omega)]
  have z2 : ∀ (f : Nat → Int64) a, a < 1920 → zL f (1920 * i) 1920 (1920 * i + a) = 0 := fun f a ha => by simp only [zL]; rw [if_pos (by omega)]
  exact
  RX.mk
    (f_ag := ⟨nI_0.symm, (up_at _ _ _).trans nI_0.symm, by omega⟩)
    (f_nd := ⟨h1.1, h1.2, up_at _ _ _⟩)
    (f_sl := ⟨h2, up_at _ _ _⟩)
    (f_sr := ⟨h3, up_at _ _ _⟩)
    (f_sd := by show vp_updL R.sd i sd i = sd; simp [vp_updL])
    (f_cr := ⟨fun a ha => (z1 R.ct a ha).symm, fun a ha => ⟨by show (0 : Int) ≤ (0 : Int32).toInt; decide, by show (0 : Int32).toInt ≤ _; rw [i_0]; omega⟩, fun _ _ _ => rfl, by rw [cntP_0 64 (fun _ _ => rfl)]; rfl, (up_at _ _ _).symm⟩)
    (f_arc := fun t ht => by omega)
    (f_fr := ⟨rfl, fun i hi => by omega⟩)
    (f_tn := ⟨by show upd R.tn i 0 i = nI 0; simp [upd, nI_0], Nat.le_refl 0⟩)
    (f_th := fun k hk => absurd hk (Nat.not_lt_zero k))
    (f_nb := fun c _ e _ => by
      show bt 0 e = true ↔ _
      rw [bt_0]
      constructor
      · intro q; exact absurd q (by decide)
      · rintro ⟨k, hk, _⟩; exact absurd hk (Nat.not_lt_zero k))
    (f_mt := fun a ha => .inl ⟨z1 R.mt a ha, rfl⟩)
    (f_pr := ⟨0, rfl, cntP_0 64 (fun a ha => z1 R.mt a ha)⟩)
    (f_sm := fun j hj => (z2 R.sm j hj).symm)
    (f_sz := fun _ _ _ => rfl)
theorem RX.begin_o (h : RX N i P g u v p R) (hg : g ≤ 4200) {m : Nat} (hm : m ≠ i) (n k t : Int32) (sd : Int64) : RX N i P g u v p (bgR R m n k t sd) :=
  h.frame hg (up_ne _ _ hm.symm) (up_ne _ _ hm.symm) (up_ne _ _ hm.symm) (by show vp_updL R.sd m sd i = _; simp only [vp_updL]; rw [if_neg hm.symm]) (up_ne _ _ hm.symm) (up_ne _ _ hm.symm) (fun _ _ => rfl) (fun _ _ => rfl) (fun a ha => by show zI R.ct (64 * m) 64 _ = _; simp only [zI]; rw [if_neg (by omega)]) (fun a ha => by show zI R.mt (64 * m) 64 _ = _; simp only [zI]; rw [if_neg (by omega)]) (fun a ha => by show zL R.sm (1920 * m) 1920 _ = _; simp only [zL]; rw [if_neg (by omega)]) (fun _ _ => rfl) (up_ne _ _ hm.symm)
end
theorem nI_g0 {n : Nat} (h : 0 < n) (h2 : n < 2 ^ 31) : 0 < nI n := by rw [Int32.lt_iff_toInt_lt, nI_toInt h2, i_0]; omega
/-- the matching -/
theorem mt_add {i : Nat} {mt cm : Nat → Int32} {pr : Int32} {n a b : Nat} (ha : a < 64) (hb : b < 64) (hab : ¬ a = b) (h : ∀ c, c < 64 → (mt (64 * i + c) = 0 ∧ cm c = -2) ∨ ∃ b, b < 64 ∧ mt (64 * i + c) = nI (b + 1) ∧ cm c = nI b) (hp : pr = nI n) (hc : cntP (fun c => mt (64 * i + c)) 64 = 2 * n) :
    (∀ c, c < 64 → ((if mt (64 * i + a) = 0 ∧ mt (64 * i + b) = 0 then upd (upd mt (64 * i + a) (nI (b + 1))) (64 * i + b) (nI (a + 1)) else mt) (64 * i + c) = 0 ∧ mtF cm (min a b) (max a b) c = -2) ∨ ∃ d, d < 64 ∧ (if mt (64 * i + a) = 0 ∧ mt (64 * i + b) = 0 then upd (upd mt (64 * i + a) (nI (b + 1))) (64 * i + b) (nI (a + 1)) else mt) (64 * i + c) = nI (d + 1) ∧ mtF cm (min a b) (max a b) c = nI d) ∧
    ∃ m, (bif mtB cm (min a b) (max a b) then pr + 1 else pr) = nI m ∧ cntP (fun c => (if mt (64 * i + a) = 0 ∧ mt (64 * i + b) = 0 then upd (upd mt (64 * i + a) (nI (b + 1))) (64 * i + b) (nI (a + 1)) else mt) (64 * i + c)) 64 = 2 * m := by
  have hz : ∀ c, c < 64 → (cm c = -2 ↔ mt (64 * i + c) = 0) := fun c hc => by
    rcases h c hc with ⟨h1, h2⟩ | ⟨d, h0, h1, h2⟩
    · rw [h1, h2]; simp
    · rw [h1, h2]
      exact ⟨fun q => absurd q (m2_nI d h0), fun q => absurd q (nI_ne0 (by omega) (by omega))⟩
  have hB : mtB cm (min a b) (max a b) = true ↔ (mt (64 * i + a) = 0 ∧ mt (64 * i + b) = 0) := by
    simp only [mtB, Bool.and_eq_true, decide_eq_true_iff]
    rcases Nat.le_total a b with w | w
    · rw [Nat.min_eq_left w, Nat.max_eq_right w, hz a ha, hz b hb]
    · rw [Nat.min_eq_right w, Nat.max_eq_left w, hz a ha, hz b hb]; exact And.comm
  by_cases q : mt (64 * i + a) = 0 ∧ mt (64 * i + b) = 0
  · have hBt := hB.mpr q
    simp only [mtF, hBt, q, and_self, if_true, cond_true]
    have e1 : ∀ c, c < 64 → c ≠ a → c ≠ b → upd (upd cm (min a b) (nI (max a b))) (max a b) (nI (min a b)) c = cm c := fun c _ h1 h2 => by
      rw [up_ne _ _ (by omega), up_ne _ _ (by omega)]
    have e2 : upd (upd cm (min a b) (nI (max a b))) (max a b) (nI (min a b)) a = nI b := by
      rcases Nat.le_total a b with w | w
      · rw [Nat.min_eq_left w, Nat.max_eq_right w, up_ne _ _ (by omega), up_at]
      · rw [Nat.min_eq_right w, Nat.max_eq_left w, up_at]
    have e3 : upd (upd cm (min a b) (nI (max a b))) (max a b) (nI (min a b)) b = nI a := by
      rcases Nat.le_total a b with w | w
      · rw [Nat.min_eq_left w, Nat.max_eq_right w, up_at]
      · rw [Nat.min_eq_right w, Nat.max_eq_left w, up_ne _ _ (by omega), up_at]
    refine ⟨fun c hc => ?_, n + 1, by rw [hp, nI_1], ?_⟩
    · by_cases ca : c = a
      · subst ca
        rw [e2, up_ne _ _ (by omega), up_at]
        exact .inr ⟨b, hb, rfl, rfl⟩
      · by_cases cb : c = b
        · subst cb
          rw [e3, up_at]
          exact .inr ⟨a, ha, rfl, rfl⟩
        · rw [e1 c hc ca cb, up_ne _ _ (by omega), up_ne _ _ (by omega)]
          exact h c hc
    · have ef : (fun c => upd (upd mt (64 * i + a) (nI (b + 1))) (64 * i + b) (nI (a + 1)) (64 * i + c)) = upd (upd (fun c => mt (64 * i + c)) a (nI (b + 1))) b (nI (a + 1)) := by
        funext c
        simp only [upd]
        by_cases cb : c = b
        · subst cb; simp
        · rw [if_neg (by omega), if_neg cb]
          by_cases ca : c = a
          · subst ca; simp
          · rw [if_neg (by omega), if_neg ca]
      rw [ef, cntP_up (f := upd (fun c => mt (64 * i + c)) a (nI (b + 1))) hb (by rw [up_ne _ _ (fun e => hab e.symm), q.2]; decide) (nI_g0 (by omega) (by omega)), cntP_up (f := fun c => mt (64 * i + c)) ha (by rw [q.1]; decide) (nI_g0 (by omega) (by omega)), hc]
      omega
  · have hBf : mtB cm (min a b) (max a b) = false := by
      cases e : mtB cm (min a b) (max a b) with
      | false => rfl
      | true => exact absurd (hB.mp e) q
    simp only [mtF, hBf, q, if_false, cond_false]
    exact ⟨h, n, hp, hc⟩
/-- the thinned graph -/
theorem NB_add {x y : Nat → Nat} {ts nn X Y : Nat} {nb : Nat → Int64} (h : NB x y ts nn nb) (hnn : nn ≤ 64) (hX : X < nn) (hY : Y < nn) (hXY : X ≠ Y) {x2 y2 : Nat → Nat} (ex : ∀ k, k < ts → x2 k = x k ∧ y2 k = y k) (eX : x2 ts = X) (eY : y2 ts = Y) : NB x2 y2 (ts + 1) nn (nbA nb X Y) := by
  intro c hc e he
  have hA : Adj x2 y2 (ts + 1) c e ↔ Adj x y ts c e ∨ (c = X ∧ e = Y) ∨ (c = Y ∧ e = X) := by
    constructor
    · rintro ⟨k, k1, k2⟩
      by_cases q : k = ts
      · subst q; rw [eX, eY] at k2; omega
      · rw [(ex k (by omega)).1, (ex k (by omega)).2] at k2
        exact .inl ⟨k, by omega, k2⟩
    · rintro (⟨k, k1, k2⟩ | q)
      · exact ⟨k, by omega, by rw [(ex k k1).1, (ex k k1).2]; exact k2⟩
      · exact ⟨ts, by omega, by rw [eX, eY]; omega⟩
  rw [hA]
  simp only [nbA, vp_updL]
  by_cases cY : c = Y
  · subst cY
    rw [if_pos rfl, if_neg (fun q => hXY q.symm), bt_or, Bool.or_eq_true, h c hc e he, bt_one X (by omega) e he, decide_eq_true_iff]
    exact ⟨fun q => q.elim .inl (fun a => .inr (.inr ⟨rfl, a⟩)), fun q => q.elim .inl (fun a => .inr (by omega))⟩
  · rw [if_neg cY]
    by_cases cX : c = X
    · subst cX
      rw [if_pos rfl, bt_or, Bool.or_eq_true, h c hc e he, bt_one Y (by omega) e he, decide_eq_true_iff]
      exact ⟨fun q => q.elim .inl (fun a => .inr (.inl ⟨rfl, a⟩)), fun q => q.elim .inl (fun a => .inr (by omega))⟩
    · rw [if_neg cX, h c hc e he]
      exact ⟨.inl, fun q => q.elim id (fun a => absurd a (by omega))⟩
