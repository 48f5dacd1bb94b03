/-! pure: the reference's ways -/
def Pin (d : Int32) (W0 W : Nat → Int32) (H : Nat → Prop) : Prop := ∀ c, (W c = W0 c ∧ (W0 c < 0 → ¬ H c)) ∨ (W0 c < 0 ∧ H c ∧ W c = d + 1)
theorem Pin.rel {d : Int32} {W0 W : Nat → Int32} {H : Nat → Prop} {X Y : Nat} (hd : ¬ d < 0) (hd1 : ¬ d + 1 < 0) (hne : d + 1 ≠ d) (h : Pin d W0 W H) : Pin d W0 (rel1 W d X Y) (fun c => H c ∨ (c = Y ∧ W0 X = d)) := by
  have hX : W X = d ↔ W0 X = d := by
    rcases h X with ⟨h1, _⟩ | ⟨h1, _, h2⟩
    · rw [h1]
    · constructor
      · intro e; exact absurd (h2.symm.trans e) hne
      · intro e; rw [e] at h1; exact absurd h1 hd
  intro c
  by_cases e : c = Y
  · subst e
    simp only [rel1, upd, if_true]
    rcases h c with ⟨h1, h2⟩ | ⟨h1, h2, h3⟩
    · by_cases q : W X = d ∧ W c < 0
      · rw [if_pos q]
        exact .inr ⟨by rw [← h1]; exact q.2, .inr ⟨trivial, hX.mp q.1⟩, rfl⟩
      · rw [if_neg q]
        refine .inl ⟨h1, fun hl hh => ?_⟩
        rcases hh with hh | ⟨_, hh⟩
        · exact h2 hl hh
        · exact q ⟨hX.mpr hh, by rw [h1]; exact hl⟩
    · rw [if_neg (fun q => hd1 (by rw [← h3]; exact q.2))]
      exact .inr ⟨h1, .inl h2, h3⟩
  · simp only [rel1, upd, e, if_false]
    rcases h c with ⟨h1, h2⟩ | ⟨h1, h2, h3⟩
    · exact .inl ⟨h1, fun hl hh => h2 hl (by rcases hh with hh | ⟨hh, _⟩; exact hh; exact hh.elim)⟩
    · exact .inr ⟨h1, .inl h2, h3⟩
theorem Pin.to {d : Int32} {W0 W : Nat → Int32} {H H2 : Nat → Prop} (h : Pin d W0 W H) (e : ∀ c, H c ↔ H2 c) : Pin d W0 W H2 := fun c => by
  rcases h c with ⟨h1, h2⟩ | ⟨h1, h2, h3⟩
  · exact .inl ⟨h1, fun hl hh => h2 hl ((e c).mpr hh)⟩
  · exact .inr ⟨h1, (e c).mp h2, h3⟩
theorem pas_pin {d : Int32} (x y : Nat → Nat) (W0 : Nat → Int32) (hd : ¬ d < 0) (hd1 : ¬ d + 1 < 0) (hne : d + 1 ≠ d) : ∀ k, Pin d W0 (pasW x y W0 d k) (fun c => ∃ j, j < k ∧ ((y j = c ∧ W0 (x j) = d) ∨ (x j = c ∧ W0 (y j) = d)))
  | 0 => fun c => .inl ⟨rfl, fun _ h => by obtain ⟨j, h1, _⟩ := h; omega⟩
  | k + 1 => by
    have ih := pas_pin x y W0 hd hd1 hne k
    rw [pasW, rel2]
    refine ((ih.rel (X := x k) (Y := y k) hd hd1 hne).rel (X := y k) (Y := x k) hd hd1 hne).to (fun c => ?_)
    constructor
    · rintro ((⟨j, h1, h2⟩ | ⟨h1, h2⟩) | ⟨h1, h2⟩)
      · exact ⟨j, by omega, h2⟩
      · exact ⟨k, by omega, .inl ⟨h1.symm, h2⟩⟩
      · exact ⟨k, by omega, .inr ⟨h1.symm, h2⟩⟩
    · rintro ⟨j, h1, h2⟩
      by_cases e : j = k
      · subst e
        rcases h2 with ⟨h2, h3⟩ | ⟨h2, h3⟩
        · exact .inl (.inr ⟨h2.symm, h3⟩)
        · exact .inr ⟨h2.symm, h3⟩
      · exact .inl (.inl ⟨j, by omega, h2⟩)
def Stg (x y : Nat → Nat) (ts a d : Nat) (W : Nat → Int32) : Prop := ∀ c, c < 64 → (∃ e, e ≤ d ∧ W c = nI e ∧ Dis x y ts a c e) ∨ (W c = -1 ∧ ¬ Rch x y ts a d c)
theorem Stg.step {x y : Nat → Nat} {ts a d : Nat} {W : Nat → Int32} (hx : ∀ k, k < ts → x k < 64 ∧ y k < 64) (ha : a < 64) (hd : d < 64) (h : Stg x y ts a d W) : Stg x y ts a (d + 1) (pasW x y W (nI d) ts) := by
  have n1 : nI d + 1 = nI (d + 1) := nI_1 d
  have hp := pas_pin x y W (d := nI d) (nI_pos (by omega)) (by rw [n1]; exact nI_pos (by omega)) (by rw [n1]; intro e; rw [nI_eq (by omega) (by omega)] at e; omega) ts
  have hR : ∀ c, c < 64 → W c = nI d → Dis x y ts a c d := by
    intro c hc e
    rcases h c hc with ⟨e2, h1, h2, h3⟩ | ⟨h1, _⟩
    · rw [e, nI_eq (by omega) (by omega)] at h2
      rw [h2]; exact h3
    · rw [h1] at e
      have := nI_pos (n := d) (by omega)
      rw [← e] at this
      exact absurd (by decide) this
  have hM : (-1 : Int32) < 0 := by decide
  intro c hc
  rcases h c hc with ⟨e, h1, h2, h3⟩ | ⟨h1, h2⟩
  · rcases hp c with ⟨p1, _⟩ | ⟨p1, _⟩
    · exact .inl ⟨e, by omega, p1.trans h2, h3⟩
    · rw [h2] at p1
      exact absurd p1 (nI_pos (by omega))
  · rcases hp c with ⟨p1, p2⟩ | ⟨_, p2, p3⟩
    · refine .inr ⟨p1.trans h1, fun hr => ?_⟩
      have hno := p2 (by rw [h1]; exact hM)
      rcases hr with hr | ⟨f, f1, k, f2, f3⟩
      · exact h2 hr
      · have hb := hx k f2
        have hf6 : f < 64 := Rch.lt ha hx _ _ f1
        have hWf : W f = nI d := by
          rcases h f hf6 with ⟨e, q1, q2, q3⟩ | ⟨_, q2⟩
          · by_cases ee : e = d
            · rw [← ee]; exact q2
            · exact absurd (Rch.mono (show Rch x y ts a (e + 1) c from .inr ⟨f, q3.1, k, f2, f3⟩) d (by omega)) h2
          · exact absurd f1 q2
        refine hno ⟨k, f2, ?_⟩
        rcases f3 with ⟨g1, g2⟩ | ⟨g1, g2⟩
        · exact .inl ⟨g2, by rw [g1]; exact hWf⟩
        · exact .inr ⟨g1, by rw [g2]; exact hWf⟩
    · obtain ⟨k, k1, k2⟩ := p2
      have hb := hx k k1
      refine .inl ⟨d + 1, by omega, p3.trans n1, ?_, fun f hf hq => h2 (Rch.mono hq d (by omega))⟩
      rcases k2 with ⟨g1, g2⟩ | ⟨g1, g2⟩
      · exact .inr ⟨x k, (hR (x k) hb.1 g2).1, k, k1, .inl ⟨rfl, g1⟩⟩
      · exact .inr ⟨y k, (hR (y k) hb.2 g2).1, k, k1, .inr ⟨g1, rfl⟩⟩
theorem out_spec {x y : Nat → Nat} {ts a b : Nat} (hx : ∀ k, k < ts → x k < 64 ∧ y k < 64) (ha : a < 64) (hb : b < 64) : ∀ m W, m ≤ 64 → Stg x y ts a (64 - m) W → (∃ e, e ≤ 64 ∧ outW x y ts b m W b = nI e ∧ Dis x y ts a b e) ∨ (outW x y ts b m W b = -1 ∧ ¬ Rch x y ts a 64 b) := by
  intro m
  induction m with
  | zero => intro W _ h; exact h b hb
  | succ m ih =>
    intro W hm h
    rw [outW]
    by_cases q : W b < 0
    · rw [if_pos q]
      refine ih _ (by omega) ?_
      have := h.step hx ha (by omega)
      rw [show 64 - (m + 1) + 1 = 64 - m by omega] at this
      exact this
    · rw [if_neg q]
      rcases h b hb with ⟨e, h1, h2, h3⟩ | ⟨h1, _⟩
      · exact .inl ⟨e, by omega, h2, h3⟩
      · rw [h1] at q
        exact absurd (by decide) q
theorem out_is {x y : Nat → Nat} {ts a b : Nat} (hx : ∀ k, k < ts → x k < 64 ∧ y k < 64) (ha : a < 64) (hb : b < 64) : (∃ e, e ≤ 64 ∧ outW x y ts b 64 (wy0 a) b = nI e ∧ Dis x y ts a b e) ∨ (outW x y ts b 64 (wy0 a) b = -1 ∧ ¬ Rch x y ts a 64 b) := by
  refine out_spec hx ha hb 64 (wy0 a) (Nat.le_refl _) (fun c hc => ?_)
  simp only [wy0]
  by_cases e : c = a
  · rw [if_pos e]
    exact .inl ⟨0, by omega, rfl, e, fun f hf => by omega⟩
  · rw [if_neg e]
    exact .inr ⟨rfl, e⟩
theorem m2_nI' : ∀ k, k < 65 → ¬ nI k = -2 := by decide +kernel
theorem Dis.uniq {x y : Nat → Nat} {ts a b e f : Nat} (h1 : Dis x y ts a b e) (h2 : Dis x y ts a b f) : e = f := by
  rcases Nat.lt_trichotomy e f with w | w | w
  · exact absurd h1.1 (h2.2 e w)
  · exact w
  · exact absurd h2.1 (h1.2 f w)
/-- far: class and reference -/
theorem far_eq {x y : Nat → Nat} {ts a b nn : Nat} {nb : Nat → Int64} (hnn : nn ≤ 64) (hN : NB x y ts nn nb) (ha : a < nn) (hb : b < nn) (hx : ∀ k, k < ts → x k < nn ∧ y k < nn) : dst nb nn b 65 0 (one a) (one a) = (if outW x y ts b 64 (wy0 a) b < 0 then -2 else outW x y ts b 64 (wy0 a) b) := by
  have h1 := dst_is hnn hN ha (by omega : b < 64) hx 64
  have h2 := out_is (x := x) (y := y) (ts := ts) (a := a) (b := b) (fun k hk => by have := hx k hk; omega) (by omega) (by omega)
  rcases h2 with ⟨e, p1, p2, p3⟩ | ⟨p1, p2⟩
  · rw [p2, if_neg (nI_pos (by omega))]
    rcases h1 with ⟨f, q1, q2, q3⟩ | ⟨q1, q2⟩
    · rw [q3, q2.uniq p3]
    · exact absurd p3.1 (q2 e p1)
  · rw [p1, if_pos (by decide)]
    rcases h1 with ⟨f, q1, q2, q3⟩ | ⟨q1, q2⟩
    · exact absurd (Rch.mono q2.1 64 q1) p2
    · exact q1
/-- the arc is thinned away: class and reference -/
theorem thin_eq {x y : Nat → Nat} {ts a b nn st : Nat} {nb : Nat → Int64} (hnn : nn ≤ 64) (hst : st ≤ 64) (hN : NB x y ts nn nb) (ha : a < nn) (hb : b < nn) (hx : ∀ k, k < ts → x k < nn ∧ y k < nn) : dst nb nn (max a b) (st + 1) 0 (one (min a b)) (one (min a b)) = -2 ↔ (outW x y ts b 64 (wy0 a) b < 0 ∨ nI st < outW x y ts b 64 (wy0 a) b) := by
  have h1 := dst_is hnn hN (show min a b < nn by omega) (show max a b < 64 by omega) hx st
  have h2 := out_is (x := x) (y := y) (ts := ts) (a := a) (b := b) (fun k hk => by have := hx k hk; omega) (by omega) (by omega)
  have hs : ∀ e, Rch x y ts (min a b) e (max a b) ↔ Rch x y ts a e b := fun e => by
    rcases Nat.le_total a b with w | w
    · rw [Nat.min_eq_left w, Nat.max_eq_right w]
    · rw [Nat.min_eq_right w, Nat.max_eq_left w]
      exact ⟨Rch.sym e _, Rch.sym e _⟩
  rcases h2 with ⟨e, p1, p2, p3⟩ | ⟨p1, p2⟩
  · rw [p2, nI_ltI (by omega) (by omega)]
    have hn := nI_pos (n := e) (by omega)
    rcases h1 with ⟨f, q1, q2, q3⟩ | ⟨q1, q2⟩
    · rw [q3]
      constructor
      · intro q; exact absurd q (m2_nI' f (by omega))
      · rintro (q | q)
        · exact absurd q hn
        · have : Rch x y ts a f b := (hs f).mp q2.1
          exact absurd this (p3.2 f (by omega))
    · rw [q1]
      refine ⟨fun _ => .inr ?_, fun _ => rfl⟩
      rcases Nat.lt_or_ge st e with w | w
      · exact w
      · exact absurd ((hs e).mpr p3.1) (q2 e w)
  · rw [p1]
    refine ⟨fun _ => .inl (by decide), fun _ => ?_⟩
    rcases h1 with ⟨f, q1, q2, q3⟩ | ⟨q1, q2⟩
    · exact absurd (Rch.mono ((hs f).mp q2.1) 64 (by omega)) p2
    · exact q1
