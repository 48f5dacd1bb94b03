/-! pure: bits; ways -/
theorem bt_or (a b : Int64) (n : Nat) : bt (a ||| b) n = (bt a n || bt b n) := by simp only [bt, Int64.toBitVec_or, BitVec.getLsbD_or]
theorem bt_and (a b : Int64) (n : Nat) : bt (a &&& b) n = (bt a n && bt b n) := by simp only [bt, Int64.toBitVec_and, BitVec.getLsbD_and]
theorem bt_m1 : ∀ n, n < 64 → bt (-1) n = true := by decide +kernel
theorem bt_xor (a b : Int64) (n : Nat) : bt (a ^^^ b) n = (bt a n ^^ bt b n) := by simp only [bt, Int64.toBitVec_xor, BitVec.getLsbD_xor]
theorem bt_not (a : Int64) {n : Nat} (h : n < 64) : bt (a ^^^ (-1)) n = !bt a n := by rw [bt_xor, bt_m1 n h]; simp
theorem bt_0 (n : Nat) : bt 0 n = false := by simp [bt]
theorem bt_one : ∀ k, k < 64 → ∀ n, n < 64 → bt (one k) n = decide (n = k) := by decide +kernel
theorem bt_ext {z : Int64} (h : ∀ n, n < 64 → bt z n = false) : z = 0 := by
  apply Int64.toBitVec_inj.mp
  apply BitVec.eq_of_getLsbD_eq
  intro i hi
  have := h i hi
  simp only [bt] at this
  rw [this]
  simp
def Adj (x y : Nat → Nat) (ts b c : Nat) : Prop := ∃ k, k < ts ∧ ((x k = b ∧ y k = c) ∨ (x k = c ∧ y k = b))
theorem Adj.sym {x y : Nat → Nat} {ts b c : Nat} (h : Adj x y ts b c) : Adj x y ts c b := by
  obtain ⟨k, h1, h2⟩ := h
  exact ⟨k, h1, h2.symm⟩
def Rch (x y : Nat → Nat) (ts a : Nat) : Nat → Nat → Prop
  | 0, c => c = a
  | d + 1, c => Rch x y ts a d c ∨ ∃ e, Rch x y ts a d e ∧ Adj x y ts e c
theorem Rch.mono {x y : Nat → Nat} {ts a c d : Nat} (h : Rch x y ts a d c) : ∀ e, d ≤ e → Rch x y ts a e c := by
  intro e he
  induction e with
  | zero => rw [show d = 0 by omega] at h; exact h
  | succ e ih =>
    by_cases q : d = e + 1
    · rw [← q]; exact h
    · exact .inl (ih (by omega))
theorem Rch.front {x y : Nat → Nat} {ts a e : Nat} (h : Adj x y ts a e) : ∀ d c, Rch x y ts e d c → Rch x y ts a (d + 1) c
  | 0, c, hc => .inr ⟨a, rfl, by rw [show c = e from hc]; exact h⟩
  | d + 1, c, hc => by
    rcases hc with hc | ⟨f, h1, h2⟩
    · exact .inl (Rch.front h d c hc)
    · exact .inr ⟨f, Rch.front h d f h1, h2⟩
theorem Rch.sym {x y : Nat → Nat} {ts a : Nat} : ∀ d c, Rch x y ts a d c → Rch x y ts c d a
  | 0, c, h => Eq.symm h
  | d + 1, c, h => by
    rcases h with h | ⟨e, h1, h2⟩
    · exact .inl (Rch.sym d c h)
    · exact Rch.front h2.sym d a (Rch.sym d e h1)
theorem Rch.lt {x y : Nat → Nat} {ts a nn : Nat} (ha : a < nn) (hb : ∀ k, k < ts → x k < nn ∧ y k < nn) : ∀ d c, Rch x y ts a d c → c < nn
  | 0, c, h => by rw [show c = a from h]; exact ha
  | d + 1, c, h => by
    rcases h with h | ⟨e, h1, k, h2, h3⟩
    · exact Rch.lt ha hb d c h
    · have := hb k h2
      omega
theorem Rch.stop {x y : Nat → Nat} {ts a d : Nat} (h : ∀ c, Rch x y ts a (d + 1) c → Rch x y ts a d c) : ∀ e c, Rch x y ts a e c → Rch x y ts a d c
  | 0, c, hc => Rch.mono hc d (Nat.zero_le d)
  | e + 1, c, hc => by
    rcases hc with hc | ⟨f, h1, h2⟩
    · exact Rch.stop h e c hc
    · exact h c (.inr ⟨f, Rch.stop h e f h1, h2⟩)
/-- the way's length is e -/
def Dis (x y : Nat → Nat) (ts a b e : Nat) : Prop := Rch x y ts a e b ∧ ∀ f, f < e → ¬ Rch x y ts a f b
theorem nbF_bt (nb : Nat → Int64) (set : Int64) (e : Nat) : ∀ k, bt (nbF nb set k) e = true ↔ ∃ c, c < k ∧ bt set c = true ∧ bt (nb c) e = true
  | 0 => by simp [nbF, bt_0]
  | k + 1 => by
    have ih := nbF_bt nb set e k
    rw [nbF]
    cases hs : bt set k with
    | false =>
      simp only [cond_false]
      rw [ih]
      constructor
      · rintro ⟨c, h1, h2⟩; exact ⟨c, by omega, h2⟩
      · rintro ⟨c, h1, h2, h3⟩
        by_cases q : c = k
        · rw [q, hs] at h2; exact absurd h2 (by decide)
        · exact ⟨c, by omega, h2, h3⟩
    | true =>
      simp only [cond_true]
      rw [bt_or, Bool.or_eq_true, ih]
      constructor
      · rintro (⟨c, h1, h2⟩ | h)
        · exact ⟨c, by omega, h2⟩
        · exact ⟨k, by omega, hs, h⟩
      · rintro ⟨c, h1, h2, h3⟩
        by_cases q : c = k
        · rw [q] at h3; exact .inr h3
        · exact .inl ⟨c, by omega, h2, h3⟩
def NB (x y : Nat → Nat) (ts nn : Nat) (nb : Nat → Int64) : Prop := ∀ c, c < nn → ∀ e, e < 64 → (bt (nb c) e = true ↔ Adj x y ts c e)
theorem dst_spec {x y : Nat → Nat} {ts a b nn : Nat} {nb : Nat → Int64} (hnn : nn ≤ 64) (hN : NB x y ts nn nb) (ha : a < nn) (hb : b < 64) (hx : ∀ k, k < ts → x k < nn ∧ y k < nn) : ∀ r d Re Ed, (∀ c, c < 64 → (bt Re c = true ↔ Rch x y ts a d c)) → (∀ c, c < 64 → (bt Ed c = true ↔ Dis x y ts a c d)) → (∀ f, f < d → ¬ Rch x y ts a f b) →
    (∃ e, e < d + r ∧ Dis x y ts a b e ∧ dst nb nn b r d Re Ed = nI e) ∨ (dst nb nn b r d Re Ed = -2 ∧ ∀ e, e < d + r → ¬ Rch x y ts a e b) := by
  intro r
  induction r with
  | zero => intro d Re Ed _ _ h; exact .inr ⟨rfl, fun e he => h e (by omega)⟩
  | succ r ih =>
    intro d Re Ed hRe hEd hf
    rw [dst]
    by_cases h0 : Ed = 0
    · rw [if_pos h0]
      refine .inr ⟨rfl, fun e _ hr => ?_⟩
      cases d with
      | zero =>
        have := (hEd a (by omega)).mpr ⟨rfl, fun f hf => by omega⟩
        rw [h0, bt_0] at this
        exact absurd this (by decide)
      | succ d =>
        refine hf d (by omega) (Rch.stop (d := d) (fun c hc => ?_) e b hr)
        have hc6 : c < 64 := by have := Rch.lt ha hx _ _ hc; omega
        have : ¬ Dis x y ts a c (d + 1) := fun h => by
          have := (hEd c hc6).mpr h
          rw [h0, bt_0] at this
          exact absurd this (by decide)
        rcases Classical.em (Rch x y ts a d c) with q | q
        · exact q
        · exact absurd ⟨hc, fun f hf hq => q (Rch.mono hq d (by omega))⟩ this
    · rw [if_neg h0]
      cases hB : bt Ed b with
      | true =>
        simp only [cond_true]
        exact .inl ⟨d, by omega, (hEd b hb).mp hB, rfl⟩
      | false =>
        simp only [cond_false]
        have hnb : ¬ Rch x y ts a d b := fun h => by
          have := (hEd b hb).mpr ⟨h, hf⟩
          rw [hB] at this
          exact absurd this (by decide)
        have hE : ∀ c, c < 64 → (bt (nbF nb Ed nn &&& (Re ^^^ (-1))) c = true ↔ Dis x y ts a c (d + 1)) := by
          intro c hc
          rw [bt_and, bt_not Re hc, Bool.and_eq_true, nbF_bt]
          constructor
          · rintro ⟨⟨e, h1, h2, h3⟩, h4⟩
            have hnr : ¬ Rch x y ts a d c := fun h => by
              rw [(hRe c hc).mpr h] at h4
              exact absurd h4 (by decide)
            exact ⟨.inr ⟨e, ((hEd e (by omega)).mp h2).1, (hN e h1 c hc).mp h3⟩, fun f hf hq => hnr (Rch.mono hq d (by omega))⟩
          · rintro ⟨h1, h2⟩
            have hnr := h2 d (by omega)
            refine ⟨?_, ?_⟩
            · rcases h1 with h1 | ⟨e, h3, h4⟩
              · exact absurd h1 hnr
              · have he := Rch.lt ha hx _ _ h3
                refine ⟨e, he, (hEd e (by omega)).mpr ⟨h3, fun f hf hq => ?_⟩, (hN e he c hc).mpr h4⟩
                exact h2 (f + 1) (by omega) (.inr ⟨e, hq, h4⟩)
            · cases hR : bt Re c with
              | false => rfl
              | true => exact absurd ((hRe c hc).mp hR) hnr
        have hR : ∀ c, c < 64 → (bt (Re ||| (nbF nb Ed nn &&& (Re ^^^ (-1)))) c = true ↔ Rch x y ts a (d + 1) c) := by
          intro c hc
          rw [bt_or, Bool.or_eq_true, hE c hc, hRe c hc]
          constructor
          · rintro (h | h)
            · exact .inl h
            · exact h.1
          · intro h
            rcases Classical.em (Rch x y ts a d c) with q | q
            · exact .inl q
            · exact .inr ⟨h, fun f hf hq => q (Rch.mono hq d (by omega))⟩
        have := ih (d + 1) _ _ hR hE (fun f hf hq => hnb (Rch.mono hq d (by omega)))
        rw [show d + (r + 1) = d + 1 + r by omega]
        exact this
theorem dst_is {x y : Nat → Nat} {ts a b nn : Nat} {nb : Nat → Int64} (hnn : nn ≤ 64) (hN : NB x y ts nn nb) (ha : a < nn) (hb : b < 64) (hx : ∀ k, k < ts → x k < nn ∧ y k < nn) (mo : Nat) : (∃ e, e ≤ mo ∧ Dis x y ts a b e ∧ dst nb nn b (mo + 1) 0 (one a) (one a) = nI e) ∨ (dst nb nn b (mo + 1) 0 (one a) (one a) = -2 ∧ ∀ e, e ≤ mo → ¬ Rch x y ts a e b) := by
  have h1 : ∀ c, c < 64 → (bt (one a) c = true ↔ Rch x y ts a 0 c) := fun c hc => by
    rw [bt_one a (by omega) c hc, decide_eq_true_iff]; exact Iff.rfl
  have := dst_spec hnn hN ha hb hx (mo + 1) 0 (one a) (one a) h1 (fun c hc => by
    rw [h1 c hc]
    exact ⟨fun h => ⟨h, fun f hf => by omega⟩, fun h => h.1⟩) (fun f hf => by omega)
  rcases this with ⟨e, q1, q2, q3⟩ | ⟨q1, q2⟩
  · exact .inl ⟨e, by omega, q2, q3⟩
  · exact .inr ⟨q1, fun e he => q2 e (by omega)⟩
