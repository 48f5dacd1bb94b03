/-! pure: what the forest answers -/
theorem cj_pos {u v : Nat → Nat} {g i j : Nat} (h : jnd u v g i = true) (hij : i < j) : cj u v g i + 1 ≤ cj u v g j := by
  have := cj_mono u v g (i := i + 1) j hij
  rw [cj_t h] at this
  exact this
theorem cj_inj {u v : Nat → Nat} {g i j : Nat} (hi : jnd u v g i = true) (hj : jnd u v g j = true) (h : cj u v g i = cj u v g j) : i = j := by
  rcases Nat.lt_trichotomy i j with w | w | w
  · have := cj_pos hi w; omega
  · exact w
  · have := cj_pos hj w; omega
theorem FRlab {u v : Nat → Nat} {g fn : Nat} {fu fv : Nat → Nat} (h : ∀ i, i < g → jnd u v g i = true → fu (fn - 1 - cj u v g i) = u (g - 1 - i) ∧ fv (fn - 1 - cj u v g i) = v (g - 1 - i)) : ∀ i, i ≤ g → lab fu fv fn (cj u v g i) = lab u v g i
  | 0, _ => rfl
  | i + 1, hi => by
    have ih := FRlab h i (by omega)
    cases hj : jnd u v g i with
    | false => rw [cj_f hj, jnd_f hj, ih]
    | true =>
      obtain ⟨e1, e2⟩ := h i (by omega) hj
      rw [cj_t hj, lab_succ, lab_succ, ih, e1, e2]
theorem nI_subI {a b : Nat} (ha : a < 2 ^ 30) {n : Int32} (hn : ¬ n < 0) (hb : b < 2 ^ 30) : nI b ≤ nI a - n ↔ b + n.toNatClampNeg ≤ a := by
  obtain ⟨m, hm, e⟩ := nI_of hn
  subst e
  rw [cl_nI hm, Int32.le_iff_toInt_le, Int32.toInt_sub, nI_toInt (by omega), nI_toInt (by omega), nI_toInt hm]
  rw [show ((a : Int) - (m : Int)).bmod (2 ^ 32) = (a : Int) - m by
    apply Int.bmod_eq_of_le <;> omega]
  omega
theorem afr_cj {u v : Nat → Nat} {g fn : Nat} {ft fk : Nat → Int32} (h : FR u v g fn ft fk) (hg : g < 2 ^ 30) {n : Int32} (hn : ¬ n < 0) : afr ft (nI g - n) fn = cj u v g (min n.toNatClampNeg g) := by
  obtain ⟨h1, h2⟩ := h
  have hm : ∀ i, i ≤ g → cj u v g i ≤ fn := fun i hi => by rw [h1]; exact cj_mono u v g g hi
  have key : ∀ d i, i + d = min n.toNatClampNeg g → afr ft (nI g - n) (fn - cj u v g i) + cj u v g i = cj u v g (min n.toNatClampNeg g) := by
    intro d
    induction d with
    | zero =>
      intro i hi
      rw [show i = min n.toNatClampNeg g by omega]
      suffices afr ft (nI g - n) (fn - cj u v g (min n.toNatClampNeg g)) = 0 by omega
      generalize hM : min n.toNatClampNeg g = M at *
      by_cases e : fn - cj u v g M = 0
      · rw [e]; rfl
      · obtain ⟨i2, q1, q2, q3⟩ := cj_surj u v g g (cj u v g M) (by rw [← h1]; omega)
        obtain ⟨r, hr⟩ : ∃ r, fn - cj u v g M = r + 1 := ⟨fn - cj u v g M - 1, by omega⟩
        rw [hr, afr]
        have hM2 : M ≤ i2 := by
          rcases Nat.lt_or_ge i2 M with w | w
          · have := cj_pos q2 w; omega
          · exact w
        rw [if_pos]
        have e2 := (h2 i2 q1 q2).1
        rw [show fn - 1 - cj u v g i2 = r by omega] at e2
        rw [e2, nI_subI hg hn (by omega)]
        omega
    | succ d ih =>
      intro i hi
      have ih := ih (i + 1) (by omega)
      cases hj : jnd u v g i with
      | false => rw [cj_f hj] at ih; exact ih
      | true =>
        have e2 := (h2 i (by omega) hj).1
        rw [cj_t hj] at ih
        have hle := hm (i + 1) (by omega)
        rw [cj_t hj] at hle
        obtain ⟨r, hr⟩ : ∃ r, fn - cj u v g i = r + 1 := ⟨fn - cj u v g i - 1, by omega⟩
        rw [hr, afr]
        rw [show fn - 1 - cj u v g i = r by omega] at e2
        rw [if_neg]
        · rw [show fn - (cj u v g i + 1) = r by omega] at ih; omega
        · rw [e2, nI_subI hg hn (by omega)]
          omega
  have := key (min n.toNatClampNeg g) 0 (by omega)
  simpa [cj] using this
theorem trF_some {u v : Nat → Nat} {g fn : Nat} (h1 : fn = cj u v g g) (p : Nat) : ∀ m, m ≤ g → ∀ i, i < m → jnd u v g i = true → fn - 1 - cj u v g i = p → trF (fun t => jnd u v g (g - 1 - t)) g p m (fn - cj u v g m) = some (g - 1 - i)
  | 0, _, i, hi, _, _ => by omega
  | m + 1, hm, i, hi, hj, hp => by
    have hle : cj u v g (m + 1) ≤ fn := by rw [h1]; exact cj_mono u v g g hm
    rw [trF]
    simp only [show g - 1 - (g - (m + 1)) = m by omega]
    cases hjm : jnd u v g m with
    | false =>
      rw [cj_f hjm]
      have : i < m := by
        rcases Nat.lt_or_ge i m with w | w
        · exact w
        · rw [show i = m by omega] at hj; rw [hj] at hjm; exact absurd hjm (by decide)
      exact trF_some h1 p m (by omega) i this hj hp
    | true =>
      rw [cj_t hjm] at hle ⊢
      simp only [cond_true]
      by_cases e : i = m
      · subst e
        rw [if_pos (by omega)]
        congr 1
        omega
      · have := cj_pos hj (show i < m by omega)
        rw [if_neg (by omega), show fn - (cj u v g m + 1) + 1 = fn - cj u v g m by omega]
        exact trF_some h1 p m (by omega) i (by omega) hj hp
theorem trF_none {u v : Nat → Nat} {g fn : Nat} (h1 : fn = cj u v g g) {p : Nat} (hp : fn ≤ p) : ∀ m, m ≤ g → trF (fun t => jnd u v g (g - 1 - t)) g p m (fn - cj u v g m) = none
  | 0, _ => rfl
  | m + 1, hm => by
    have hle : cj u v g (m + 1) ≤ fn := by rw [h1]; exact cj_mono u v g g hm
    have ih := trF_none h1 hp m (by omega)
    rw [trF]
    simp only [show g - 1 - (g - (m + 1)) = m by omega]
    cases hjm : jnd u v g m with
    | false => rw [cj_f hjm]; exact ih
    | true =>
      rw [cj_t hjm] at hle ⊢
      simp only [cond_true]
      rw [if_neg (by omega), show fn - (cj u v g m + 1) + 1 = fn - cj u v g m by omega]
      exact ih
theorem obt_some {fu fv : Nat → Nat} {n a b k : Nat} (hk : k ≤ n) (he : lab fu fv n k a = lab fu fv n k b) : ∀ r, r ≤ n → n - r < k → (∀ j, n - r < j → j < k → ¬ lab fu fv n j a = lab fu fv n j b) → obt fu fv n a b r = some (n - k)
  | 0, _, h, _ => by omega
  | r + 1, hr, h, hm => by
    rw [obt]
    by_cases e : k = n - r
    · rw [if_pos (by rw [← e]; exact he)]
      congr 1
      omega
    · rw [if_neg (hm (n - r) (by omega) (by omega))]
      exact obt_some hk he r (by omega) (by omega) (fun j h1 h2 => hm j (by omega) h2)
theorem obt_none {fu fv : Nat → Nat} {n a b : Nat} : ∀ r, r ≤ n → (∀ j, n - r < j → j ≤ n → ¬ lab fu fv n j a = lab fu fv n j b) → obt fu fv n a b r = none
  | 0, _, _ => rfl
  | r + 1, hr, hm => by
    rw [obt, if_neg (hm (n - r) (by omega) (by omega))]
    exact obt_none r (by omega) (fun j h1 h2 => hm j (by omega) h2)
theorem lb_mono {u v : Nat → Nat} {g a b n : Nat} (h : lab u v g n a = lab u v g n b) : ∀ m, n ≤ m → lab u v g m a = lab u v g m b := by
  intro m hm
  induction m with
  | zero => rw [show n = 0 by omega] at h; exact h
  | succ m ih =>
    by_cases e : n = m + 1
    · rw [← e]; exact h
    · have := ih (by omega)
      rw [lab_succ, unN_mrg, unN_mrg, this]
/-- the arc that joined the two -/
theorem obt_cj {u v : Nat → Nat} {g fn : Nat} {fu fv : Nat → Nat} (h1 : fn = cj u v g g) (h : ∀ i, i < g → jnd u v g i = true → fu (fn - 1 - cj u v g i) = u (g - 1 - i) ∧ fv (fn - 1 - cj u v g i) = v (g - 1 - i)) {a b n : Nat} (hn : n ≤ g) (hc : lab u v g n a = lab u v g n b) (hm : ∀ m, m < n → ¬ lab u v g m a = lab u v g m b) (hab : a ≠ b) : ∃ n0, n = n0 + 1 ∧ jnd u v g n0 = true ∧ cj u v g n0 + 1 ≤ fn ∧ obt fu fv fn a b fn = some (fn - 1 - cj u v g n0) := by
  have h0 : n ≠ 0 := fun e => by subst e; exact hab hc
  obtain ⟨n0, e⟩ : ∃ n0, n = n0 + 1 := ⟨n - 1, by omega⟩
  subst e
  have hj : jnd u v g n0 = true := by
    cases hj : jnd u v g n0 with
    | true => rfl
    | false => rw [jnd_f hj] at hc; exact absurd hc (hm n0 (by omega))
  have hle := cj_pos (j := g) hj (by omega)
  rw [← h1] at hle
  have l1 := FRlab h (n0 + 1) hn
  have l0 := FRlab h n0 (by omega)
  rw [cj_t hj] at l1
  refine ⟨n0, rfl, hj, hle, ?_⟩
  rw [obt_some (k := cj u v g n0 + 1) hle (by rw [l1]; exact hc) fn (Nat.le_refl _) (by omega) (fun j _ h2 hh => hm n0 (by omega) (by rw [← l0]; exact lb_mono hh _ (by omega)))]
  congr 1
  omega
theorem obt_nn {u v : Nat → Nat} {g fn : Nat} {fu fv : Nat → Nat} (h1 : fn = cj u v g g) (h : ∀ i, i < g → jnd u v g i = true → fu (fn - 1 - cj u v g i) = u (g - 1 - i) ∧ fv (fn - 1 - cj u v g i) = v (g - 1 - i)) {a b : Nat} (hc : ¬ lab u v g g a = lab u v g g b) : obt fu fv fn a b fn = none := by
  refine obt_none fn (Nat.le_refl _) (fun j _ h2 hh => hc ?_)
  rw [← FRlab h g (Nat.le_refl _), ← h1]
  exact lb_mono hh _ h2
