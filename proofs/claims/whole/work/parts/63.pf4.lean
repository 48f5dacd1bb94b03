/-! pure: the class's forest after one more arc -/
theorem least (P : Nat → Prop) : ∀ g, P g → ∃ n, n ≤ g ∧ P n ∧ ∀ m, m < n → ¬ P m := by
  intro g
  induction g using Nat.strongRecOn with
  | _ g ih =>
    intro h
    by_cases e : ∃ m, m < g ∧ P m
    · obtain ⟨m, h1, h2⟩ := e
      obtain ⟨n, a, b, c⟩ := ih m h1 h2
      exact ⟨n, by omega, b, c⟩
    · exact ⟨g, Nat.le_refl g, h, fun m hm hp => e ⟨m, hm, hp⟩⟩
theorem FRadd {u v : Nat → Nat} {g fn : Nat} {ft fk : Nat → Int32} {fu fv : Nat → Nat} (hF : FR u v g fn ft fk) (h : ∀ i, i < g → jnd u v g i = true → fu (fn - 1 - cj u v g i) = u (g - 1 - i) ∧ fv (fn - 1 - cj u v g i) = v (g - 1 - i)) {x y : Nat} (hxy : x ≠ y) :
    FR (un u g x) (un v g y) (g + 1) (facN fn (obt fu fv fn x y fn)) (facF ft fn (obt fu fv fn x y fn) (nI g + 1)) (facF fk fn (obt fu fv fn x y fn) (nI (64 * x + y))) := by
  obtain ⟨h1, h2⟩ := hF
  have hu : un u g x (g + 1 - 1 - 0) = x := by simp [un]
  have hv : un v g y (g + 1 - 1 - 0) = y := by simp [un]
  have z0 : cj (un u g x) (un v g y) (g + 1) 0 = 0 := rfl
  have ob1 : ∀ i, i < g → un u g x (g + 1 - 1 - (i + 1)) = u (g - 1 - i) := fun i hi => un_old hi
  have ob2 : ∀ i, i < g → un v g y (g + 1 - 1 - (i + 1)) = v (g - 1 - i) := fun i hi => un_old hi
  have jt : ∀ i, i < g → cj u v g (i + 1) = cj u v g i + 1 → jnd u v g i = true := fun i _ e => by
    cases hj : jnd u v g i with
    | true => rfl
    | false => rw [cj_f hj] at e; omega
  by_cases hc : lab u v g g x = lab u v g g y
  · obtain ⟨n, n1, n2, n3⟩ := least (fun m => lab u v g m x = lab u v g m y) g hc
    obtain ⟨n0, e, q1, q2, q3⟩ := obt_cj h1 h n1 n2 n3 hxy
    subst e
    rw [q3]
    have hfn := ((lab_new (u := u) (v := v) (g := g) hxy g (Nat.le_refl g)).2 hc).2
    refine ⟨by rw [hfn, ← h1]; rfl, fun i hi hj => ?_⟩
    have ef : facN fn (some (fn - 1 - cj u v g n0)) = fn := rfl
    rw [ef]
    simp only [facF]
    cases i with
    | zero =>
      rw [z0, if_pos (by omega), if_pos (by omega), hu, hv]
      exact ⟨by rw [nI_1]; rfl, rfl⟩
    | succ i =>
      have hi2 : i < g := by omega
      have k1 := lab_new (u := u) (v := v) (g := g) hxy i (by omega)
      have k2 := lab_new (u := u) (v := v) (g := g) hxy (i + 1) (by omega)
      rw [cj_t hj] at k2
      rw [ob1 i hi2, ob2 i hi2]
      rcases Nat.lt_trichotomy i n0 with w | w | w
      · have c1 := (k1.1 (n3 i (by omega))).2
        have c2 := (k2.1 (n3 (i + 1) (by omega))).2
        have hji := jt i hi2 (by omega)
        have r := h2 i hi2 hji
        have m1 := cj_mono u v g (i := i + 1) n0 w
        rw [cj_t hji] at m1
        rw [c1, if_neg (by omega), if_neg (by omega)]
        simp only [drpF]
        rw [if_pos (by omega), if_pos (by omega), show fn - 1 - (cj u v g i + 1) + 1 = fn - 1 - cj u v g i by omega, show g + 1 - (i + 1) = g - i by omega]
        exact r
      · subst w
        have c1 := (k1.1 (n3 i (by omega))).2
        have c2 := (k2.2 n2).2
        rw [cj_t q1] at c2
        omega
      · have d1 : lab u v g i x = lab u v g i y := lb_mono n2 _ w
        have d2 : lab u v g (i + 1) x = lab u v g (i + 1) y := lb_mono n2 _ (by omega)
        have c1 := (k1.2 d1).2
        have c2 := (k2.2 d2).2
        have hji := jt i hi2 (by omega)
        have r := h2 i hi2 hji
        have m1 := cj_mono u v g (i := n0 + 1) i w
        have m2 := cj_pos (j := g) hji hi2
        rw [cj_t q1] at m1
        rw [c1, if_neg (by omega), if_neg (by omega)]
        simp only [drpF]
        rw [if_neg (by omega), if_neg (by omega), show g + 1 - (i + 1) = g - i by omega]
        exact r
  · rw [obt_nn h1 h hc]
    have hfn := ((lab_new (u := u) (v := v) (g := g) hxy g (Nat.le_refl g)).1 hc).2
    refine ⟨by rw [hfn, ← h1]; rfl, fun i hi hj => ?_⟩
    have ef : facN fn none = fn + 1 := rfl
    rw [ef]
    simp only [facF]
    cases i with
    | zero =>
      rw [z0, if_pos (by omega), if_pos (by omega), hu, hv]
      exact ⟨by rw [nI_1]; rfl, rfl⟩
    | succ i =>
      have hi2 : i < g := by omega
      have k1 := lab_new (u := u) (v := v) (g := g) hxy i (by omega)
      have k2 := lab_new (u := u) (v := v) (g := g) hxy (i + 1) (by omega)
      rw [cj_t hj] at k2
      rw [ob1 i hi2, ob2 i hi2]
      have c1 := (k1.1 (fun e => hc (lb_mono e _ (by omega)))).2
      have c2 := (k2.1 (fun e => hc (lb_mono e _ (by omega)))).2
      have hji := jt i hi2 (by omega)
      have r := h2 i hi2 hji
      have m2 := cj_pos (j := g) hji hi2
      rw [c1, if_neg (by omega), if_neg (by omega), show fn + 1 - 1 - (cj u v g i + 1) = fn - 1 - cj u v g i by omega, show g + 1 - (i + 1) = g - i by omega]
      exact r
