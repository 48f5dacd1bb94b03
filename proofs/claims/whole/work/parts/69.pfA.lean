/-! answers: since, out, same -/
theorem osum_congr {S T : Nat → Int64} (h : ∀ j, j < 1920 → S j = T j) (set : Int64) {o : Nat} (ho : o < 30) : ∀ k, k ≤ 64 → osum S set o k = osum T set o k
  | 0, _ => rfl
  | k + 1, hk => by rw [osum, osum, osum_congr h set ho k (by omega), h (30 * k + o) (by omega)]
theorem oK_congr {S T : Nat → Int64} (h : ∀ j, j < 1920 → S j = T j) (set : Int64) {lv nn : Nat} (hl : lv < 10) (hn : nn ≤ 64) : oK S set lv nn = oK T set lv nn := by
  simp only [oK]
  rw [osum_congr h set (show 3 * lv < 30 by omega) nn hn, osum_congr h set (show 3 * lv + 1 < 30 by omega) nn hn, osum_congr h set (show 3 * lv + 2 < 30 by omega) nn hn]
theorem oS_congr {S T : Nat → Int64} (h : ∀ j, j < 1920 → S j = T j) (set : Int64) {nn : Nat} (hn : nn ≤ 64) : ∀ m, m ≤ 10 → oS S set nn m = oS T set nn m
  | 0, _ => rfl
  | m + 1, hm => by
    have ih := oS_congr h set hn m (by omega)
    simp only [oS]
    rw [oK_congr h set (by omega) hn, ih]
theorem oA_congr {S T : Nat → Int64} (h : ∀ j, j < 1920 → S j = T j) (set : Int64) {nn : Nat} (hn : nn ≤ 64) (o : Option (Nat × Nat)) : oA S set nn o = oA T set nn o := by
  cases o with
  | some q => rfl
  | none =>
    simp only [oA, notB]
    rw [osum_congr h set (show 0 < 30 by omega) nn hn, osum_congr h set (show 1 < 30 by omega) nn hn, osum_congr h set (show 2 < 30 by omega) nn hn]
theorem alkB_iff (S T : Nat → Int64) : ∀ n, alkB S T n = true ↔ ∀ j, j < n → S j = T j
  | 0 => ⟨fun _ j hj => by omega, fun _ => rfl⟩
  | n + 1 => by
    rw [alkB, Bool.and_eq_true, alkB_iff S T n, decide_eq_true_iff]
    constructor
    · rintro ⟨h1, h2⟩ j hj
      by_cases e : j = n
      · rw [e]; exact h2
      · exact h1 j (by omega)
    · intro h
      exact ⟨fun j hj => h j (by omega), h n (by omega)⟩
section
variable {N i : Nat} {P : SP} {g : Nat} {u v p : Nat → Nat} {R : RS}
theorem an_out (h : RX N i P g u v p R) (hi : i < 3) {s : Int32} {set : Int64} (hs : okS s = true → s = nI i) : (bif okS s then oA (sS P) set (sNn P) (oS (sS P) set (sNn P) 10) else -1) = (bif okS s then oA (fun j => R.sm (1920 * s.toNatClampNeg + j)) set (sNn P) (oS (fun j => R.sm (1920 * s.toNatClampNeg + j)) set (sNn P) 10) else -1) := by
  cases e : okS s with
  | false => simp
  | true =>
    simp only [cond_true]
    rw [hs e, cl_nI (by omega), ← oS_congr h.sm set h.nd.2.1 10 (Nat.le_refl _), oA_congr h.sm set h.nd.2.1]
theorem an_outL (h : RX N i P g u v p R) (hi : i < 3) {s lev : Int32} {set : Int64} (hs : okS s = true → s = nI i) : (bif okS s then oL (oS (sS P) set (sNn P) 10) else lev) = (bif okS s then oL (oS (fun j => R.sm (1920 * s.toNatClampNeg + j)) set (sNn P) 10) else lev) := by
  cases e : okS s with
  | false => simp
  | true =>
    simp only [cond_true]
    rw [hs e, cl_nI (by omega), ← oS_congr h.sm set h.nd.2.1 10 (Nat.le_refl _)]
theorem an_since (h : RX N i P g u v p R) (hN : N ≤ 4000) (hi : i < 3) {fu fv : Nat → Nat} (hf : ∀ j, j < g → jnd u v g j = true → fu (sFn P - 1 - cj u v g j) = u (g - 1 - j) ∧ fv (sFn P - 1 - cj u v g j) = v (g - 1 - j)) {s a b r : Int32} (hs : okS s = true → s = nI i)
    (hq : ((okN R.nd s a && okN R.nd s b) = false ∧ r = -1) ∨ ((okN R.nd s a && okN R.nd s b) = true ∧ ¬ cnn u v g a.toNatClampNeg b.toNatClampNeg g ∧ r = -2) ∨ ((okN R.nd s a && okN R.nd s b) = true ∧ cnn u v g a.toNatClampNeg b.toNatClampNeg g ∧ ∃ n : Nat, n ≤ g ∧ r = nI n ∧ cnn u v g a.toNatClampNeg b.toNatClampNeg n ∧ ∀ m, m < n → ¬ cnn u v g a.toNatClampNeg b.toNatClampNeg m)) :
    (bif okN (fun _ => nI (sNn P)) s a && okN (fun _ => nI (sNn P)) s b then sinceC P fu fv a b else -1) = r := by
  rw [okN_c (h.cnd hi hs), okN_c (h.cnd hi hs)]
  have h1 := h.fr.1
  rcases hq with ⟨q1, q2⟩ | ⟨q1, q2, q3⟩ | ⟨q1, q2, n, n1, n2, n3, n4⟩
  · rw [q1, q2]; rfl
  · rw [q1, q3]
    simp only [cond_true, sinceC]
    have hab : ¬ a = b := fun e => q2 (by rw [e]; rfl)
    rw [if_neg hab, obt_nn h1 hf q2]
  · rw [q1, n2]
    simp only [cond_true, sinceC]
    by_cases hab : a = b
    · rw [if_pos hab]
      cases n with
      | zero => rfl
      | succ n => exact absurd (by rw [hab]; rfl : cnn u v g a.toNatClampNeg b.toNatClampNeg 0) (n4 0 (by omega))
    · rw [if_neg hab]
      rw [← okN_c (h.cnd hi hs), ← okN_c (h.cnd hi hs), Bool.and_eq_true] at q1
      obtain ⟨_, x, x1, ex⟩ := okN_k h.nd.2.1 q1.1
      obtain ⟨_, y, y1, ey⟩ := okN_k h.nd.2.1 q1.2
      have hn := h.nd
      have hne : a.toNatClampNeg ≠ b.toNatClampNeg := fun e => hab (by
        rw [ex, ey, cl_nI (by omega), cl_nI (by omega)] at e
        rw [ex, ey, e])
      obtain ⟨n0, e, m1, m2, m3⟩ := obt_cj h1 hf n1 n3 n4 hne
      subst e
      have hg := h.ag.2.2
      rw [m3]
      simp only []
      rw [(h.fr.2 n0 (by omega) m1).1, h.ag.1, nI_subN (by omega), nI_1]
      congr 1
      omega
theorem ap_same {k : Nat} {P2 : SP} {g2 : Nat} {u2 v2 p2 : Nat → Nat} (h : RX N i P g u v p R) (h2 : RX N k P2 g2 u2 v2 p2 R) : apB R.nd R.sl R.sr R.sd i k = !sameB (sNn P) (sKk P) (sSt P) (sNn P2) (sKk P2) (sSt P2) (sSd P) (sSd P2) := by
  have a1 := h.nd
  have a2 := h2.nd
  have b1 := h.sl
  have b2 := h2.sl
  have c1 := h.sr
  have c2 := h2.sr
  have e1 : (nI (sNn P) = nI (sNn P2)) = (sNn P = sNn P2) := propext (nI_eq (by omega) (by omega))
  have e2 : (nI (sKk P) = nI (sKk P2)) = (sKk P = sKk P2) := propext (nI_eq (by omega) (by omega))
  have e3 : (nI (sSt P) = nI (sSt P2)) = (sSt P = sSt P2) := propext (nI_eq (by omega) (by omega))
  simp only [apB, sameB, a1.2.2, a2.2.2, b1.2, b2.2, c1.2, c2.2, h.sd, h2.sd, e1, e2, e3, Bool.not_and]
theorem an_same {k : Nat} {P2 : SP} {g2 : Nat} {u2 v2 p2 : Nat → Nat} (h : RX N i P g u v p R) (h2 : RX N k P2 g2 u2 v2 p2 R) : (bif sameB (sNn P) (sKk P) (sSt P) (sNn P2) (sKk P2) (sSt P2) (sSd P) (sSd P2) then bz (alkB (sS P) (sS P2) (30 * sNn P)) else -3) = (bif apB R.nd R.sl R.sr R.sd i k then -3 else bz (alkB (fun j => R.sm (1920 * i + j)) (fun j => R.sm (1920 * k + j)) 1920)) := by
  rw [ap_same h h2]
  cases e : sameB (sNn P) (sKk P) (sSt P) (sNn P2) (sKk P2) (sSt P2) (sSd P) (sSd P2) with
  | false => simp
  | true =>
    simp only [cond_true, Bool.not_true, cond_false]
    simp only [sameB, Bool.and_eq_true, decide_eq_true_iff] at e
    have hn := h.nd
    have key : alkB (sS P) (sS P2) (30 * sNn P) = true ↔ alkB (fun j => R.sm (1920 * i + j)) (fun j => R.sm (1920 * k + j)) 1920 = true := by
      rw [alkB_iff, alkB_iff]
      constructor
      · intro q j hj
        rw [← h.sm j hj, ← h2.sm j hj]
        by_cases w : j < 30 * sNn P
        · exact q j w
        · rw [h.sz j (by omega) hj, h2.sz j (by omega) hj]
      · intro q j hj
        rw [h.sm j (by omega), h2.sm j (by omega)]
        exact q j (by omega)
    exact congrArg bz (Bool.eq_iff_iff.mpr key)
end
