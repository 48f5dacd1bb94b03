/-! what merge answers and keeps -/
theorem anyB_iff (C E : Nat → Int32) : ∀ n, anyB C E n = true ↔ ∃ k, k < n ∧ 1000000000 < (C k).toInt + (E k).toInt
  | 0 => by simp [anyB]
  | n + 1 => by
    have e : ((1000000000 : Int64) < (C n).toInt64 + (E n).toInt64) ↔ 1000000000 < (C n).toInt + (E n).toInt := by
      rw [Int64.lt_iff_toInt_lt, Int64.toInt_add, Int32.toInt_toInt64, Int32.toInt_toInt64, Int.bmod_eq_of_le (by have := (C n).le_toInt; have := (E n).le_toInt; omega) (by have := (C n).toInt_lt; have := (E n).toInt_lt; omega)]
      rfl
    rw [anyB, Bool.or_eq_true, anyB_iff C E n, decide_eq_true_iff, e]
    constructor
    · rintro (⟨k, k1, k2⟩ | q)
      · exact ⟨k, by omega, k2⟩
      · exact ⟨n, by omega, q⟩
    · rintro ⟨k, k1, k2⟩
      by_cases q : k = n
      · rw [q] at k2; exact .inr k2
      · exact .inl ⟨k, by omega, k2⟩
theorem fulR_iff (f : Nat → Int32) : ∀ n, fulR f n = true ↔ ∃ k, k < n ∧ 1000000000 < (f k).toInt
  | 0 => by simp [fulR]
  | n + 1 => by
    have e : ((1000000000 : Int32) < f n) ↔ 1000000000 < (f n).toInt := by rw [Int32.lt_iff_toInt_lt]; rfl
    rw [fulR, Bool.or_eq_true, fulR_iff f n, decide_eq_true_iff, e]
    constructor
    · rintro (⟨k, k1, k2⟩ | q)
      · exact ⟨k, by omega, k2⟩
      · exact ⟨n, by omega, q⟩
    · rintro ⟨k, k1, k2⟩
      by_cases q : k = n
      · rw [q] at k2; exact .inr k2
      · exact .inl ⟨k, by omega, k2⟩
theorem l3i (x y z : Int32) : (x.toInt64 + y.toInt64 + z.toInt64).toInt32 = x + y + z := by simp
/-- the cut, as class and reference find it -/
theorem cut_pure {F f : Nat → Int32} {nn kk : Nat} (hnn : nn ≤ 64) (hkk : kk ≤ 64) (hF : ∀ j, j < 64 → F j = f j) (hz : ∀ a, nn ≤ a → a < 64 → (f a).toInt ≤ 0) (h0 : ∀ a, a < 64 → 0 ≤ (f a).toInt) : (if nap F nn kk 0 = -2 then 0 else F (nap F nn kk 0).toNatClampNeg) = mgcR f kk ∧ 0 ≤ (mgcR f kk).toInt := by
  have hn := nap_is (p := kk) hnn hz
  have hle := cntP_le f 64
  rw [nap_congr (g := f) (fun j hj => hF j (by omega))]
  simp only [mgcR]
  generalize cntP f 64 = c at *
  by_cases q : c ≤ kk
  · rw [if_pos ((nI_leI (by omega) (by omega)).mpr q), if_pos (hn.2 q)]
    exact ⟨rfl, by decide⟩
  · obtain ⟨n1, n2⟩ := hn.1 (by omega)
    rw [n1]
    generalize rnk f kk 64 = r at *
    rw [if_neg (fun w => q ((nI_leI (by omega) (by omega)).mp w)), if_neg (m2_nI r (by omega)), cl_nI (by omega)]
    exact ⟨hF r (by omega), h0 r (by omega)⟩
abbrev mgP (P : SP) (tg : Nat → Int32) (E : Nat → Int32) (lo2 : Int32) (T : Nat → Int64) : SP := (sNn P, sKk P, sSt P, sSd P, sAg P, nI (cntP (lsD (sm2 (sC P) E) (pcut (sC P) E (sNn P) (sKk P))) (sNn P)), (plost (sC P) E (sLo P) lo2 (sNn P) (sKk P)).toInt32, (fun j => if j < sNn P then lsD (sm2 (sC P) E) (pcut (sC P) E (sNn P) (sKk P)) j else sC P j), tg, sFn P, sFt P, sFk P, sLd P, sZ P, sTt P, sTq P, sNb P, sPr P, sMt P, addK (sS P) T (30 * sNn P))
abbrev sSetTg (P : SP) (x : Nat → Int32) : SP := (sNn P, sKk P, sSt P, sSd P, sAg P, sTk P, sLo P, sC P, x, sFn P, sFt P, sFk P, sLd P, sZ P, sTt P, sTq P, sNb P, sPr P, sMt P, sS P)
abbrev mgR (R : RS) (i k kk : Nat) : RS := (R.nd, R.sl, R.sr, R.sd, R.ag, upd (upd R.lo i (R.lo i + R.lo k)) i (R.lo i + R.lo k + mgcR (mgF R.ct i k) kk), R.lw, R.hg, lessF (mgC R.ct i k 64) i (mgcR (mgF R.ct i k) kk) 64, R.mt, mgS R.sm i k 1920, R.th, R.tn)
section
variable {N i : Nat} {P : SP} {g : Nat} {u v p : Nat → Nat} {R : RS} {k : Nat} {P2 : SP} {g2 : Nat} {u2 v2 p2 : Nat → Nat}
theorem RX.setTg (h : RX N i P g u v p R) (tg : Nat → Int32) : RX N i (sSetTg P tg) g u v p R :=
  RX.mk
    (f_ag := h.ag)
    (f_nd := h.nd)
    (f_sl := h.sl)
    (f_sr := h.sr)
    (f_sd := h.sd)
    (f_cr := h.cr)
    (f_arc := h.arc)
    (f_fr := h.fr)
    (f_tn := h.tn)
    (f_th := h.th)
    (f_nb := h.nb)
    (f_mt := h.mt)
    (f_pr := h.pr)
    (f_sm := h.sm)
    (f_sz := h.sz)
theorem mg_f (h : RX N i P g u v p R) (h2 : RX N k P2 g2 u2 v2 p2 R) (hN : N ≤ 4000) (e : sNn P = sNn P2) : (∀ j, j < 64 → sm2 (sC P) (sC P2) j = mgF R.ct i k j) ∧ (∀ a, sNn P ≤ a → a < 64 → mgF R.ct i k a = 0) ∧ ∀ a, a < 64 → (mgF R.ct i k a).toInt = (sC P a).toInt + (sC P2 a).toInt := by
  refine ⟨fun j hj => ?_, fun a h1 h3 => ?_, fun a ha => ?_⟩
  · simp only [sm2, mgF]; rw [h.cr.eq j hj, h2.cr.eq j hj]
  · simp only [mgF]; rw [← h.cr.eq a h3, ← h2.cr.eq a h3, h.cr.zr a h1 h3, h2.cr.zr a (by omega) h3]; rfl
  · have b1 := h.cr.bd a ha
    have b2 := h2.cr.bd a ha
    simp only [mgF]; rw [← h.cr.eq a ha, ← h2.cr.eq a ha]
    exact i_add (by omega) (by omega)
theorem mg_cut (h : RX N i P g u v p R) (h2 : RX N k P2 g2 u2 v2 p2 R) (hN : N ≤ 4000) (e : sNn P = sNn P2) : pcut (sC P) (sC P2) (sNn P) (sKk P) = mgcR (mgF R.ct i k) (sKk P) ∧ 0 ≤ (mgcR (mgF R.ct i k) (sKk P)).toInt := by
  obtain ⟨f1, f2, f3⟩ := mg_f h h2 hN e
  exact cut_pure h.nd.2.1 (by have := h.sl; omega) f1 (fun a q1 q2 => by rw [f2 a q1 q2]; decide) (fun a q => by have b1 := h.cr.bd a q; have b2 := h2.cr.bd a q; rw [f3 a q]; omega)
theorem mg_full (h : RX N i P g u v p R) (h2 : RX N k P2 g2 u2 v2 p2 R) (hN : N ≤ 4000) (e : sNn P = sNn P2) : pfull (sC P) (sC P2) (sLo P) (sLo P2) (sNn P) (sKk P) = mgK (mgF R.ct i k) (R.lo i) (R.lo k) (sKk P) := by
  obtain ⟨f1, f2, f3⟩ := mg_f h h2 hN e
  have hl : plost (sC P) (sC P2) (sLo P) (sLo P2) (sNn P) (sKk P) = (R.lo i).toInt64 + (R.lo k).toInt64 + (mgcR (mgF R.ct i k) (sKk P)).toInt64 := by
    simp only [plost]
    rw [(mg_cut h h2 hN e).1, ← h.cr.lo, ← h2.cr.lo]
  have key : anyB (sC P) (sC P2) (sNn P) = fulR (mgF R.ct i k) 64 := by
    refine Bool.eq_iff_iff.mpr ?_
    rw [anyB_iff, fulR_iff]
    have hn := h.nd
    constructor
    · rintro ⟨j, j1, j2⟩
      exact ⟨j, by omega, by rw [f3 j (by omega)]; exact j2⟩
    · rintro ⟨j, j1, j2⟩
      by_cases q : j < sNn P
      · exact ⟨j, q, by rw [← f3 j j1]; exact j2⟩
      · rw [f2 j (by omega) j1, i_0] at j2; omega
  simp only [pfull, mgK]
  rw [key, hl]
theorem mg_new (h : RX N i P g u v p R) (h2 : RX N k P2 g2 u2 v2 p2 R) (hN : N ≤ 4000) (e : sNn P = sNn P2) : ∀ a, a < 64 → (if a < sNn P then lsD (sm2 (sC P) (sC P2)) (pcut (sC P) (sC P2) (sNn P) (sKk P)) a else sC P a) = lessF (mgC R.ct i k 64) i (mgcR (mgF R.ct i k) (sKk P)) 64 (64 * i + a) := fun a ha => by
  obtain ⟨f1, f2, f3⟩ := mg_f h h2 hN e
  obtain ⟨c1, c2⟩ := mg_cut h h2 hN e
  have er : lessF (mgC R.ct i k 64) i (mgcR (mgF R.ct i k) (sKk P)) 64 (64 * i + a) = mx0 (mgF R.ct i k a - mgcR (mgF R.ct i k) (sKk P)) := by
    simp only [lessF, mgC]
    rw [if_pos (by omega), if_pos (by omega), m0_mx, show 64 * i + a - 64 * i = a by omega]
  rw [er, c1]
  by_cases q : a < sNn P
  · rw [if_pos q]; simp only [lsD]; rw [f1 a ha]
  · rw [if_neg q, f2 a (by omega) ha, h.cr.zr a (by omega) ha]
    generalize mgcR (mgF R.ct i k) (sKk P) = c at *
    have b1 := c.toInt_lt
    have : ¬ (0 : Int32) < 0 - c := by
      rw [Int32.lt_iff_toInt_lt, i_sub] <;> simp only [i_0] <;> omega
    simp only [mx0]; rw [if_neg this]
theorem mg_cnt (h : RX N i P g u v p R) (h2 : RX N k P2 g2 u2 v2 p2 R) (hN : N ≤ 4000) (e : sNn P = sNn P2) : cntP (lsD (sm2 (sC P) (sC P2)) (pcut (sC P) (sC P2) (sNn P) (sKk P))) (sNn P) = cntP (fun a => lessF (mgC R.ct i k 64) i (mgcR (mgF R.ct i k) (sKk P)) 64 (64 * i + a)) 64 := by
  have hw := mg_new h h2 hN e
  have hn := h.nd
  rw [cntP_tail (f := fun a => lessF (mgC R.ct i k 64) i (mgcR (mgF R.ct i k) (sKk P)) 64 (64 * i + a)) (nn := sNn P) 64 hn.2.1 (fun j h1 h3 => by
    have := hw j h3
    rw [if_neg (by omega), h.cr.zr j h1 h3] at this
    rw [← this]; decide)]
  refine cntP_congr _ (fun j hj => ?_)
  have := hw j (by omega)
  rw [if_pos hj] at this
  exact this
theorem RX.merge (h : RX N i P g u v p R) (h2 : RX N k P2 g2 u2 v2 p2 R) (hN : N ≤ 4000) (hik : k ≠ i) (e : sNn P = sNn P2) (hf : pfull (sC P) (sC P2) (sLo P) (sLo P2) (sNn P) (sKk P) = false) (tg : Nat → Int32) : RX N i (mgP P tg (sC P2) (sLo P2) (sS P2)) g u v p (mgR R i k (sKk P)) := by
  obtain ⟨f1, f2, f3⟩ := mg_f h h2 hN e
  obtain ⟨c1, c2⟩ := mg_cut h h2 hN e
  have hw := mg_new h h2 hN e
  have hn := h.nd
  have hsum : ∀ a, a < 64 → (sC P a).toInt + (sC P2 a).toInt ≤ 1000000000 := fun a ha => by
    by_cases q : a < sNn P
    · simp only [pfull, Bool.or_eq_false_iff] at hf
      have h1 := hf.1
      by_cases w : 1000000000 < (sC P a).toInt + (sC P2 a).toInt
      · rw [(anyB_iff _ _ _).mpr ⟨a, q, w⟩] at h1; exact absurd h1 (by decide)
      · omega
    · rw [h.cr.zr a (by omega) ha, h2.cr.zr a (by omega) ha]; simp only [i_0]; omega
  have hbd : ∀ a, a < 64 → 0 ≤ (if a < sNn P then lsD (sm2 (sC P) (sC P2)) (pcut (sC P) (sC P2) (sNn P) (sKk P)) a else sC P a).toInt ∧ (if a < sNn P then lsD (sm2 (sC P) (sC P2)) (pcut (sC P) (sC P2) (sNn P) (sKk P)) a else sC P a).toInt ≤ 1000000000 + 2 * (N : Int) := fun a ha => by
    have b0 := h.cr.bd a ha
    have b2 := h2.cr.bd a ha
    have b3 := hsum a ha
    by_cases q : a < sNn P
    · rw [if_pos q]
      simp only [lsD]
      rw [f1 a ha, c1]
      have b4 := f3 a ha
      generalize mgcR (mgF R.ct i k) (sKk P) = c at *
      have b1 := c.toInt_lt
      have := mx0_b (mgF R.ct i k a - c)
      have e4 : (mgF R.ct i k a - c).toInt = (mgF R.ct i k a).toInt - c.toInt := i_sub (by omega) (by omega)
      omega
    · rw [if_neg q]; omega
  have hzr : ∀ a, sNn P ≤ a → a < 64 → (fun j => if j < sNn P then lsD (sm2 (sC P) (sC P2)) (pcut (sC P) (sC P2) (sNn P) (sKk P)) j else sC P j) a = 0 := fun a q1 q2 => by
    show (if a < sNn P then _ else sC P a) = 0
    rw [if_neg (show ¬ a < sNn P by exact Nat.not_lt.mpr q1)]
    exact h.cr.zr a q1 q2
  have htk : nI (cntP (lsD (sm2 (sC P) (sC P2)) (pcut (sC P) (sC P2) (sNn P) (sKk P))) (sNn P)) = nI (cntP (fun j => if j < sNn P then lsD (sm2 (sC P) (sC P2)) (pcut (sC P) (sC P2) (sNn P) (sKk P)) j else sC P j) 64) := by
    rw [cntP_tail (f := fun j => if j < sNn P then lsD (sm2 (sC P) (sC P2)) (pcut (sC P) (sC P2) (sNn P) (sKk P)) j else sC P j) (nn := sNn P) 64 hn.2.1 (fun j h1 h3 => by rw [if_neg (by omega), h.cr.zr j h1 h3]; decide)]
    exact congrArg nI (cntP_congr _ (fun j hj => by rw [if_pos hj]))
  have hlo : (plost (sC P) (sC P2) (sLo P) (sLo P2) (sNn P) (sKk P)).toInt32 = (mgR R i k (sKk P)).lo i := by
    show (plost (sC P) (sC P2) (sLo P) (sLo P2) (sNn P) (sKk P)).toInt32 = upd _ i _ i
    rw [up_at]
    simp only [plost]
    rw [l3i, c1, ← h.cr.lo, ← h2.cr.lo]
  exact
  RX.mk
    (f_ag := h.ag)
    (f_nd := h.nd)
    (f_sl := h.sl)
    (f_sr := h.sr)
    (f_sd := h.sd)
    (f_cr := ⟨hw, hbd, hzr, htk, hlo⟩)
    (f_arc := h.arc)
    (f_fr := h.fr)
    (f_tn := h.tn)
    (f_th := h.th)
    (f_nb := h.nb)
    (f_mt := h.mt)
    (f_pr := h.pr)
    (f_sm := fun j hj => by
      show addK (sS P) (sS P2) (30 * sNn P) j = mgS R.sm i k 1920 (1920 * i + j)
      simp only [addK, mgS]
      rw [if_pos (show 1920 * i ≤ 1920 * i + j ∧ 1920 * i + j < 1920 * i + 1920 by omega), show 1920 * i + j - 1920 * i = j by omega, ← h.sm j hj, ← h2.sm j hj]
      by_cases q : j < 30 * sNn P
      · rw [if_pos q]
      · rw [if_neg q, h2.sz j (by omega) hj]; simp)
    (f_sz := fun j q1 q2 => by
      show addK (sS P) (sS P2) (30 * sNn P) j = 0
      simp only [addK]
      rw [if_neg (show ¬ j < 30 * sNn P by exact Nat.not_lt.mpr q1)]
      exact h.sz j q1 q2)
theorem RX.merge_o (h : RX N i P g u v p R) (hg : g ≤ 4200) {m : Nat} (hm : m ≠ i) (k kk : Nat) : RX N i P g u v p (mgR R m k kk) :=
  h.frame hg rfl rfl rfl rfl rfl (by show upd _ m _ i = _; rw [up_ne _ _ hm.symm, up_ne _ _ hm.symm]) (fun _ _ => rfl) (fun _ _ => rfl) (fun a ha => by show lessF (mgC R.ct m k 64) m _ 64 _ = _; simp only [lessF, mgC]; rw [if_neg (by omega), if_neg (by omega)]) (fun _ _ => rfl) (fun j hj => by show mgS R.sm m k 1920 _ = _; simp only [mgS]; rw [if_neg (by omega)]) (fun _ _ => rfl) rfl
end
