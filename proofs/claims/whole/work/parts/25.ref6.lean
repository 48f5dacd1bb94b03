/-! an array's values beyond its length do not matter -/
theorem vp_ext_i {cA : ClassId} {n : Nat} {f g : Nat → Int32} (h : ∀ i, i < n → f i = g i) : vp_cell cA (n, .inl f) = vp_cell cA (n, .inl g) := by
  show arrV cA n (fun j => .int (f j)) = arrV cA n (fun j => .int (g j))
  simp only [arrV]
  congr 1
  apply Array.ext
  · simp
  · intro i h1 h2
    simp at h1 ⊢
    exact h i (by simpa using h1)
theorem vp_ext_l {cA : ClassId} {n : Nat} {f g : Nat → Int64} (h : ∀ i, i < n → f i = g i) : vp_cell cA (n, .inr (.inl f)) = vp_cell cA (n, .inr (.inl g)) := by
  show arrV cA n (fun j => .long (f j)) = arrV cA n (fun j => .long (g j))
  simp only [arrV]
  congr 1
  apply Array.ext
  · simp
  · intro i h1 h2
    simp at h1 ⊢
    exact h i (by simpa using h1)
theorem norm_P {D : DD} {ad : Nat → Nat} {cs : List va_E} {H : Heap} {k : Nat} {x y : va_E} (hc : gt cs k = some x) (he : ∀ q : Nat, va_at D.1 vcl (q, x) H → va_at D.1 vcl (q, y) H) (hP : va_P D.1 vcl (wsO ad cs) H) : va_P D.1 vcl (wsO ad (cs.set k y)) H := by
  intro i q hq
  rw [wsO_get] at hq
  obtain ⟨c, hci, rfl⟩ := Option.map_eq_some_iff.mp hq
  rw [gt_eq] at hc
  by_cases hik : i = k
  · subst hik
    rw [List.getElem?_set_self (List.getElem?_eq_some_iff.mp hc).1] at hci
    cases hci
    exact he _ (hP i _ (by rw [wsO_get, hc]; rfl))
  · rw [List.getElem?_set_ne (fun q => hik q.symm)] at hci
    exact hP i _ (by rw [wsO_get, hci]; rfl)
theorem norm_D {A : Nat → Prop} {ad : Nat → Nat} {cs : List va_E} {k : Nat} {y : va_E} (hD : va_D A (wsO ad cs)) : va_D A (wsO ad (cs.set k y)) := by
  have key : ∀ (i : Nat) (q : Nat × va_E), (wsO ad (cs.set k y))[i]? = some q → ∃ c, (wsO ad cs)[i]? = some (q.1, c) := by
    intro i q hq
    rw [wsO_get] at hq
    obtain ⟨c, hci, rfl⟩ := Option.map_eq_some_iff.mp hq
    have hl : i < cs.length := by have := (List.getElem?_eq_some_iff.mp hci).1; simpa using this
    exact ⟨cs[i], by rw [wsO_get, List.getElem?_eq_getElem hl]; rfl⟩
  refine ⟨fun i j p q hi hj hpq => ?_, fun i q hq => ?_⟩
  · obtain ⟨c1, e1⟩ := key i p hi
    obtain ⟨c2, e2⟩ := key j q hj
    exact hD.1 i j _ _ e1 e2 hpq
  · obtain ⟨c1, e1⟩ := key i q hq
    exact hD.2 i (q.1, c1) e1
section GN
variable {D : DD} {X : MX} {A : Nat → Prop} {kc ks : Nat} {Q : State → Prop} {ad : Nat → Nat} {pc : Nat} {lv : List (Option Value)} {st : List Value} {cs : List va_E}
theorem G_normI (k : Nat) {n : Nat} {f : Nat → Int32} (g : Nat → Int32) (hc : gt cs k = some (ia D n f)) (h : ∀ i, i < n → f i = g i) (kk : G D X A kc ks Q ad pc lv st (cs.set k (ia D n g))) : G D X A kc ks Q ad pc lv st cs := fun ls H locs hL hP hD hS =>
  kk ls H locs hL (norm_P hc (fun q hq => by show H[q]? = some (vp_cell _ _); rw [← vp_ext_i h]; exact hq) hP) (norm_D hD) hS
theorem G_normZ (k : Nat) {n : Nat} {f : Nat → Int32} (g : Nat → Int32) (hc : gt cs k = some (za D n f)) (h : ∀ i, i < n → f i = g i) (kk : G D X A kc ks Q ad pc lv st (cs.set k (za D n g))) : G D X A kc ks Q ad pc lv st cs := fun ls H locs hL hP hD hS =>
  kk ls H locs hL (norm_P hc (fun q hq => by show H[q]? = some (vp_cell _ _); rw [← vp_ext_i h]; exact hq) hP) (norm_D hD) hS
theorem G_normL (k : Nat) {n : Nat} {f : Nat → Int64} (g : Nat → Int64) (hc : gt cs k = some (la D n f)) (h : ∀ i, i < n → f i = g i) (kk : G D X A kc ks Q ad pc lv st (cs.set k (la D n g))) : G D X A kc ks Q ad pc lv st cs := fun ls H locs hL hP hD hS =>
  kk ls H locs hL (norm_P hc (fun q hq => by show H[q]? = some (vp_cell _ _); rw [← vp_ext_l h]; exact hq) hP) (norm_D hD) hS
end GN
/-! the labels by the last i arcs; u, v: the ends of the arc number t (from 0), g: how many came -/
def unN (L : Nat → Nat) (x y : Nat) : Nat → Nat := fun a => if L a = x ∨ L a = y then min x y else L a
def lab (u v : Nat → Nat) (g : Nat) : Nat → Nat → Nat
  | 0 => fun a => a
  | i + 1 => unN (lab u v g i) (lab u v g i (u (g - 1 - i))) (lab u v g i (v (g - 1 - i)))
def jnd (u v : Nat → Nat) (g i : Nat) : Bool := !decide (lab u v g i (u (g - 1 - i)) = lab u v g i (v (g - 1 - i)))
def cj (u v : Nat → Nat) (g : Nat) : Nat → Nat
  | 0 => 0
  | i + 1 => cj u v g i + (bif jnd u v g i then 1 else 0)
def joF (u v : Nat → Nat) (g : Nat) (jo : Nat → Int32) (i : Nat) : Nat → Int32 := fun t => if g - i ≤ t ∧ t < g then bz (jnd u v g (g - 1 - t)) else jo t
theorem lab_le (u v : Nat → Nat) (g : Nat) : ∀ i a, lab u v g i a ≤ a
  | 0, a => Nat.le_refl a
  | i + 1, a => by
    have h := lab_le u v g i a
    simp only [lab, unN]
    split
    · next hh => rcases hh with hh | hh <;> omega
    · exact h
theorem unN_nI {L : Nat → Nat} (hL : ∀ a, L a ≤ a) {p q : Nat} (hp : p < 64) (hq : q < 64) (a : Nat) (ha : a < 64) : uniF (fun a => nI (L a)) (nI (L p)) (nI (L q)) 64 a = nI (unN L (L p) (L q) a) := by
  have h1 := hL a
  have h2 := hL p
  have h3 := hL q
  simp only [uniF, if_pos ha, unN]
  have e1 : nI (L a) = nI (L p) ↔ L a = L p := nI_eq (by omega) (by omega)
  have e2 : nI (L a) = nI (L q) ↔ L a = L q := nI_eq (by omega) (by omega)
  have e3 : nI (L q) ≤ nI (L p) ↔ L q ≤ L p := nI_leI (by omega) (by omega)
  by_cases h : L a = L p ∨ L a = L q
  · rw [if_pos h, if_pos (by rcases h with h | h; exact Or.inl (e1.mpr h); exact Or.inr (e2.mpr h))]
    by_cases h4 : L q ≤ L p
    · rw [if_pos (e3.mpr h4), Nat.min_eq_right h4]
    · rw [if_neg (fun z => h4 (e3.mp z)), Nat.min_eq_left (by omega)]
  · rw [if_neg h, if_neg (fun z => h (by rcases z with z | z; exact Or.inl (e1.mp z); exact Or.inr (e2.mp z)))]
theorem joF_0 (u v : Nat → Nat) (g : Nat) (jo : Nat → Int32) : joF u v g jo 0 = jo := by
  funext t
  simp only [joF]
  rw [if_neg (by omega)]
theorem joF_step (u v : Nat → Nat) (g : Nat) (jo : Nat → Int32) {i : Nat} (hi : i < g) : upd (joF u v g jo i) (g - i - 1) (bz (jnd u v g i)) = joF u v g jo (i + 1) := by
  funext t
  simp only [upd, joF]
  by_cases h : t = g - i - 1
  · rw [if_pos h, if_pos (by omega), show g - 1 - t = i by omega]
  · rw [if_neg h]
    by_cases h2 : g - i ≤ t ∧ t < g
    · rw [if_pos h2, if_pos (by omega)]
    · rw [if_neg h2, if_neg (by omega)]
theorem ixC (s t : Nat) : (4200 : Int32) * nI s + nI t = nI (4200 * s + t) := by rw [show (4200 : Int32) = nI 4200 from rfl, pk_mul, nI_add]
theorem sub_nI1 (a : Int32) (c : Nat) : a - nI c - 1 = a - nI (c + 1) := by
  rw [← nI_1]
  apply Int32.toBitVec_inj.mp
  simp only [Int32.toBitVec_sub, Int32.toBitVec_add]
  rw [BitVec.sub_sub]
theorem sub_nI0 (a : Int32) : a - nI 0 = a := by rw [nI_0]; simp
theorem dec_lt {m L : Nat} (hm : m < 2 ^ 30) (hL : L < 2 ^ 30) : nI m - 1 < nI L ↔ m ≤ L := by
  rw [Int32.lt_iff_toInt_lt, show (1 : Int32) = nI 1 from rfl, pk_sub_toInt hm (by omega), nI_toInt (by omega)]
  omega
theorem m1_sub (x : Int32) : x + (-1) = x - 1 := by
  apply Int32.toBitVec_inj.mp
  simp only [Int32.toBitVec_sub, Int32.toBitVec_add]
  rw [BitVec.sub_eq_add_neg]
  rfl
