/-! bits of longs -/
def bt (z : Int64) (n : Nat) : Bool := z.toBitVec.getLsbD n
theorem and1 (x : Int64) : (x &&& 1) = bif x.toBitVec.getLsbD 0 then 1 else 0 := by
  apply Int64.toBitVec_inj.mp
  rw [Int64.toBitVec_and]
  show x.toBitVec &&& 1#64 = _
  rw [BitVec.and_one_eq_setWidth_ofBool_getLsbD]
  cases x.toBitVec.getLsbD 0 <;> rfl
theorem sh_u : ∀ n, n < 64 → ((nI n).toInt64.toUInt64 &&& Int64.toUInt64 63) = UInt64.ofNat n := by decide +kernel
theorem sh_s : ∀ n, n < 64 → ((nI n).toInt64 &&& 63) = Int64.ofNat n := by decide +kernel
theorem sh_m : ∀ n, n < 64 → ((Int64.ofNat n).toBitVec.smod 64).toNat = n := by decide +kernel
theorem ushr0 (z : Int64) {n : Nat} (hn : n < 64) : ((z.toUInt64 >>> ((nI n).toInt64.toUInt64 &&& Int64.toUInt64 63)).toInt64).toBitVec.getLsbD 0 = bt z n := by
  rw [sh_u n hn]
  show (z.toBitVec >>> ((UInt64.ofNat n).toBitVec % 64)).getLsbD 0 = _
  rw [BitVec.ushiftRight_eq', BitVec.getLsbD_ushiftRight]
  have : ((UInt64.ofNat n).toBitVec % 64).toNat = n := by
    show (BitVec.ofNat 64 n % 64#64).toNat = n
    rw [BitVec.toNat_umod, BitVec.toNat_ofNat, BitVec.toNat_ofNat, Nat.mod_eq_of_lt (show n < 2 ^ 64 by omega)]
    exact Nat.mod_eq_of_lt hn
  rw [this]
  rfl
theorem sshr0 (z : Int64) {n : Nat} (hn : n < 64) : (z >>> ((nI n).toInt64 &&& 63)).toBitVec.getLsbD 0 = bt z n := by
  rw [sh_s n hn]
  show (z.toBitVec.sshiftRight' ((Int64.ofNat n).toBitVec.smod 64)).getLsbD 0 = _
  rw [BitVec.sshiftRight', BitVec.getLsbD_sshiftRight, sh_m n hn]
  simp [bt, hn]
theorem hb_bt (z : Int64) {n : Nat} (hn : n < 64) : hb z (nI n) = bt z n := by
  unfold hb
  rw [and1, ushr0 z hn]
  cases bt z n <;> decide
theorem sb_bt (z : Int64) {n : Nat} (hn : n < 64) : ((z >>> ((nI n).toInt64 &&& 63)) &&& 1) = bif bt z n then 1 else 0 := by rw [and1, sshr0 z hn]
theorem bif0 {b : Bool} : (bif b then (1 : Int64) else 0) = 0 ↔ b = false := by cases b <;> decide
theorem bif1 {b : Bool} : (bif b then (1 : Int64) else 0) = 1 ↔ b = true := by cases b <;> decide
/-- the level search from bit 9 - m on -/
def lvF (z : Int64) : Nat → Nat
  | 0 => 9
  | m + 1 => bif bt z (9 - (m + 1)) then 9 - (m + 1) else lvF z m
theorem lvF_le (z : Int64) : ∀ m, lvF z m ≤ 9
  | 0 => Nat.le_refl 9
  | m + 1 => by
    simp only [lvF]
    cases bt z (9 - (m + 1)) with
    | true => simp only [cond_true]; omega
    | false => exact lvF_le z m
def mixZ (seed key : Int64) : Int64 :=
  let z1 := seed + (key + 1) * (-7046029254386353131)
  let z2 := (z1 ^^^ (z1.toUInt64 >>> ((30 : Int32).toInt64.toUInt64 &&& Int64.toUInt64 63)).toInt64) * (-4658895280553007687)
  let z3 := (z2 ^^^ (z2.toUInt64 >>> ((27 : Int32).toInt64.toUInt64 &&& Int64.toUInt64 63)).toInt64) * (-7723592293110705685)
  z3 ^^^ (z3.toUInt64 >>> ((31 : Int32).toInt64.toUInt64 &&& Int64.toUInt64 63)).toInt64
def lvK (seed key : Int64) : Nat := lvF (mixZ seed key) 9
