/-! ===== scripts as longs: the class ===== -/
section LON
theorem lN_tiS {a : Nat} (h : a < 2 ^ 63) : (lN a).toInt = a := by
  show (BitVec.ofNat 64 a).toInt = a
  have e : (BitVec.ofNat 64 a).toNat = a := by rw [BitVec.toNat_ofNat, Nat.mod_eq_of_lt (by omega)]
  rw [BitVec.toInt_eq_toNat_of_lt (by rw [e]; omega), e]
theorem lN_div {a b : Nat} (ha : a < 2 ^ 63) (hb : b < 2 ^ 63) (h0 : 0 < b) : lN a / lN b = lN (a / b) := by
  have h1 : a / b < 2 ^ 63 := Nat.lt_of_le_of_lt (Nat.div_le_self _ _) ha
  rw [← Int64.toInt_inj, Int64.toInt_div, lN_tiS ha, lN_tiS hb, lN_tiS h1]
  rw [Int.tdiv_eq_ediv_of_nonneg (by omega), ← Int.natCast_ediv]
  generalize a / b = c at *
  exact Int.bmod_eq_of_le (by omega) (by omega)
theorem lN_rem {a b : Nat} (ha : a < 2 ^ 63) (hb : b < 2 ^ 63) (h0 : 0 < b) : lN a - lN a / lN b * lN b = lN (a % b) := by
  rw [lN_div ha hb h0, lN_mul, lN_sub (Nat.div_mul_le_self a b)]
  congr 1
  have := Nat.div_add_mod a b
  rw [Nat.mul_comm] at this
  omega
theorem lN_lcz {a b : Nat} (ha : a < 2 ^ 63) (hb : b < 2 ^ 63) : lcz (lN a) (lN b) = if b < a then 1 else if a = b then 0 else -1 := by
  unfold lcz
  have e1 : lN b < lN a ↔ b < a := by rw [Int64.lt_iff_toInt_lt, lN_tiS ha, lN_tiS hb]; omega
  have e2 : lN a = lN b ↔ a = b := ⟨fun h => lN_inj (by omega) (by omega) h, fun h => by rw [h]⟩
  simp only [e1, e2]
theorem pw5 : ∀ k, k ≤ 3 → 100000 ^ k < 2 ^ 63 := by decide
end LON
