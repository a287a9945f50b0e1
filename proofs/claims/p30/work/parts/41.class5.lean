/-! ===== the class: scripts, texts loaded ===== -/
section SCR
theorem lcz_lt {x y : Int64} : lcz x y < 0 ↔ x.toInt < y.toInt := by
  unfold lcz
  by_cases h : y < x
  · rw [if_pos h]; rw [Int64.lt_iff_toInt_lt] at h; omega
  · rw [if_neg h]
    by_cases h2 : x = y
    · rw [if_pos h2, h2]; omega
    · rw [if_neg h2]
      rw [Int64.lt_iff_toInt_lt] at h
      have : ¬ x.toInt = y.toInt := fun z => h2 (Int64.toInt_inj.mp z)
      omega
theorem lN_ofI {x : Int64} (h : 0 ≤ x.toInt) : x = lN x.toInt.toNat ∧ x.toInt.toNat < 2 ^ 63 := by
  have h2 : x.toInt < 2 ^ 63 := Int64.toInt_lt x
  refine ⟨?_, by omega⟩
  apply Int64.toInt_inj.mp
  rw [lN_tiS (by omega)]; omega
/-- the place of the first command of a script that fails -/
def rsl (N : Nat) : Nat → (Int → Int) → Int → Int
  | 0, _, _ => -1
  | k + 1, R, i => if (scs R ((N / 100000 ^ k % 100000 : Nat) : Int)).1 = 1 then rsl N k (scs R ((N / 100000 ^ k % 100000 : Nat) : Int)).2 (i + 1) else i
def rsv (R : Int → Int) (x : Int64) (n : Int) : Int := rsl x.toInt.toNat n.toNat R 0
end SCR
