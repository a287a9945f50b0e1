/-! ===== the rows of numbers: what is asked of them, in whole numbers ===== -/
theorem sm_0 (f : Int → Int) (a : Int) : sm f a 0 = 0 := rfl
theorem sm_1 (f : Int → Int) (a : Int) (n : Nat) : sm f a (n + 1) = f a + sm f (a + 1) n := rfl
theorem sm_snoc (f : Int → Int) : ∀ (n : Nat) (a : Int), sm f a (n + 1) = sm f a n + f (a + n)
  | 0, a => by rw [sm_1, sm_0, sm_0]; simp
  | n + 1, a => by rw [sm_1, sm_snoc f n (a + 1), sm_1]; have : a + 1 + (n : Int) = a + ((n + 1 : Nat) : Int) := by omega
                   rw [this]; omega
theorem sm_cat (f : Int → Int) : ∀ (n k : Nat) (a : Int), sm f a (n + k) = sm f a n + sm f (a + n) k
  | 0, k, a => by rw [sm_0]; simp
  | n + 1, k, a => by
    rw [show n + 1 + k = (n + k) + 1 by omega, sm_1, sm_cat f n k (a + 1), sm_1, show a + 1 + (n : Int) = a + ((n + 1 : Nat) : Int) by omega]; omega
theorem sm_cong {f g : Int → Int} : ∀ {n : Nat} {a : Int}, (∀ j, a ≤ j → j < a + n → f j = g j) → sm f a n = sm g a n
  | 0, _, _ => rfl
  | n + 1, a, h => by rw [sm_1, sm_1, h a (by omega) (by omega), sm_cong (n := n) (a := a + 1) (fun j h1 h2 => h j (by omega) (by omega))]
theorem sm_sh {f g : Int → Int} {b : Int} : ∀ {n : Nat} {a : Int}, (∀ j, a ≤ j → j < a + n → f j = g (b + j)) → sm f a n = sm g (b + a) n
  | 0, _, _ => rfl
  | n + 1, a, h => by rw [sm_1, sm_1, h a (by omega) (by omega), sm_sh (n := n) (a := a + 1) (b := b) (fun j h1 h2 => h j (by omega) (by omega)), show b + (a + 1) = b + a + 1 by omega]
theorem sm_le {f : Int → Int} {c : Int} : ∀ {n : Nat} {a : Int}, (∀ j, a ≤ j → j < a + n → f j ≤ c) → sm f a n ≤ c * n
  | 0, _, _ => by simp [sm]
  | n + 1, a, h => by
    have h1 := h a (by omega) (by omega)
    have h2 := sm_le (n := n) (a := a + 1) (c := c) (fun j h1 h2 => h j (by omega) (by omega))
    rw [sm_1, show c * ((n + 1 : Nat) : Int) = c + c * n by rw [Int.natCast_add, Int.mul_add]; simp; omega]; omega
theorem sm_ge {f : Int → Int} {c : Int} : ∀ {n : Nat} {a : Int}, (∀ j, a ≤ j → j < a + n → c ≤ f j) → c * n ≤ sm f a n
  | 0, _, _ => by simp [sm]
  | n + 1, a, h => by
    have h1 := h a (by omega) (by omega)
    have h2 := sm_ge (n := n) (a := a + 1) (c := c) (fun j h1 h2 => h j (by omega) (by omega))
    rw [sm_1, show c * ((n + 1 : Nat) : Int) = c + c * n by rw [Int.natCast_add, Int.mul_add]; simp; omega]; omega
theorem sm_le2 {f g : Int → Int} : ∀ {n : Nat} {a : Int}, (∀ j, a ≤ j → j < a + n → f j ≤ g j) → sm f a n ≤ sm g a n
  | 0, _, _ => by simp [sm]
  | n + 1, a, h => by
    have h1 := h a (by omega) (by omega)
    have h2 := sm_le2 (n := n) (a := a + 1) (fun j h1 h2 => h j (by omega) (by omega))
    rw [sm_1, sm_1]; omega
/-- a set of rows as a number -/
def bN (g : Int → Int) : Nat → Nat
  | 0 => 0
  | n + 1 => bN g n + (if g n = 1 then 2 ^ n else 0)
theorem bN_lt (g : Int → Int) : ∀ n, bN g n < 2 ^ n
  | 0 => by simp [bN]
  | n + 1 => by
    have := bN_lt g n
    unfold bN
    rw [Nat.pow_succ]
    split <;> omega
theorem bN_tb (g : Int → Int) : ∀ (n j : Nat), (bN g n).testBit j = (decide (j < n) && decide (g j = 1))
  | 0, j => by simp [bN]
  | n + 1, j => by
    have hl := bN_lt g n
    have e : bN g (n + 1) = 2 ^ n * (if g n = 1 then 1 else 0) + bN g n := by show bN g n + (if g n = 1 then 2 ^ n else 0) = _; split <;> omega
    rw [e, Nat.testBit_two_pow_mul_add _ hl, bN_tb g n j]
    by_cases h1 : j < n
    · simp [h1, Nat.lt_succ_of_lt h1]
    · rw [if_neg h1]
      by_cases h2 : j = n
      · subst h2
        simp only [Nat.sub_self, Nat.testBit_zero]
        split <;> simp_all
      · have h3 : ¬ j < n + 1 := by omega
        have h4 : j - n = (j - n - 1) + 1 := by omega
        rw [h4, Nat.testBit_succ]
        simp [h3]
        split <;> simp
def lB (g : Int → Int) : Int64 := lN (bN g 48)
theorem bN_64 (g : Int → Int) : bN g 48 < 2 ^ 64 := Nat.lt_of_lt_of_le (bN_lt g 48) (by decide)
theorem bN_ext {n m : Nat} (h : ∀ j, n.testBit j = m.testBit j) : n = m := Nat.eq_of_testBit_eq h
theorem lB_congN {f g : Int → Int} (h : ∀ j : Int, 0 ≤ j → j < 48 → (f j = 1 ↔ g j = 1)) : bN f 48 = bN g 48 := by
  apply Nat.eq_of_testBit_eq
  intro j
  rw [bN_tb, bN_tb]
  by_cases hj : j < 48
  · rw [decide_eq_decide.mpr (h j (by omega) (by omega))]
  · simp [hj]
theorem lB_cong {f g : Int → Int} (h : ∀ j : Int, 0 ≤ j → j < 48 → (f j = 1 ↔ g j = 1)) : lB f = lB g := by unfold lB; rw [lB_congN h]
theorem lB_congE {f g : Int → Int} (h : ∀ j : Int, 0 ≤ j → j < 48 → f j = g j) : lB f = lB g := lB_cong fun j h1 h2 => by rw [h j h1 h2]
theorem lN_inj {a b : Nat} (ha : a < 2 ^ 64) (hb : b < 2 ^ 64) (h : lN a = lN b) : a = b := by
  have := congrArg (fun x : Int64 => x.toBitVec.toNat) h
  simpa only [wb_tn ha, wb_tn hb] using this
theorem lB_inj {f g : Int → Int} (h : lB f = lB g) (j : Int) (h1 : 0 ≤ j) (h2 : j < 48) : f j = 1 ↔ g j = 1 := by
  have := congrArg (fun x => x.testBit j.toNat) (lN_inj (bN_64 f) (bN_64 g) h)
  simp only [bN_tb, Int.toNat_of_nonneg h1] at this
  rw [show decide (j.toNat < 48) = true from decide_eq_true (by omega), Bool.true_and, Bool.true_and] at this
  exact decide_eq_decide.mp this
/-- one bit: (int) (rows >>> r & 1L) -/
theorem bN_bit (g : Int → Int) {r : Nat} (hr : r < 48) : bN g 48 / 2 ^ r % 2 = if g r = 1 then 1 else 0 := by
  have := bN_tb g 48 r
  rw [Nat.testBit_eq_decide_div_mod_eq, decide_eq_true hr, Bool.true_and, decide_eq_decide] at this
  by_cases h : g r = 1
  · rw [if_pos h, this.mpr h]
  · rw [if_neg h]
    have h2 : ¬ bN g 48 / 2 ^ r % 2 = 1 := fun z => h (this.mp z)
    omega
theorem lB_and (f g : Int → Int) : lB f &&& lB g = lB (fun j => if f j = 1 then g j else 0) := by
  unfold lB
  rw [wb_and (bN_64 f) (bN_64 g)]
  congr 1
  apply Nat.eq_of_testBit_eq
  intro j
  rw [Nat.testBit_and, bN_tb, bN_tb, bN_tb]
  by_cases hj : j < 48
  · by_cases h : f j = 1 <;> simp [hj, h]
  · simp [hj]
theorem lB_or (f g : Int → Int) : lB f ||| lB g = lB (fun j => if f j = 1 then 1 else g j) := by
  unfold lB
  rw [wb_or (bN_64 f) (bN_64 g)]
  congr 1
  apply Nat.eq_of_testBit_eq
  intro j
  rw [Nat.testBit_or, bN_tb, bN_tb, bN_tb]
  by_cases hj : j < 48
  · by_cases h : f j = 1 <;> simp [hj, h]
  · simp [hj]
theorem lB_nat {n : Nat} (hn : n < 2 ^ 48) : lN n = lB (fun j => if n.testBit j.toNat then 1 else 0) := by
  unfold lB
  congr 1
  apply Nat.eq_of_testBit_eq
  intro j
  rw [bN_tb]
  by_cases hj : j < 48
  · cases h : n.testBit j <;> simp [hj, h]
  · simp only [hj, decide_false, Bool.false_and]
    exact Nat.testBit_lt_two_pow (Nat.lt_of_lt_of_le hn (Nat.pow_le_pow_right (by decide) (by omega)))
theorem lB_one {r : Int} (h1 : 0 ≤ r) (h2 : r < 48) : (1 : Int64) <<< ((iI r).toInt64 &&& 63) = lB (fun j => if j = r then 1 else 0) := by
  have e : iI r = nI r.toNat := by rw [← iI_nat, Int.toNat_of_nonneg h1]
  have h48 : 2 ^ r.toNat < 2 ^ 48 := Nat.pow_lt_pow_right (by decide) (by omega)
  rw [e, show (1 : Int64) = lN 1 from rfl, wb_shl 1 (by omega), Nat.one_mul, lB_nat h48]
  apply lB_congE
  intro j j1 j2
  rw [Nat.testBit_two_pow]
  by_cases h : j = r
  · subst h; simp
  · rw [if_neg h, if_neg]; simp; omega
/-- without the rows of g: x & ~y, as x & (y ^ -1) -/
theorem lB_not (f g : Int → Int) : lB f &&& (lB g ^^^ (-1)) = lB (fun j => if g j = 1 then 0 else f j) := by
  apply wb_inj
  apply BitVec.eq_of_getLsbD_eq
  intro j hj
  rw [Int64.toBitVec_and, Int64.toBitVec_xor, show (-1 : Int64).toBitVec = BitVec.allOnes 64 from rfl]
  have gb : ∀ k : Int → Int, (lB k).toBitVec.getLsbD j = (decide (j < 48) && decide (k j = 1)) := by
    intro k
    unfold lB
    rw [wb_tb, BitVec.getLsbD_ofNat, bN_tb]; simp [hj]
  rw [BitVec.getLsbD_and, BitVec.getLsbD_xor, gb, gb, gb, BitVec.getLsbD_allOnes]
  by_cases h : j < 48
  · by_cases h3 : g j = 1 <;> simp [h, hj, h3]
  · simp [h]
theorem lB_seg {a b : Int} (h1 : 0 ≤ a) (h2 : a ≤ b) (h3 : b ≤ 48) : (1 : Int64) <<< ((iI b).toInt64 &&& 63) - (1 : Int64) <<< ((iI a).toInt64 &&& 63) = lB (fun j => if a ≤ j ∧ j < b then 1 else 0) := by
  have e : ∀ r : Int, 0 ≤ r → iI r = nI r.toNat := fun r h1 => by rw [← iI_nat, Int.toNat_of_nonneg h1]
  have hp : 2 ^ a.toNat ≤ 2 ^ b.toNat := Nat.pow_le_pow_right (by decide) (by omega)
  have hb : 2 ^ b.toNat ≤ 2 ^ 48 := Nat.pow_le_pow_right (by decide) (by omega)
  have ha0 : 0 < 2 ^ a.toNat := Nat.two_pow_pos _
  rw [e a h1, e b (by omega), show (1 : Int64) = lN 1 from rfl, wb_shl 1 (by omega), wb_shl 1 (by omega), Nat.one_mul, Nat.one_mul, lN_sub hp, lB_nat (by omega)]
  apply lB_congE
  intro j j1 j2
  have e2 : 2 ^ b.toNat - 2 ^ a.toNat = 2 ^ a.toNat * (2 ^ (b.toNat - a.toNat) - 1) := by
    rw [Nat.mul_sub, ← Nat.pow_add, show a.toNat + (b.toNat - a.toNat) = b.toNat by omega, Nat.mul_one]
  rw [e2, Nat.testBit_two_pow_mul, Nat.testBit_two_pow_sub_one]
  by_cases h : a ≤ j ∧ j < b
  · rw [if_pos h, if_pos]; simp; omega
  · rw [if_neg h, if_neg]; simp; omega
/-- how many rows there are in a set -/
theorem bc_bN (g : Int → Int) : ∀ k, k ≤ 48 → (bc (bN g 48) k : Int) = sm (fun j => if g j = 1 then 1 else 0) 0 k
  | 0, _ => rfl
  | k + 1, h => by
    rw [sm_snoc, ← bc_bN g k (by omega)]
    show ((bc (bN g 48) k + bN g 48 / 2 ^ k % 2 : Nat) : Int) = _
    rw [bN_bit g (by omega), Int.natCast_add, Int.zero_add]
    congr 1
    split <;> rfl
theorem bc_hi {n : Nat} (hn : n < 2 ^ 48) : ∀ k, bc n (48 + k) = bc n 48
  | 0 => rfl
  | k + 1 => by
    show bc n (48 + k) + n / 2 ^ (48 + k) % 2 = _
    rw [bc_hi hn k, Nat.div_eq_of_lt (Nat.lt_of_lt_of_le hn (Nat.pow_le_pow_right (by decide) (by omega)))]
    rfl
theorem bc_set (g : Int → Int) : (bc (bN g 48) 64 : Int) = sm (fun j => if g j = 1 then 1 else 0) 0 48 := by
  rw [show 64 = 48 + 16 from rfl, bc_hi (bN_lt g 48), bc_bN g 48 (by omega)]
/-! the state: a row of 270 numbers -/
def bat (R : Int → Int) (r : Int) : Int := sm (fun k => R (144 + k)) 1 r.toNat
def blk (R : Int → Int) : Int := 1 + sm (fun k => R (144 + k)) 1 47
/-- the first place from r on that isn't ahead of block k -/
def frx (R : Int → Int) (k : Int) : Int → Nat → Int
  | r, 0 => r
  | r, n + 1 => if bat R r < k then frx R k (r + 1) n else r
def fro (R : Int → Int) (k : Int) : Int := frx R k 0 48
def bok (R : Int → Int) (a b : Int) : Int := sm R a (b - a).toNat
def fv (R : Int → Int) (r : Int) : Int := if R (48 + r) = 1 then 0 else R r
def fld (R : Int → Int) (a b : Int) : Int := sm (fv R) a (b - a).toNat
def i01 (g : Int → Int) (a n : Int) : Prop := ∀ j, 0 ≤ j → j < n → g (a + j) = 0 ∨ g (a + j) = 1
def ibt (g : Int → Int) (a n lo hi : Int) : Prop := ∀ j, 0 ≤ j → j < n → lo ≤ g (a + j) ∧ g (a + j) ≤ hi
/-- what holds of the numbers of each state -/
def inv (R : Int → Int) : Prop := (ibt R 0 48 1 99 ∧ i01 R 48 48 ∧ ibt R 96 48 0 99 ∧ i01 R 144 48 ∧ R 144 = 0 ∧ blk R ≤ 12) ∧
  ((R 192 = 0 ∨ R 192 = 1) ∧ ibt R 193 12 (-2) 4754 ∧ (∀ k, blk R ≤ k → k < 12 → R (193 + k) = 0) ∧ ibt R 205 12 (-2) 2 ∧ inI (R 217) ∧ i01 R 218 48) ∧
  (R 266 = sm (fun k => R (218 + k)) 0 48 ∧ (0 ≤ R 267 ∧ R 267 ≤ 48) ∧ (0 ≤ R 268 ∧ R 268 ≤ 48) ∧ (R 269 = 0 ∨ R 269 = 1))
section INV
variable {R : Int → Int}
theorem inv.wt (i : inv R) {r : Int} (h1 : 0 ≤ r) (h2 : r < 48) : 1 ≤ R r ∧ R r ≤ 99 := by have := i.1.1 r h1 h2; simpa using this
theorem inv.aw (i : inv R) {r : Int} (h1 : 0 ≤ r) (h2 : r < 48) : R (48 + r) = 0 ∨ R (48 + r) = 1 := i.1.2.1 r h1 h2
theorem inv.lo (i : inv R) {r : Int} (h1 : 0 ≤ r) (h2 : r < 48) : 0 ≤ R (96 + r) ∧ R (96 + r) ≤ 99 := i.1.2.2.1 r h1 h2
theorem inv.fe (i : inv R) {r : Int} (h1 : 0 ≤ r) (h2 : r < 48) : R (144 + r) = 0 ∨ R (144 + r) = 1 := i.1.2.2.2.1 r h1 h2
theorem inv.f0 (i : inv R) : R 144 = 0 := i.1.2.2.2.2.1
theorem inv.b12 (i : inv R) : blk R ≤ 12 := i.1.2.2.2.2.2
theorem inv.td (i : inv R) : R 192 = 0 ∨ R 192 = 1 := i.2.1.1
theorem inv.su (i : inv R) {r : Int} (h1 : 0 ≤ r) (h2 : r < 12) : -2 ≤ R (193 + r) ∧ R (193 + r) ≤ 4754 := i.2.1.2.1 r h1 h2
theorem inv.s0 (i : inv R) {k : Int} (h1 : blk R ≤ k) (h2 : k < 12) : R (193 + k) = 0 := i.2.1.2.2.1 k h1 h2
theorem inv.li (i : inv R) {r : Int} (h1 : 0 ≤ r) (h2 : r < 12) : -2 ≤ R (205 + r) ∧ R (205 + r) ≤ 2 := i.2.1.2.2.2.1 r h1 h2
theorem inv.lk (i : inv R) : inI (R 217) := i.2.1.2.2.2.2.1
theorem inv.tk (i : inv R) {r : Int} (h1 : 0 ≤ r) (h2 : r < 48) : R (218 + r) = 0 ∨ R (218 + r) = 1 := i.2.1.2.2.2.2.2 r h1 h2
theorem inv.mn (i : inv R) : R 266 = sm (fun k => R (218 + k)) 0 48 := i.2.2.1
theorem inv.wr (i : inv R) : 0 ≤ R 267 ∧ R 267 ≤ 48 := i.2.2.2.1
theorem inv.mi (i : inv R) : 0 ≤ R 268 ∧ R 268 ≤ 48 := i.2.2.2.2.1
theorem inv.tr (i : inv R) : R 269 = 0 ∨ R 269 = 1 := i.2.2.2.2.2
/-- fences are 0 or 1 -/
def ffe (R : Int → Int) : Prop := i01 R 144 48 ∧ R 144 = 0
theorem inv.ff (i : inv R) : ffe R := ⟨i.1.2.2.2.1, i.f0⟩
theorem bat_0 : bat R 0 = 0 := rfl
theorem bat_s {r : Int} (h : 0 ≤ r) : bat R (r + 1) = bat R r + R (144 + (r + 1)) := by
  unfold bat
  rw [show (r + 1).toNat = r.toNat + 1 by omega, sm_snoc]
  congr 2; omega
theorem bat_mono (i : ffe R) : ∀ (n : Nat) {r : Int}, 0 ≤ r → r + n < 48 → bat R r ≤ bat R (r + n)
  | 0, r, _, _ => by simp
  | n + 1, r, h1, h2 => by
    have := bat_mono i n h1 (by omega)
    rw [show r + ((n + 1 : Nat) : Int) = (r + n) + 1 by omega, bat_s (by omega)]
    have := i.1 (r + n + 1) (by omega) (by omega)
    omega
theorem bat_le (i : ffe R) {a b : Int} (h1 : 0 ≤ a) (h2 : a ≤ b) (h3 : b < 48) : bat R a ≤ bat R b := by
  have := bat_mono i (b - a).toNat h1 (by omega)
  rwa [show a + ((b - a).toNat : Int) = b by omega] at this
theorem bat_47 : bat R 47 = blk R - 1 := by unfold bat blk; simp; omega
theorem blk_1 (i : ffe R) : 1 ≤ blk R := by
  have := bat_le i (a := 0) (b := 47) (by omega) (by omega) (by omega)
  rw [bat_47, bat_0] at this; omega
theorem bat_ge (i : ffe R) {a : Int} (h1 : 0 ≤ a) (h3 : a < 48) : 0 ≤ bat R a := by
  have := bat_le i (a := 0) (b := a) (by omega) (by omega) (by omega)
  rwa [bat_0] at this
theorem bat_lb (i : ffe R) {a : Int} (h1 : 0 ≤ a) (h3 : a < 48) : bat R a ≤ blk R - 1 := by
  have := bat_le i (a := a) (b := 47) (by omega) (by omega) (by omega)
  rwa [bat_47] at this
theorem frx_sp (i : ffe R) (k : Int) : ∀ (n : Nat) (r : Int), 0 ≤ r → r + n = 48 → (∀ q, 0 ≤ q → q < r → bat R q < k) → r ≤ frx R k r n ∧ frx R k r n ≤ 48 ∧ (∀ q, 0 ≤ q → q < frx R k r n → bat R q < k) ∧ (frx R k r n < 48 → k ≤ bat R (frx R k r n))
  | 0, r, h1, h2, h3 => ⟨Int.le_refl _, by show r ≤ 48; omega, h3, by intro h; have : r < 48 := h; omega⟩
  | n + 1, r, h1, h2, h3 => by
    unfold frx
    by_cases c : bat R r < k
    · rw [if_pos c]
      have := frx_sp i k n (r + 1) (by omega) (by omega) (fun q q1 q2 => by
        by_cases e : q = r
        · rw [e]; exact c
        · exact h3 q q1 (by omega))
      exact ⟨by omega, this.2⟩
    · rw [if_neg c]
      exact ⟨Int.le_refl _, by omega, h3, fun _ => by omega⟩
theorem fro_sp (i : ffe R) (k : Int) : 0 ≤ fro R k ∧ fro R k ≤ 48 ∧ (∀ q, 0 ≤ q → q < fro R k → bat R q < k) ∧ (fro R k < 48 → k ≤ bat R (fro R k)) := frx_sp i k 48 0 (by omega) (by omega) (fun q q1 q2 => by omega)
theorem fro_0 (i : ffe R) {k : Int} (hk : k ≤ 0) : fro R k = 0 := by
  unfold fro frx
  rw [if_neg]
  rw [bat_0]; omega
theorem fro_lt (i : ffe R) {k : Int} (h1 : 0 ≤ k) (h2 : k < blk R) : fro R k < 48 ∧ bat R (fro R k) = k ∧ fro R k < fro R (k + 1) := by
  obtain ⟨a1, a2, a3, a4⟩ := fro_sp i k
  obtain ⟨b1, b2, b3, b4⟩ := fro_sp i (k + 1)
  have c1 : fro R k < 48 := by
    by_cases h : fro R k < 48
    · exact h
    · have := a3 47 (by omega) (by omega)
      rw [bat_47] at this; omega
  have c2 : bat R (fro R k) = k := by
    have := a4 c1
    by_cases h : fro R k = 0
    · rw [h, bat_0] at this ⊢; omega
    · have := a3 (fro R k - 1) (by omega) (by omega)
      have e := bat_s (R := R) (r := fro R k - 1) (by omega)
      rw [show fro R k - 1 + 1 = fro R k by omega] at e
      have := i.1 (fro R k) (by omega) c1
      omega
  refine ⟨c1, c2, ?_⟩
  by_cases h : fro R k < fro R (k + 1)
  · exact h
  · have := b4 (by omega)
    have := bat_le i b1 (by omega : fro R (k + 1) ≤ fro R k) c1
    omega
theorem fro_end (i : ffe R) {k : Int} (h2 : blk R ≤ k) : fro R k = 48 := by
  obtain ⟨a1, a2, a3, a4⟩ := fro_sp i k
  by_cases h : fro R k < 48
  · have := a4 h
    have := bat_lb i a1 h
    omega
  · omega
end INV
