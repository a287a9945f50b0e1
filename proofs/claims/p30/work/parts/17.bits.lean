/-! ===== lN n to 2^64: shifts, and, or, masks, one bit ===== -/
theorem wb_tb (n : Nat) : (lN n).toBitVec = BitVec.ofNat 64 n := rfl
theorem wb_inj {a b : Int64} (h : a.toBitVec = b.toBitVec) : a = b := Int64.toBitVec_inj.mp h
theorem wb_tn {n : Nat} (h : n < 2 ^ 64) : (lN n).toBitVec.toNat = n := by rw [wb_tb, BitVec.toNat_ofNat, Nat.mod_eq_of_lt h]
theorem wb_of (x : Int64) : ∃ n, n < 2 ^ 64 ∧ x = lN n := ⟨x.toBitVec.toNat, x.toBitVec.isLt, wb_inj (by rw [wb_tb]; simp)⟩
theorem wb_of32 (x : Int32) : ∃ n, n < 2 ^ 32 ∧ x = nI n := ⟨x.toBitVec.toNat, x.toBitVec.isLt, Int32.toBitVec_inj.mp (by show _ = BitVec.ofNat 32 _; simp)⟩
theorem wb_c : ∀ k, k < 64 → ((nI k).toInt64 &&& 63) = lN k := by decide +kernel
theorem wb_cu : ∀ k, k < 64 → ((nI k).toInt64.toUInt64 &&& Int64.toUInt64 63) = UInt64.ofNat k := by decide +kernel
theorem wb_sm : ∀ k, k < 64 → (BitVec.ofNat 64 k).smod 64 = BitVec.ofNat 64 k := by decide +kernel
theorem wb_pw {a b : Nat} (h : a ≤ b) : 2 ^ b = 2 ^ a * 2 ^ (b - a) := by rw [← Nat.pow_add]; congr 1; omega
theorem wb_lt2 {a b : Nat} (h : a < b) : 2 ^ a < 2 ^ b := Nat.pow_lt_pow_right (by decide) h
theorem wb_mod (n : Nat) : lN n = lN (n % 2 ^ 64) := wb_inj (by rw [wb_tb, wb_tb]; apply BitVec.eq_of_toNat_eq; rw [BitVec.toNat_ofNat, BitVec.toNat_ofNat, Nat.mod_mod])
theorem wb_shr {n k : Nat} (hn : n < 2 ^ 64) (hk : k < 64) : ((lN n).toUInt64 >>> ((nI k).toInt64.toUInt64 &&& Int64.toUInt64 63)).toInt64 = lN (n / 2 ^ k) := by
  rw [wb_cu k hk]
  apply wb_inj
  apply BitVec.eq_of_toNat_eq
  show ((lN n).toUInt64 >>> UInt64.ofNat k).toNat = (BitVec.ofNat 64 _).toNat
  have h1 : (UInt64.ofNat k).toNat = k := by
    show (BitVec.ofNat 64 k).toNat = k
    rw [BitVec.toNat_ofNat, Nat.mod_eq_of_lt (by omega)]
  have h2 : (lN n).toUInt64.toNat = n := wb_tn hn
  rw [UInt64.toNat_shiftRight, h1, h2, Nat.mod_eq_of_lt hk, Nat.shiftRight_eq_div_pow, BitVec.toNat_ofNat, Nat.mod_eq_of_lt (Nat.lt_of_le_of_lt (Nat.div_le_self _ _) hn)]
theorem wb_shl (n : Nat) {k : Nat} (hk : k < 64) : lN n <<< ((nI k).toInt64 &&& 63) = lN (n * 2 ^ k) := by
  rw [wb_c k hk]
  apply wb_inj
  rw [Int64.toBitVec_shiftLeft, wb_tb, wb_tb, wb_tb, wb_sm k hk]
  apply BitVec.eq_of_toNat_eq
  rw [BitVec.shiftLeft_eq', BitVec.toNat_shiftLeft, BitVec.toNat_ofNat, BitVec.toNat_ofNat, BitVec.toNat_ofNat, Nat.mod_eq_of_lt (show k < 2 ^ 64 by omega), Nat.shiftLeft_eq, Nat.mul_mod, Nat.mod_mod, ← Nat.mul_mod]
theorem wb_and {a b : Nat} (ha : a < 2 ^ 64) (hb : b < 2 ^ 64) : lN a &&& lN b = lN (a &&& b) := by
  apply wb_inj
  rw [Int64.toBitVec_and, wb_tb, wb_tb, wb_tb]
  apply BitVec.eq_of_toNat_eq
  rw [BitVec.toNat_and, BitVec.toNat_ofNat, BitVec.toNat_ofNat, BitVec.toNat_ofNat, Nat.mod_eq_of_lt ha, Nat.mod_eq_of_lt hb, Nat.mod_eq_of_lt (Nat.and_lt_two_pow _ hb)]
theorem wb_or {a b : Nat} (ha : a < 2 ^ 64) (hb : b < 2 ^ 64) : lN a ||| lN b = lN (a ||| b) := by
  apply wb_inj
  rw [Int64.toBitVec_or, wb_tb, wb_tb, wb_tb]
  apply BitVec.eq_of_toNat_eq
  rw [BitVec.toNat_or, BitVec.toNat_ofNat, BitVec.toNat_ofNat, BitVec.toNat_ofNat, Nat.mod_eq_of_lt ha, Nat.mod_eq_of_lt hb, Nat.mod_eq_of_lt (Nat.or_lt_two_pow ha hb)]
theorem wb_mask {n k : Nat} (hn : n < 2 ^ 64) (hk : k < 64) : lN n &&& lN (2 ^ k - 1) = lN (n % 2 ^ k) := by
  rw [wb_and hn (by have := wb_lt2 hk; omega), Nat.and_two_pow_sub_one_eq_mod]
theorem wb_a1 {n : Nat} (hn : n < 2 ^ 64) : lN n &&& 1 = lN (n % 2) := wb_mask (k := 1) hn (by decide)
theorem wb_bit {n k : Nat} (hn : n < 2 ^ 64) (hk : k < 64) : ((lN n).toUInt64 >>> ((nI k).toInt64.toUInt64 &&& Int64.toUInt64 63)).toInt64 &&& 1 = lN (n / 2 ^ k % 2) := by
  rw [wb_shr hn hk, wb_a1 (Nat.lt_of_le_of_lt (Nat.div_le_self _ _) hn)]
theorem wb_xor {q k : Nat} (hk : k < 63) (h : 2 ^ k ≤ q) (h2 : q < 2 ^ (k + 1)) : lN q ^^^ lN (2 ^ k) = lN (q - 2 ^ k) := by
  obtain ⟨r, rfl⟩ : ∃ r, q = 2 ^ k + r := ⟨q - 2 ^ k, by omega⟩
  have hr : r < 2 ^ k := by rw [Nat.pow_succ] at h2; omega
  have hx : (2 ^ k + r) ^^^ 2 ^ k = r := by
    apply Nat.eq_of_testBit_eq
    intro i
    rw [Nat.testBit_xor, Nat.testBit_two_pow]
    rcases Nat.lt_trichotomy i k with h | h | h
    · rw [Nat.testBit_two_pow_add_gt h]
      simp [show ¬ k = i by omega]
    · subst h
      rw [Nat.testBit_two_pow_add_eq]
      simp
    · have a1 : 2 ^ (k + 1) ≤ 2 ^ i := Nat.pow_le_pow_right (by decide) h
      rw [Nat.testBit_lt_two_pow (show 2 ^ k + r < 2 ^ i by omega), Nat.testBit_lt_two_pow (show r < 2 ^ i by omega)]
      simp [show ¬ k = i by omega]
  have b1 := wb_lt2 (show k + 1 < 64 by omega)
  have b2 := wb_lt2 (show k < 64 by omega)
  apply wb_inj
  rw [Int64.toBitVec_xor, wb_tb, wb_tb, wb_tb]
  apply BitVec.eq_of_toNat_eq
  rw [BitVec.toNat_xor, BitVec.toNat_ofNat, BitVec.toNat_ofNat, BitVec.toNat_ofNat, Nat.mod_eq_of_lt (by omega : 2 ^ k + r < 2 ^ 64), Nat.mod_eq_of_lt b2, hx, Nat.add_sub_cancel_left, Nat.mod_eq_of_lt (by omega)]
/-! ===== how many bits: Long.bitCount ===== -/
theorem iI_nat (k : Nat) : iI (k : Int) = nI k := Int32.ofInt_eq_ofNat
/-- the bits below k of n, how many -/
def bc (n : Nat) : Nat → Nat
  | 0 => 0
  | k + 1 => bc n k + n / 2 ^ k % 2
def bM (c : Nat) : Nat → Nat
  | 0 => 0
  | k + 1 => 256 * bM c k + c
def bB (f : Nat → Nat) : Nat → Nat → Nat
  | 0, _ => 0
  | k + 1, n => f (n % 256) + 256 * bB f k (n / 256)
def s1 (b : Nat) : Nat := b - (b / 2 &&& 85)
def s2 (b : Nat) : Nat := (b &&& 51) + (b / 4 &&& 51)
def s3 (b : Nat) : Nat := (b + b / 16) % 16
theorem and_byte {m a K c : Nat} (ha : a < 256) (hc : c < 256) : (256 * m + a) &&& (256 * K + c) = 256 * (m &&& K) + (a &&& c) := by
  have hac : a &&& c < 2 ^ 8 := Nat.lt_of_le_of_lt Nat.and_le_left ha
  apply Nat.eq_of_testBit_eq
  intro j
  rw [Nat.testBit_and, show 256 = 2 ^ 8 from rfl, Nat.testBit_two_pow_mul_add _ ha, Nat.testBit_two_pow_mul_add _ hc, Nat.testBit_two_pow_mul_add _ hac]
  split
  · rw [Nat.testBit_and]
  · rw [Nat.testBit_and]
theorem s1_low : ∀ a, a < 256 → ∀ t, t < 2 → (128 * t + a / 2) &&& 85 = a / 2 &&& 85 := by decide +kernel
theorem s2_low : ∀ a, a < 256 → ∀ t, t < 4 → (64 * t + a / 4) &&& 51 = a / 4 &&& 51 := by decide +kernel
theorem s_all : ∀ b, b < 256 → s1 b < 256 ∧ s2 (s1 b) < 256 ∧ s2 (s1 b) % 16 ≤ 4 ∧ s2 (s1 b) / 16 ≤ 4 ∧ s3 (s2 (s1 b)) = bc b 8 ∧ bc b 8 ≤ 8 := by decide +kernel
theorem bB_1 : ∀ (k n : Nat), n < 256 ^ k → n - (n / 2 &&& bM 85 k) = bB s1 k n
  | 0, n, h => by
    have : n = 0 := by simpa using h
    subst this; rfl
  | k + 1, n, h => by
    have hm : n / 256 < 256 ^ k := by rw [Nat.pow_succ] at h; omega
    have ih := bB_1 k (n / 256) hm
    show n - (n / 2 &&& (256 * bM 85 k + 85)) = s1 (n % 256) + 256 * bB s1 k (n / 256)
    rw [← ih]
    have e1 : n / 2 = 256 * (n / 256 / 2) + (128 * (n / 256 % 2) + n % 256 / 2) := by omega
    have e2 := s1_low (n % 256) (Nat.mod_lt _ (by decide)) (n / 256 % 2) (Nat.mod_lt _ (by decide))
    rw [e1, and_byte (by omega) (by decide), e2]
    unfold s1
    have h1 : n / 256 / 2 &&& bM 85 k ≤ n / 256 / 2 := Nat.and_le_left
    have h2 : n % 256 / 2 &&& 85 ≤ n % 256 / 2 := Nat.and_le_left
    omega
theorem bB_2 : ∀ (k n : Nat), n < 256 ^ k → (n &&& bM 51 k) + (n / 4 &&& bM 51 k) = bB s2 k n
  | 0, n, h => by
    have : n = 0 := by simpa using h
    subst this; rfl
  | k + 1, n, h => by
    have hm : n / 256 < 256 ^ k := by rw [Nat.pow_succ] at h; omega
    have ih := bB_2 k (n / 256) hm
    show (n &&& (256 * bM 51 k + 51)) + (n / 4 &&& (256 * bM 51 k + 51)) = s2 (n % 256) + 256 * bB s2 k (n / 256)
    rw [← ih]
    have e0 : n = 256 * (n / 256) + n % 256 := by omega
    have e1 : n / 4 = 256 * (n / 256 / 4) + (64 * (n / 256 % 4) + n % 256 / 4) := by omega
    have e2 := s2_low (n % 256) (Nat.mod_lt _ (by decide)) (n / 256 % 4) (Nat.mod_lt _ (by decide))
    have e3 : n &&& (256 * bM 51 k + 51) = 256 * (n / 256 &&& bM 51 k) + (n % 256 &&& 51) := by
      rw [← and_byte (Nat.mod_lt _ (by decide)) (by decide), ← e0]
    rw [e3, e1, and_byte (by omega) (by decide), e2]
    unfold s2
    omega
theorem bB_mod {f : Nat → Nat} {k n : Nat} (hf : f (n % 256) < 256) : bB f (k + 1) n % 256 = f (n % 256) ∧ bB f (k + 1) n / 256 = bB f k (n / 256) := by
  show (f (n % 256) + 256 * bB f k (n / 256)) % 256 = f (n % 256) ∧ (f (n % 256) + 256 * bB f k (n / 256)) / 256 = bB f k (n / 256)
  omega
theorem bB_3 : ∀ (k n : Nat), (∀ j, n / 256 ^ j % 256 % 16 ≤ 4 ∧ n / 256 ^ j % 256 / 16 ≤ 4) → n < 256 ^ k → (n + n / 16) &&& bM 15 k = bB s3 k n
  | 0, n, _, h => by
    have : n = 0 := by simpa using h
    subst this; rfl
  | k + 1, n, hb, h => by
    have hm : n / 256 < 256 ^ k := by rw [Nat.pow_succ] at h; omega
    have ih := bB_3 k (n / 256) (fun j => by have := hb (j + 1); rwa [Nat.pow_succ, Nat.mul_comm, ← Nat.div_div_eq_div_mul] at this) hm
    show (n + n / 16) &&& (256 * bM 15 k + 15) = s3 (n % 256) + 256 * bB s3 k (n / 256)
    rw [← ih]
    have h0 := hb 0
    have h1 := hb 1
    rw [Nat.pow_zero, Nat.div_one] at h0
    rw [Nat.pow_one] at h1
    have e1 : n + n / 16 = 256 * (n / 256 + n / 256 / 16) + (16 * (n / 256 % 16) + (n % 256 + n % 256 / 16)) := by omega
    rw [e1, and_byte (by omega) (by decide)]
    have e2 : (16 * (n / 256 % 16) + (n % 256 + n % 256 / 16)) &&& 15 = (n % 256 + n % 256 / 16) % 16 := by
      rw [show (15 : Nat) = 2 ^ 4 - 1 from rfl, Nat.and_two_pow_sub_one_eq_mod]
      omega
    rw [e2]
    unfold s3
    omega
theorem bB_lt {f : Nat → Nat} (hf : ∀ b, b < 256 → f b < 256) : ∀ (k n : Nat), bB f k n < 256 ^ k
  | 0, n => by simp [bB]
  | k + 1, n => by
    have := bB_lt hf k (n / 256)
    have h2 := hf (n % 256) (Nat.mod_lt _ (by decide))
    unfold bB
    rw [Nat.pow_succ]
    omega
theorem bB_comp {f g : Nat → Nat} (hg : ∀ b, b < 256 → g b < 256) : ∀ (k n : Nat), bB f k (bB g k n) = bB (fun b => f (g b)) k n
  | 0, n => rfl
  | k + 1, n => by
    have h2 := hg (n % 256) (Nat.mod_lt _ (by decide))
    obtain ⟨e1, e2⟩ := bB_mod (f := g) (k := k) (n := n) h2
    show f (bB g (k + 1) n % 256) + 256 * bB f k (bB g (k + 1) n / 256) = _
    rw [e1, e2, bB_comp hg k]
    rfl
theorem bB_cong {f g : Nat → Nat} (h : ∀ b, b < 256 → f b = g b) : ∀ (k n : Nat), bB f k n = bB g k n
  | 0, n => rfl
  | k + 1, n => by
    show f (n % 256) + 256 * bB f k (n / 256) = g (n % 256) + 256 * bB g k (n / 256)
    rw [h _ (Nat.mod_lt _ (by decide)), bB_cong h k]
theorem bB_at {f : Nat → Nat} (hf : ∀ b, b < 256 → f b < 256) : ∀ (k n j : Nat), bB f k n / 256 ^ j % 256 = if j < k then f (n / 256 ^ j % 256) else 0
  | 0, n, j => by simp [bB]
  | k + 1, n, 0 => by
    rw [Nat.pow_zero, Nat.div_one, Nat.div_one, if_pos (Nat.succ_pos k)]
    exact (bB_mod (hf _ (Nat.mod_lt _ (by decide)))).1
  | k + 1, n, j + 1 => by
    rw [Nat.pow_succ, Nat.mul_comm, ← Nat.div_div_eq_div_mul, ← Nat.div_div_eq_div_mul, (bB_mod (hf _ (Nat.mod_lt _ (by decide)))).2, bB_at hf k]
    by_cases h : j < k
    · rw [if_pos h, if_pos (by omega)]
    · rw [if_neg h, if_neg (by omega)]
theorem bc_8 (n : Nat) : bc n 8 = bc (n % 256) 8 := by
  unfold bc bc bc bc bc bc bc bc bc
  omega
theorem bc_split (n : Nat) : ∀ k, bc n (8 + k) = bc (n % 256) 8 + bc (n / 256) k
  | 0 => bc_8 n
  | k + 1 => by
    show bc n (8 + k) + n / 2 ^ (8 + k) % 2 = bc (n % 256) 8 + (bc (n / 256) k + n / 256 / 2 ^ k % 2)
    rw [bc_split n k, Nat.pow_add, show 2 ^ 8 = 256 from rfl, ← Nat.div_div_eq_div_mul]
    omega
/-- what Long.bitCount computes -/
theorem bc_swar {n x1 x2 x3 x4 x5 x6 : Nat} (hn : n < 2 ^ 64) (e1 : x1 = n - (n / 2 &&& 6148914691236517205)) (e2 : x2 = (x1 &&& 3689348814741910323) + (x1 / 4 &&& 3689348814741910323)) (e3 : x3 = (x2 + x2 / 16) &&& 1085102592571150095) (e4 : x4 = x3 + x3 / 2 ^ 8) (e5 : x5 = x4 + x4 / 2 ^ 16) (e6 : x6 = x5 + x5 / 2 ^ 32) :
    x1 < 2 ^ 64 ∧ x2 < 2 ^ 64 ∧ x2 + x2 / 16 < 2 ^ 64 ∧ x3 < 2 ^ 60 ∧ x4 < 2 ^ 61 ∧ x5 < 2 ^ 62 ∧ x6 < 2 ^ 63 ∧ x6 % 128 = bc n 64 := by
  have a1 : ∀ b, b < 256 → s1 b < 256 := fun b h => (s_all b h).1
  have a2 : ∀ b, b < 256 → s2 (s1 b) < 256 := fun b h => (s_all b h).2.1
  have f1 : x1 = bB s1 8 n := by rw [e1]; exact bB_1 8 n hn
  have l1 : x1 < 256 ^ 8 := by rw [f1]; exact bB_lt a1 8 n
  have f2 : x2 = bB (fun b => s2 (s1 b)) 8 n := by
    rw [← bB_comp a1, ← f1, e2]
    exact bB_2 8 x1 l1
  have l2 : x2 < 256 ^ 8 := by rw [f2]; exact bB_lt a2 8 n
  have nb : ∀ j, x2 / 256 ^ j % 256 % 16 ≤ 4 ∧ x2 / 256 ^ j % 256 / 16 ≤ 4 := by
    intro j
    rw [f2, bB_at a2]
    split
    · exact ⟨(s_all _ (Nat.mod_lt _ (by decide))).2.2.1, (s_all _ (Nat.mod_lt _ (by decide))).2.2.2.1⟩
    · exact ⟨by decide, by decide⟩
  have f3 : x3 = bB (fun b => bc b 8) 8 n := by
    rw [bB_cong (g := fun b => s3 (s2 (s1 b))) (fun b h => (s_all b h).2.2.2.2.1.symm) 8 n, ← bB_comp (f := s3) a2, ← f2, e3]
    exact bB_3 8 x2 nb l2
  have hsum : x2 + x2 / 16 < 2 ^ 64 := by
    have := (nb 7).2
    have h7 : x2 / 256 ^ 7 < 256 := by omega
    omega
  have key : ∀ m, bc (m % 256) 8 ≤ 8 := fun m => (s_all _ (Nat.mod_lt _ (by decide))).2.2.2.2.2
  have f4 : bc n 64 = bc (n % 256) 8 + (bc (n / 256 % 256) 8 + (bc (n / 256 / 256 % 256) 8 + (bc (n / 256 / 256 / 256 % 256) 8 + (bc (n / 256 / 256 / 256 / 256 % 256) 8 + (bc (n / 256 / 256 / 256 / 256 / 256 % 256) 8 + (bc (n / 256 / 256 / 256 / 256 / 256 / 256 % 256) 8 + (bc (n / 256 / 256 / 256 / 256 / 256 / 256 / 256 % 256) 8 + 0))))))) := by
    have t0 : bc n 64 = _ := bc_split n 56
    have t1 : bc (n / 256) 56 = _ := bc_split (n / 256) 48
    have t2 : bc (n / 256 / 256) 48 = _ := bc_split (n / 256 / 256) 40
    have t3 : bc (n / 256 / 256 / 256) 40 = _ := bc_split (n / 256 / 256 / 256) 32
    have t4 : bc (n / 256 / 256 / 256 / 256) 32 = _ := bc_split (n / 256 / 256 / 256 / 256) 24
    have t5 : bc (n / 256 / 256 / 256 / 256 / 256) 24 = _ := bc_split (n / 256 / 256 / 256 / 256 / 256) 16
    have t6 : bc (n / 256 / 256 / 256 / 256 / 256 / 256) 16 = _ := bc_split (n / 256 / 256 / 256 / 256 / 256 / 256) 8
    have t7 : bc (n / 256 / 256 / 256 / 256 / 256 / 256 / 256) 8 = _ := bc_split (n / 256 / 256 / 256 / 256 / 256 / 256 / 256) 0
    rw [t0, t1, t2, t3, t4, t5, t6, t7]
    rfl
  have f5 : x3 = bc (n % 256) 8 + 256 * (bc (n / 256 % 256) 8 + 256 * (bc (n / 256 / 256 % 256) 8 + 256 * (bc (n / 256 / 256 / 256 % 256) 8 + 256 * (bc (n / 256 / 256 / 256 / 256 % 256) 8 + 256 * (bc (n / 256 / 256 / 256 / 256 / 256 % 256) 8 + 256 * (bc (n / 256 / 256 / 256 / 256 / 256 / 256 % 256) 8 + 256 * (bc (n / 256 / 256 / 256 / 256 / 256 / 256 / 256 % 256) 8 + 256 * 0))))))) := f3
  have k0 := key n
  have k1 := key (n / 256)
  have k2 := key (n / 256 / 256)
  have k3 := key (n / 256 / 256 / 256)
  have k4 := key (n / 256 / 256 / 256 / 256)
  have k5 := key (n / 256 / 256 / 256 / 256 / 256)
  have k6 := key (n / 256 / 256 / 256 / 256 / 256 / 256)
  have k7 := key (n / 256 / 256 / 256 / 256 / 256 / 256 / 256)
  have fin : ∀ c0 c1 c2 c3 c4 c5 c6 c7 : Nat, c0 ≤ 8 → c1 ≤ 8 → c2 ≤ 8 → c3 ≤ 8 → c4 ≤ 8 → c5 ≤ 8 → c6 ≤ 8 → c7 ≤ 8 →
      x3 = c0 + 256 * (c1 + 256 * (c2 + 256 * (c3 + 256 * (c4 + 256 * (c5 + 256 * (c6 + 256 * (c7 + 256 * 0))))))) →
      x3 < 2 ^ 60 ∧ x4 < 2 ^ 61 ∧ x5 < 2 ^ 62 ∧ x6 < 2 ^ 63 ∧ x6 % 128 = c0 + (c1 + (c2 + (c3 + (c4 + (c5 + (c6 + (c7 + 0))))))) := by
    clear f4 f5 k0 k1 k2 k3 k4 k5 k6 k7 key hsum f3 nb l2 f2 l1 f1 a2 a1 e3 e2 e1 hn
    intro c0 c1 c2 c3 c4 c5 c6 c7 k0 k1 k2 k3 k4 k5 k6 k7 f
    have g4 : x4 = (c0 + c1) + 256 * ((c1 + c2) + 256 * ((c2 + c3) + 256 * ((c3 + c4) + 256 * ((c4 + c5) + 256 * ((c5 + c6) + 256 * ((c6 + c7) + 256 * c7)))))) := by
      have q : x3 / 2 ^ 8 = c1 + 256 * (c2 + 256 * (c3 + 256 * (c4 + 256 * (c5 + 256 * (c6 + 256 * c7))))) := by omega
      rw [e4, q]; omega
    have g5 : x5 = (c0 + c1 + c2 + c3) + 256 * ((c1 + c2 + c3 + c4) + 256 * ((c2 + c3 + c4 + c5) + 256 * ((c3 + c4 + c5 + c6) + 256 * ((c4 + c5 + c6 + c7) + 256 * ((c5 + c6 + c7) + 256 * ((c6 + c7) + 256 * c7)))))) := by
      have q : x4 / 2 ^ 16 = (c2 + c3) + 256 * ((c3 + c4) + 256 * ((c4 + c5) + 256 * ((c5 + c6) + 256 * ((c6 + c7) + 256 * c7)))) := by clear e4 f; omega
      rw [e5, q, g4]; clear e4 e5 e6 f q g4; omega
    have g6 : x6 = (c0 + c1 + c2 + c3 + c4 + c5 + c6 + c7) + 256 * ((c1 + c2 + c3 + c4 + (c5 + c6 + c7)) + 256 * ((c2 + c3 + c4 + c5 + (c6 + c7)) + 256 * ((c3 + c4 + c5 + c6 + c7) + 256 * ((c4 + c5 + c6 + c7) + 256 * ((c5 + c6 + c7) + 256 * ((c6 + c7) + 256 * c7)))))) := by
      have q : x5 / 2 ^ 32 = (c4 + c5 + c6 + c7) + 256 * ((c5 + c6 + c7) + 256 * ((c6 + c7) + 256 * c7)) := by clear e4 e5 g4 f; omega
      rw [e6, q, g5]; clear e4 e5 e6 f q g4 g5; omega
    clear e4 e5 e6
    refine ⟨by clear g4 g5 g6; omega, by clear f g5 g6; omega, by clear f g4 g6; omega, by clear f g4 g5; omega, by clear f g4 g5; omega⟩
  obtain ⟨u1, u2, u3, u4, u5⟩ := fin _ _ _ _ _ _ _ _ k0 k1 k2 k3 k4 k5 k6 k7 f5
  exact ⟨l1, l2, hsum, u1, u2, u3, u4, u5.trans f4.symm⟩
theorem ax_nameL {d m pc : Nat} {ls st : List Value} {h : am_H} {Q : am_R → am_H → Prop} {x : Int64} (k : ∀ y : Int64, y = x → am_X d m pc ls (.long y :: st) h Q) : am_X d m pc ls (.long x :: st) h Q := k x rfl
theorem fa_mask_ (n k : Nat) : nI n &&& nI (2 ^ k - 1) = nI (n % 2 ^ k) := by
  have e : ∀ a b : Nat, nI a &&& nI b = nI (a &&& b) := fun a b => by
    unfold nI
    rw [← Int32.toBitVec_inj, Int32.toBitVec_and]
    exact (BitVec.ofNat_and).symm
  rw [e, Nat.and_two_pow_sub_one_eq_mod]
theorem c_231 {h : am_H} {n : Nat} (hn : n < 2 ^ 64) : am_X 0 231 0 (am_ent 231 [.long (lN n)]) [] h (fun r h' => rI r (bc n 64) ∧ h' = h) := by
  show am_X 0 231 0 [.long (lN n), am_u] [] h _
  refine ax_lload_n f231_0 rfl ?_
  refine ax_lload_n f231_1 rfl ?_
  refine ax_iconst f231_2 ?_
  refine ax_lushr f231_3 ?_
  refine ax_ldc2_w f231_4 ?_
  refine ax_land f231_7 ?_
  refine ax_lsub f231_8 ?_
  refine ax_nameL (fun y9 e9 => ?_)
  refine ax_lstore_n f231_9 (Nat.le_of_ble_eq_true rfl) rfl ?_
  refine ax_lload_n f231_10 rfl ?_
  refine ax_ldc2_w f231_11 ?_
  refine ax_land f231_14 ?_
  refine ax_lload_n f231_15 rfl ?_
  refine ax_iconst f231_16 ?_
  refine ax_lushr f231_17 ?_
  refine ax_ldc2_w f231_18 ?_
  refine ax_land f231_21 ?_
  refine ax_ladd f231_22 ?_
  refine ax_nameL (fun y23 e23 => ?_)
  refine ax_lstore_n f231_23 (Nat.le_of_ble_eq_true rfl) rfl ?_
  refine ax_lload_n f231_24 rfl ?_
  refine ax_lload_n f231_25 rfl ?_
  refine ax_iconst f231_26 ?_
  refine ax_lushr f231_27 ?_
  refine ax_ladd f231_28 ?_
  refine ax_ldc2_w f231_29 ?_
  refine ax_land f231_32 ?_
  refine ax_nameL (fun y33 e33 => ?_)
  refine ax_lstore_n f231_33 (Nat.le_of_ble_eq_true rfl) rfl ?_
  refine ax_lload_n f231_34 rfl ?_
  refine ax_lload_n f231_35 rfl ?_
  refine ax_bipush f231_36 ?_
  refine ax_lushr f231_38 ?_
  refine ax_ladd f231_39 ?_
  refine ax_nameL (fun y40 e40 => ?_)
  refine ax_lstore_n f231_40 (Nat.le_of_ble_eq_true rfl) rfl ?_
  refine ax_lload_n f231_41 rfl ?_
  refine ax_lload_n f231_42 rfl ?_
  refine ax_bipush f231_43 ?_
  refine ax_lushr f231_45 ?_
  refine ax_ladd f231_46 ?_
  refine ax_nameL (fun y47 e47 => ?_)
  refine ax_lstore_n f231_47 (Nat.le_of_ble_eq_true rfl) rfl ?_
  refine ax_lload_n f231_48 rfl ?_
  refine ax_lload_n f231_49 rfl ?_
  refine ax_bipush f231_50 ?_
  refine ax_lushr f231_52 ?_
  refine ax_ladd f231_53 ?_
  refine ax_nameL (fun y54 e54 => ?_)
  refine ax_lstore_n f231_54 (Nat.le_of_ble_eq_true rfl) rfl ?_
  refine ax_lload_n f231_55 rfl ?_
  refine ax_l2i f231_56 ?_
  refine ax_bipush f231_57 ?_
  refine ax_iand f231_59 ?_
  refine ax_ireturn f231_60 rfl rfl ?_
  refine ⟨rI_zof ?_, rfl⟩
  have s1e : ∀ (a k : Nat) (z : Int), z = k → k < 64 → a < 2 ^ 64 → ((lN a).toUInt64 >>> ((iI z).toInt64.toUInt64 &&& Int64.toUInt64 63)).toInt64 = lN (a / 2 ^ k) := fun a k z hz hk ha => by rw [hz, iI_nat]; exact wb_shr ha hk
  obtain ⟨x1, g1⟩ : ∃ x, x = n - (n / 2 &&& 6148914691236517205) := ⟨_, rfl⟩
  obtain ⟨x2, g2⟩ : ∃ x, x = (x1 &&& 3689348814741910323) + (x1 / 4 &&& 3689348814741910323) := ⟨_, rfl⟩
  obtain ⟨x3, g3⟩ : ∃ x, x = (x2 + x2 / 16) &&& 1085102592571150095 := ⟨_, rfl⟩
  obtain ⟨x4, g4⟩ : ∃ x, x = x3 + x3 / 2 ^ 8 := ⟨_, rfl⟩
  obtain ⟨x5, g5⟩ : ∃ x, x = x4 + x4 / 2 ^ 16 := ⟨_, rfl⟩
  obtain ⟨x6, g6⟩ : ∃ x, x = x5 + x5 / 2 ^ 32 := ⟨_, rfl⟩
  obtain ⟨l1, l2, l3, l4, l5, l6, l7, hres⟩ := bc_swar hn g1 g2 g3 g4 g5 g6
  have a1 : n / 2 &&& 6148914691236517205 ≤ n := Nat.le_trans Nat.and_le_left (Nat.div_le_self _ _)
  have r1 : y9 = lN x1 := by
    rw [e9, s1e n 1 1 rfl (by decide) hn, show (6148914691236517205 : Int64) = lN 6148914691236517205 from rfl, wb_and (by omega) (by decide), lN_sub a1, ← g1]
  have r2 : y23 = lN x2 := by
    rw [e23, r1, s1e x1 2 2 rfl (by decide) l1, show (3689348814741910323 : Int64) = lN 3689348814741910323 from rfl, wb_and l1 (by decide), wb_and (by omega) (by decide), lN_add, ← g2]
  have r3 : y33 = lN x3 := by
    rw [e33, r2, s1e x2 4 4 rfl (by decide) l2, show (1085102592571150095 : Int64) = lN 1085102592571150095 from rfl, lN_add, wb_and l3 (by decide), ← g3]
  have r4 : y40 = lN x4 := by
    rw [e40, r3, s1e x3 8 8 rfl (by decide) (by omega), lN_add, ← g4]
  have r5 : y47 = lN x5 := by
    rw [e47, r4, s1e x4 16 16 rfl (by decide) (by omega), lN_add, ← g5]
  have r6 : y54 = lN x6 := by
    rw [e54, r5, s1e x5 32 32 rfl (by decide) (by omega), lN_add, ← g6]
  rw [r6, lN_i, show iI 127 = nI (2 ^ 7 - 1) from rfl, fa_mask_, ← hres, iI_nat]
