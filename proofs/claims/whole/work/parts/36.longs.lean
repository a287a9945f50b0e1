/-! ===== scripts as longs: the class ===== -/
section LON
theorem lN_tiS {a : Nat} (h : a < 2 ^ 63) : (lN a).toInt = a := by
  show (BitVec.ofNat 64 a).toInt = a
  have e : (BitVec.ofNat 64 a).toNat = a := by rw [BitVec.toNat_ofNat, Nat.mod_eq_of_lt (by omega)]
  rw [BitVec.toInt_eq_toNat_of_lt (by rw [e]; omega), e]
theorem lN_div {a b : Nat} (ha : a < 2 ^ 63) (hb : b < 2 ^ 63) (h0 : 0 < b) : lN a / lN b = lN (a / b) := by
  have h1 : a / b < 2 ^ 63 := Nat.lt_of_le_of_lt (Nat.div_le_self _ _) ha
  rw [← Int64.toInt_inj, Int64.toInt_div, lN_tiS ha, lN_tiS hb, lN_tiS h1]
  rw [Int.tdiv_eq_ediv_of_nonneg (by omega), ← Int.natCast_ediv]
  generalize a / b = c at *
  exact Int.bmod_eq_of_le (by omega) (by omega)
theorem lN_rem {a b : Nat} (ha : a < 2 ^ 63) (hb : b < 2 ^ 63) (h0 : 0 < b) : lN a - lN a / lN b * lN b = lN (a % b) := by
  rw [lN_div ha hb h0, lN_mul, lN_sub (Nat.div_mul_le_self a b)]
  congr 1
  have := Nat.div_add_mod a b
  rw [Nat.mul_comm] at this
  omega
theorem lN_lcz {a b : Nat} (ha : a < 2 ^ 63) (hb : b < 2 ^ 63) : lcz (lN a) (lN b) = if b < a then 1 else if a = b then 0 else -1 := by
  unfold lcz
  have e1 : lN b < lN a ↔ b < a := by rw [Int64.lt_iff_toInt_lt, lN_tiS ha, lN_tiS hb]; omega
  have e2 : lN a = lN b ↔ a = b := ⟨fun h => lN_inj (by omega) (by omega) h, fun h => by rw [h]⟩
  simp only [e1, e2]
theorem pw5 : ∀ k, k ≤ 3 → 100000 ^ k < 2 ^ 63 := by decide
theorem lp_77 {d m : Nat} {h : am_H} {Q : am_R → am_H → Prop} : ∀ (n i : Nat), i + n = m → m ≤ 3 → Q (.inl (some (.long (lN (100000 ^ m))))) h → am_X d 77 4 [.int (iI m), .long (lN (100000 ^ i)), am_u, .int (iI i)] [] h Q
  | 0, i, h1, hm, k => by
    have h1 : i = m := by omega
    subst h1
    refine ax_iload_n f77_4 rfl ?_
    refine ax_iload_n f77_5 rfl ?_
    refine ax_icmp_ge f77_6 rfl ⟨by omega, by omega⟩ ⟨by omega, by omega⟩ (fun q6 => ?_) (fun q6 => absurd q6 (by omega))
    refine ax_lload_n f77_21 rfl ?_
    refine ax_lreturn f77_22 rfl ?_
    exact k
  | n + 1, i, h1, hm, k => by
    refine ax_iload_n f77_4 rfl ?_
    refine ax_iload_n f77_5 rfl ?_
    refine ax_icmp_ge f77_6 rfl ⟨by omega, by omega⟩ ⟨by omega, by omega⟩ (fun q6 => absurd q6 (by omega)) (fun q6 => ?_)
    refine ax_lload_n f77_9 rfl ?_
    refine ax_ldc2_w f77_10 ?_
    rw [show (100000 : Int64) = lN 100000 from rfl]
    refine ax_lmul f77_13 ?_
    rw [lN_mul]
    refine ax_lstore_n (ls' := [_, _, _, _]) f77_14 (Nat.le_of_ble_eq_true rfl) rfl ?_
    refine ax_iinc (ls' := [_, _, _, .int (iI ((i + 1 : Nat) : Int))]) f77_15 rfl (Nat.le_of_ble_eq_true rfl) (by rw [Int.natCast_add]; rfl) ?_
    refine ax_goto f77_18 rfl ?_
    rw [← Nat.pow_succ]
    exact lp_77 n (i + 1) (by omega) hm k
theorem c_77 {h : am_H} {m : Nat} (hm : m ≤ 3) : am_X 0 77 0 (am_ent 77 [.int (iI m)]) [] h (fun r h' => rL r (lN (100000 ^ m)) ∧ h' = h) := by
  show am_X 0 77 0 [.int (iI m), am_u, am_u, am_u] [] h _
  refine ax_lconst f77_0 ?_
  refine ax_lstore_n (ls' := [_, _, _, _]) f77_1 (Nat.le_of_ble_eq_true rfl) rfl ?_
  refine ax_iconst f77_2 ?_
  refine ax_istore_n (ls' := [_, _, _, _]) f77_3 (Nat.le_of_ble_eq_true rfl) rfl ?_
  exact lp_77 (d := 0) m 0 (by omega) hm ⟨rfl, rfl⟩
theorem lp_78 {d N m : Nat} {h : am_H} {Q : am_R → am_H → Prop} (hN : N < 2 ^ 63) : ∀ (n i : Nat), i + n = m → m ≤ 3 → Q (.inl (some (.int (lN (N / 100000 ^ m % 100000)).toInt32))) h → am_X d 78 5 [.long (lN N), am_u, .int (iI m), .long (lN (N / 100000 ^ i)), am_u, .int (iI i)] [] h Q
  | 0, i, h1, hm, k => by
    have h1 : i = m := by omega
    subst h1
    refine ax_iload f78_5 rfl ?_
    refine ax_iload_n f78_7 rfl ?_
    refine ax_icmp_ge f78_8 rfl ⟨by omega, by omega⟩ ⟨by omega, by omega⟩ (fun q8 => ?_) (fun q8 => absurd q8 (by omega))
    refine ax_lload_n f78_23 rfl ?_
    refine ax_ldc2_w f78_24 ?_
    rw [show (100000 : Int64) = lN 100000 from rfl]
    refine ax_lrem f78_27 (by decide) ?_
    rw [lN_rem (Nat.lt_of_le_of_lt (Nat.div_le_self _ _) hN) (by decide) (by decide)]
    refine ax_l2i f78_28 ?_
    refine ax_ireturn f78_29 rfl rfl ?_
    exact k
  | n + 1, i, h1, hm, k => by
    refine ax_iload f78_5 rfl ?_
    refine ax_iload_n f78_7 rfl ?_
    refine ax_icmp_ge f78_8 rfl ⟨by omega, by omega⟩ ⟨by omega, by omega⟩ (fun q8 => absurd q8 (by omega)) (fun q8 => ?_)
    refine ax_lload_n f78_11 rfl ?_
    refine ax_ldc2_w f78_12 ?_
    rw [show (100000 : Int64) = lN 100000 from rfl]
    refine ax_ldiv f78_15 (by decide) ?_
    rw [lN_div (Nat.lt_of_le_of_lt (Nat.div_le_self _ _) hN) (by decide) (by decide), Nat.div_div_eq_div_mul, ← Nat.pow_succ]
    refine ax_lstore_n (ls' := [_, _, _, _, _, _]) f78_16 (Nat.le_of_ble_eq_true rfl) rfl ?_
    refine ax_iinc (ls' := [_, _, _, _, _, .int (iI ((i + 1 : Nat) : Int))]) f78_17 rfl (Nat.le_of_ble_eq_true rfl) (by rw [Int.natCast_add]; rfl) ?_
    refine ax_goto f78_20 rfl ?_
    exact lp_78 hN n (i + 1) (by omega) hm k
theorem c_78 {h : am_H} {N m : Nat} (hN : N < 2 ^ 63) (hm : m ≤ 3) : am_X 0 78 0 (am_ent 78 [.long (lN N), .int (iI m)]) [] h (fun r h' => rI r ((N / 100000 ^ m % 100000 : Nat) : Int) ∧ h' = h) := by
  show am_X 0 78 0 [.long (lN N), am_u, .int (iI m), am_u, am_u, am_u] [] h _
  refine ax_lload_n f78_0 rfl ?_
  refine ax_lstore_n (ls' := [_, _, _, _, _, _]) f78_1 (Nat.le_of_ble_eq_true rfl) rfl ?_
  refine ax_iconst f78_2 ?_
  refine ax_istore (ls' := [_, _, _, _, _, _]) f78_3 (Nat.le_of_ble_eq_true rfl) rfl ?_
  have e : lN N = lN (N / 100000 ^ 0) := by rw [Nat.pow_zero, Nat.div_one]
  have ih := lp_78 (d := 0) (h := h) (Q := fun r h' => rI r ((N / 100000 ^ m % 100000 : Nat) : Int) ∧ h' = h) hN m 0 (by omega) hm ⟨rI_zof (by rw [lN_i, iI_nat]), rfl⟩
  rw [← e] at ih
  exact ih
end LON
