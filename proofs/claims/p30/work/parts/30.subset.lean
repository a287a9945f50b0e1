/-! ===== which sums some rows can have ===== -/
section SUB
def sb0 (v : Int) : Int := if v = 0 then 1 else 0
def sba (S : Int → Int) (w v : Int) : Int := if S v = 1 ∨ (w ≤ v ∧ S (v - w) = 1) then 1 else 0
def ssf (R : Int → Int) : (Int → Int) → Int → Nat → (Int → Int)
  | S, _, 0 => S
  | S, r, n + 1 => ssf R (sba S (R r)) (r + 1) n
/-- 1 if some of the rows a to b weigh v -/
def csm (R : Int → Int) (a b v : Int) : Int := if 0 ≤ v ∧ v ≤ bok R a b then ssf R sb0 a (b - a).toNat v else 0
/-- a word of a set of sums -/
def wB (S : Int → Int) (i : Int) : Int64 := lN (bN (fun j => S (64 * i + j)) 64)
def sz (S : Int → Int) : Prop := ∀ v, (v < 0 → S v = 0) ∧ (S v = 0 ∨ S v = 1)
theorem sz_0 : sz sb0 := fun v => ⟨fun h => by unfold sb0; rw [if_neg (by omega)], by unfold sb0; split <;> simp⟩
theorem sz_a {S : Int → Int} (z : sz S) {w : Int} (hw : 0 ≤ w) : sz (sba S w) := fun v => ⟨fun h => by
  unfold sba
  rw [if_neg]
  rintro (c | c)
  · have := (z v).1 h; omega
  · omega, by unfold sba; split <;> simp⟩
theorem sz_f {R : Int → Int} : ∀ (n : Nat) (S : Int → Int) (r : Int), sz S → (∀ j, r ≤ j → j < r + n → 0 ≤ R j) → sz (ssf R S r n)
  | 0, S, r, z, h => z
  | n + 1, S, r, z, h => sz_f n _ (r + 1) (sz_a z (h r (by omega) (by omega))) (fun j j1 j2 => h j (by omega) (by omega))
theorem lN_tb {a b : Nat} (h : ∀ j, j < 64 → a.testBit j = b.testBit j) : lN a = lN b := by
  rw [wb_mod a, wb_mod b]
  congr 1
  apply Nat.eq_of_testBit_eq
  intro j
  rw [Nat.testBit_mod_two_pow, Nat.testBit_mod_two_pow]
  by_cases hj : j < 64
  · rw [h j hj]
  · simp [hj]
theorem wB_neg {S : Int → Int} (z : sz S) {i : Int} (hi : i < 0) : wB S i = 0 := by
  show lN _ = lN 0
  apply lN_tb
  intro j hj
  rw [bN_tb, (z _).1 (by omega)]
  simp
theorem wB_0 {i : Int} : wB sb0 i = if i = 0 then 1 else 0 := by
  split
  · rename_i h
    subst h
    decide
  · show lN _ = lN 0
    apply lN_tb
    intro j hj
    rw [bN_tb]
    unfold sb0
    rw [if_neg (by omega)]
    simp
def sbm (S : Int → Int) (w v : Int) : Int := if S v = 1 ∨ S (v - w) = 1 then 1 else 0
theorem sbm_1 {S : Int → Int} {w v : Int} : sbm S w v = 1 ↔ (S v = 1 ∨ S (v - w) = 1) := by unfold sbm; split <;> simp_all
theorem wB_mv {S : Int → Int} {i w : Int} (h0 : 0 < w) (k r : Nat) (hw : w = 64 * k + r) (hr : r < 64) :
    wB S i ||| (if r = 0 then wB S (i - k) <<< ((iI (r : Int)).toInt64 &&& 63) else (wB S (i - k) <<< ((iI (r : Int)).toInt64 &&& 63)) ||| ((wB S (i - k - 1)).toUInt64 >>> ((iI (64 - r : Int)).toInt64.toUInt64 &&& Int64.toUInt64 63)).toInt64) = wB (sbm S w) i := by
  have l : ∀ g : Int → Int, bN g 64 < 2 ^ 64 := fun g => bN_lt g 64
  have e1 : wB S (i - k) <<< ((iI (r : Int)).toInt64 &&& 63) = lN (bN (fun j => S (64 * (i - k) + j)) 64 * 2 ^ r % 2 ^ 64) := by
    unfold wB
    rw [iI_nat, wb_shl _ hr, ← wb_mod]
  have m1 : bN (fun j => S (64 * (i - k) + j)) 64 * 2 ^ r % 2 ^ 64 < 2 ^ 64 := Nat.mod_lt _ (by decide)
  by_cases c : r = 0
  · rw [if_pos c, e1]
    unfold wB
    rw [wb_or (l _) m1]
    apply lN_tb
    intro j hj
    subst c
    rw [Nat.testBit_or, Nat.pow_zero, Nat.mul_one, Nat.mod_eq_of_lt (l _), bN_tb, bN_tb, bN_tb]
    simp only [sbm_1, show 64 * i + (j : Int) - w = 64 * (i - k) + j by omega]
    by_cases c1 : S (64 * i + j) = 1 <;> by_cases c2 : S (64 * (i - k) + j) = 1 <;> simp [hj, c1, c2]
  · have e2 : ((wB S (i - k - 1)).toUInt64 >>> ((iI (64 - r : Int)).toInt64.toUInt64 &&& Int64.toUInt64 63)).toInt64 = lN (bN (fun j => S (64 * (i - k - 1) + j)) 64 / 2 ^ (64 - r)) := by
      unfold wB
      rw [show (64 - r : Int) = ((64 - r : Nat) : Int) by omega, iI_nat, wb_shr (l _) (by omega)]
    have m2 : bN (fun j => S (64 * (i - k - 1) + j)) 64 / 2 ^ (64 - r) < 2 ^ 64 := Nat.lt_of_le_of_lt (Nat.div_le_self _ _) (l _)
    rw [if_neg c, e1, e2, wb_or m1 m2]
    unfold wB
    rw [wb_or (l _) (Nat.or_lt_two_pow m1 m2)]
    apply lN_tb
    intro j hj
    rw [Nat.testBit_or, Nat.testBit_or, Nat.testBit_mod_two_pow, Nat.testBit_mul_two_pow, Nat.testBit_div_two_pow, bN_tb, bN_tb, bN_tb, bN_tb]
    by_cases c3 : r ≤ j
    · have h64 : ¬ j + (64 - r) < 64 := by omega
      have h64b : j - r < 64 := by omega
      simp only [sbm_1, show 64 * i + (j : Int) - w = 64 * (i - k) + ((j - r : Nat) : Int) by omega]
      by_cases c1 : S (64 * i + j) = 1 <;> by_cases c2 : S (64 * (i - k) + ((j - r : Nat) : Int)) = 1 <;> simp [hj, c1, c2, c3, h64, h64b]
    · have h64 : j + (64 - r) < 64 := by omega
      simp only [sbm_1, show 64 * i + (j : Int) - w = 64 * (i - k - 1) + ((j + (64 - r) : Nat) : Int) by omega]
      by_cases c1 : S (64 * i + j) = 1 <;> by_cases c2 : S (64 * (i - k - 1) + ((j + (64 - r) : Nat) : Int)) = 1 <;> simp [hj, c1, c2, c3, h64]
theorem wB_a {S : Int → Int} (z : sz S) {w i : Int} (hi : 0 ≤ i) : wB (sbm S w) i = wB (sba S w) i := by
  unfold wB
  apply lN_tb
  intro j hj
  rw [bN_tb, bN_tb]
  unfold sba sbm
  by_cases c : w ≤ 64 * i + j
  · simp [c]
  · have := (z (64 * i + j - w)).1 (by omega)
    simp [c, this]
theorem wB_bit {S : Int → Int} {v : Int} (h0 : 0 ≤ v) : ((wB S (v / 64)).toUInt64 >>> ((iI (v % 64)).toInt64.toUInt64 &&& Int64.toUInt64 63)).toInt64 &&& Int64.ofNat ((1 : Fin 2) : Nat) = if S v = 1 then 1 else 0 := by
  unfold wB
  obtain ⟨r, hr⟩ : ∃ r : Nat, v % 64 = r := ⟨(v % 64).toNat, by omega⟩
  have h64 : r < 64 := by omega
  have := bN_tb (fun j => S (64 * (v / 64) + j)) 64 r
  rw [Nat.testBit_eq_decide_div_mod_eq, decide_eq_true h64, Bool.true_and, decide_eq_decide, show 64 * (v / 64) + (r : Int) = v by omega] at this
  rw [hr, iI_nat, show Int64.ofNat ((1 : Fin 2) : Nat) = 1 from rfl, wb_bit (bN_lt _ 64) h64]
  split
  · rename_i c
    rw [this.mpr c]; rfl
  · rename_i c
    have h2 : ¬ bN (fun j => S (64 * (v / 64) + j)) 64 / 2 ^ r % 2 = 1 := fun z => c (this.mp z)
    rw [show bN (fun j => S (64 * (v / 64) + j)) 64 / 2 ^ r % 2 = 0 by omega]; rfl
theorem c_94 {h : am_H} {q : Nat} {g : Int → Int64} (o : h.1[q]? = some (.inr (7, [.ref (q + 1)]))) (g1 : oL h (q + 1) 75 g) {z : Int} (hz : inI z) (h2 : z < 75) : am_X 0 94 0 (am_ent 94 [.ref q, .int (iI z)]) [] h (fun r h' => rL r (if 0 ≤ z then g z else 0) ∧ h' = h) := by
  show am_X 0 94 0 [.ref q, .int (iI z)] [] h _
  obtain ⟨hz1, hz2⟩ := id hz
  refine ax_iload_n f94_0 rfl ?_
  refine ax_if_lt f94_1 rfl ⟨by omega, by omega⟩ (fun q1 => ?_) (fun q1 => ?_)
  · refine ax_lconst f94_19 ?_
    refine ax_lreturn f94_20 rfl ?_
    exact ⟨rL_of (by rw [if_neg (by omega)]; rfl), rfl⟩
  · refine ax_iload_n f94_4 rfl ?_
    refine ax_bipush f94_5 ?_
    refine ax_icmp_ge f94_7 rfl ⟨by omega, by omega⟩ ⟨by omega, by omega⟩ (fun q7 => absurd q7 (by omega)) (fun q7 => ?_)
    refine ax_aload_n f94_10 rfl ?_
    refine ax_getf f94_11 o rfl ?_
    refine ax_iload_n f94_14 rfl ?_
    refine ax_laldO f94_15 g1 (by omega) (by omega) rfl ?_
    refine ax_goto f94_16 rfl ?_
    refine ax_lreturn f94_20 rfl ?_
    exact ⟨rL_of (by rw [if_pos (by omega)]), rfl⟩
theorem lp_93 {d q : Nat} {h : am_H} {Q : am_R → am_H → Prop} {S : Int → Int} {w : Int} {wk rs : Nat} (o : h.1[q]? = some (.inr (7, [.ref (q + 1)]))) (z : sz S) (hw0 : 0 < w ∧ w ≤ 99) (hwe : w = 64 * wk + rs) (hrs : rs < 64) : ∀ (n : Nat) (i : Int) {x5 : Value}, i + 1 = n ∧ n ≤ 75 → ∀ g : Int → Int64, oL h (q + 1) 75 g → (∀ j, 0 ≤ j → j ≤ i → g j = wB S j) → (∀ j, i < j → j < 75 → g j = wB (sba S w) j) →
    (∀ h' g', fr (fun x => x = q + 1) h h' → oL h' (q + 1) 75 g' → (∀ j, 0 ≤ j → j < 75 → g' j = wB (sba S w) j) → Q (.inl none) h') → am_X (d + 1) 93 14 [.ref q, .int (iI w), .int (iI wk), .int (iI rs), .int (iI i), x5, am_u] [] h Q
  | 0, i, x5, h1, g, g1, hg1, hg2, k => by
    have h1 : i = -1 := by omega
    subst h1
    refine ax_iload f93_14 rfl ?_
    refine ax_if_lt f93_16 rfl ⟨by omega, by omega⟩ (fun q16 => ?_) (fun q16 => absurd q16 (by omega))
    refine ax_return f93_73 rfl ?_
    exact k h g fr_rf g1 (fun j j1 j2 => hg2 j (by omega) j2)
  | n + 1, i, x5, h1, g, g1, hg1, hg2, k => by
    obtain ⟨hw0, hw99⟩ := hw0
    have hwd : ∀ j, j ≤ i → (if 0 ≤ j then g j else 0) = wB S j := fun j hj => by
      split
      · exact hg1 j (by omega) hj
      · exact (wB_neg z (by omega)).symm
    refine ax_iload f93_14 rfl ?_
    refine ax_if_lt f93_16 rfl ⟨by omega, by omega⟩ (fun q16 => absurd q16 (by omega)) (fun q16 => ?_)
    refine ax_aload_n f93_19 rfl ?_
    refine ax_iload f93_20 rfl ?_
    refine ax_iload_n f93_22 rfl ?_
    refine ax_isub f93_23 ?_
    refine ax_cvL (rest := []) f93_24 o rfl rfl rfl rfl rfl rfl rfl rfl (c_94 o g1 ⟨by omega, by omega⟩ (by omega)) ?_
    intro _ e_
    obtain rfl := e_.symm
    clear e_
    rw [hwd (i - wk) (by omega)]
    refine ax_iload_n f93_27 rfl ?_
    refine ax_lshl f93_28 ?_
    refine ax_lstore (ls' := [_, _, _, _, _, _, _]) f93_29 (Nat.le_of_ble_eq_true rfl) rfl ?_
    refine ax_iload_n f93_31 rfl ?_
    refine ax_if_le f93_32 rfl ⟨by omega, by omega⟩ (fun q32 => ?_) (fun q32 => ?_)
    · refine ax_aload_n f93_55 rfl ?_
      refine ax_getf f93_56 o rfl ?_
      refine ax_iload f93_59 rfl ?_
      refine ax_dup2 f93_61 rfl rfl ?_
      refine ax_laldO f93_62 g1 (by omega) (by omega) rfl ?_
      refine ax_lload f93_63 rfl ?_
      refine ax_lor f93_65 ?_
      refine ax_lastO f93_66 g1 (by omega) (by omega) rfl (fun h1 o1 r1 => ?_)
      refine ax_iinc (ls' := [_, _, _, _, _, _, _]) f93_67 rfl (Nat.le_of_ble_eq_true rfl) rfl ?_
      refine ax_goto f93_70 rfl ?_
      refine lp_93 (r1.at (by omega) o) z ⟨hw0, hw99⟩ hwe hrs (x5 := _) n (i + (-1)) (by omega) _ o1 ?_ ?_ ?_
      · intro j j1 j2
        rw [uZ_n (by omega)]
        exact hg1 j (by omega) (by omega)
      · intro j j1 j2
        by_cases e : j = i
        · rw [e, uZ_s, hg1 i (by omega) (by omega), ← wB_a z (w := w) (by omega), ← wB_mv (S := S) (i := i) (w := w) hw0 wk rs hwe hrs, if_pos (c := rs = 0) (by omega)]
        · rw [uZ_n e]
          exact hg2 j (by omega) j2
      · intro h9 g9 f9 a9 b9
        exact k h9 g9 (r1.trans f9) a9 b9
    · refine ax_lload f93_35 rfl ?_
      refine ax_aload_n f93_37 rfl ?_
      refine ax_iload f93_38 rfl ?_
      refine ax_iload_n f93_40 rfl ?_
      refine ax_isub f93_41 ?_
      refine ax_iconst f93_42 ?_
      refine ax_isub f93_43 ?_
      refine ax_cvL (rest := [_]) f93_44 o rfl rfl rfl rfl rfl rfl rfl rfl (c_94 o g1 ⟨by omega, by omega⟩ (by omega)) ?_
      intro _ e_
      obtain rfl := e_.symm
      clear e_
      refine ax_bipush f93_47 ?_
      refine ax_iload_n f93_49 rfl ?_
      refine ax_isub f93_50 ?_
      rw [hwd (i - wk - 1) (by omega)]
      refine ax_lushr f93_51 ?_
      refine ax_lor f93_52 ?_
      refine ax_lstore (ls' := [_, _, _, _, _, _, _]) f93_53 (Nat.le_of_ble_eq_true rfl) rfl ?_
      refine ax_aload_n f93_55 rfl ?_
      refine ax_getf f93_56 o rfl ?_
      refine ax_iload f93_59 rfl ?_
      refine ax_dup2 f93_61 rfl rfl ?_
      refine ax_laldO f93_62 g1 (by omega) (by omega) rfl ?_
      refine ax_lload f93_63 rfl ?_
      refine ax_lor f93_65 ?_
      refine ax_lastO f93_66 g1 (by omega) (by omega) rfl (fun h1 o1 r1 => ?_)
      refine ax_iinc (ls' := [_, _, _, _, _, _, _]) f93_67 rfl (Nat.le_of_ble_eq_true rfl) rfl ?_
      refine ax_goto f93_70 rfl ?_
      refine lp_93 (r1.at (by omega) o) z ⟨hw0, hw99⟩ hwe hrs (x5 := _) n (i + (-1)) (by omega) _ o1 ?_ ?_ ?_
      · intro j j1 j2
        rw [uZ_n (by omega)]
        exact hg1 j (by omega) (by omega)
      · intro j j1 j2
        by_cases e : j = i
        · rw [e, uZ_s, hg1 i (by omega) (by omega), ← wB_a z (w := w) (by omega), ← wB_mv (S := S) (i := i) (w := w) hw0 wk rs hwe hrs, if_neg (c := rs = 0) (by omega)]
        · rw [uZ_n e]
          exact hg2 j (by omega) j2
      · intro h9 g9 f9 a9 b9
        exact k h9 g9 (r1.trans f9) a9 b9
theorem c_93 {h : am_H} {q : Nat} {g : Int → Int64} {S : Int → Int} (o : h.1[q]? = some (.inr (7, [.ref (q + 1)]))) (g1 : oL h (q + 1) 75 g) (z : sz S) (hg : ∀ j, 0 ≤ j → j < 75 → g j = wB S j) {w : Int} (hw1 : 0 < w) (hw2 : w ≤ 99) : am_X 1 93 0 (am_ent 93 [.ref q, .int (iI w)]) [] h (fun r h' => rV r ∧ (∃ g', oL h' (q + 1) 75 g' ∧ ∀ j, 0 ≤ j → j < 75 → g' j = wB (sba S w) j) ∧ fr (fun x => x = q + 1) h h') := by
  show am_X 1 93 0 [.ref q, .int (iI w), am_u, am_u, am_u, am_u, am_u] [] h _
  refine ax_iload_n f93_0 rfl ?_
  refine ax_bipush f93_1 ?_
  refine ax_idiv f93_3 (by omega) (by omega) (by omega) (by omega) ?_
  refine ax_istore_n (ls' := [_, _, _, _, _, _, _]) f93_4 (Nat.le_of_ble_eq_true rfl) rfl ?_
  refine ax_iload_n f93_5 rfl ?_
  refine ax_bipush f93_6 ?_
  refine ax_irem f93_8 (by omega) (by omega) (by omega) (by omega) ?_
  refine ax_istore_n (ls' := [_, _, _, _, _, _, _]) f93_9 (Nat.le_of_ble_eq_true rfl) rfl ?_
  refine ax_bipush f93_10 ?_
  refine ax_istore (ls' := [_, _, _, _, _, _, _]) f93_12 (Nat.le_of_ble_eq_true rfl) rfl ?_
  have ih := lp_93 (d := 0) (w := w) (wk := (w / 64).toNat) (rs := (w % 64).toNat) (Q := fun r h' => rV r ∧ (∃ g', oL h' (q + 1) 75 g' ∧ ∀ j, 0 ≤ j → j < 75 → g' j = wB (sba S w) j) ∧ fr (fun x => x = q + 1) h h') (x5 := am_u) o z ⟨hw1, hw2⟩ (by omega) (by omega) 75 74 ⟨by omega, by omega⟩ g g1 (fun j j1 j2 => hg j j1 (by omega)) (fun j j1 j2 => by omega) (fun h' g' f' a' b' => ⟨rfl, ⟨g', a', b'⟩, f'⟩)
  rw [Int.toNat_of_nonneg (by omega), Int.toNat_of_nonneg (by omega)] at ih
  exact ih
theorem lp_92a {d q p : Nat} {h : am_H} {Q : am_R → am_H → Prop} {k0 v a b : Int} (o : h.1[q]? = some (.inr (7, [.ref (q + 1)]))) : ∀ (n : Nat) (r : Int), r + n = 75 → 0 ≤ r → ∀ g : Int → Int64, oL h (q + 1) 75 g → (∀ j, 0 ≤ j → j < r → g j = wB sb0 j) →
    (∀ h' g', fr (fun x => x = q + 1) h h' → oL h' (q + 1) 75 g' → (∀ j, 0 ≤ j → j < 75 → g' j = wB sb0 j) → am_X d 92 67 [.ref q, .ref p, .int (iI k0), .int (iI v), .int (iI a), .int (iI b), .int (iI 75)] [] h' Q) → am_X d 92 37 [.ref q, .ref p, .int (iI k0), .int (iI v), .int (iI a), .int (iI b), .int (iI r)] [] h Q
  | 0, r, h1, h2, g, g1, hg, k => by
    have h1 : r = 75 := by omega
    subst h1
    refine ax_iload f92_37 rfl ?_
    refine ax_bipush f92_39 ?_
    refine ax_icmp_ge f92_41 rfl ⟨by omega, by omega⟩ ⟨by omega, by omega⟩ (fun q41 => ?_) (fun q41 => absurd q41 (by omega))
    exact k h g fr_rf g1 (fun j j1 j2 => hg j j1 (by omega))
  | n + 1, r, h1, h2, g, g1, hg, k => by
    refine ax_iload f92_37 rfl ?_
    refine ax_bipush f92_39 ?_
    refine ax_icmp_ge f92_41 rfl ⟨by omega, by omega⟩ ⟨by omega, by omega⟩ (fun q41 => absurd q41 (by omega)) (fun q41 => ?_)
    refine ax_aload_n f92_44 rfl ?_
    refine ax_getf f92_45 o rfl ?_
    refine ax_iload f92_48 rfl ?_
    refine ax_iload f92_50 rfl ?_
    refine ax_if_ne f92_52 rfl ⟨by omega, by omega⟩ (fun q52 => ?_) (fun q52 => ?_)
    · refine ax_lconst f92_59 ?_
      refine ax_lastO f92_60 g1 (by omega) (by omega) rfl (fun h1 o1 r1 => ?_)
      refine ax_iinc (ls' := [_, _, _, _, _, _, _]) f92_61 rfl (Nat.le_of_ble_eq_true rfl) rfl ?_
      refine ax_goto f92_64 rfl ?_
      refine lp_92a (r1.at (by omega) o) n (r + 1) (by omega) (by omega) _ o1 ?_ ?_
      · intro j j1 j2
        by_cases e : j = r
        · rw [e, uZ_s, wB_0, if_neg (by omega)]; rfl
        · rw [uZ_n e]
          exact hg j j1 (by omega)
      · intro h9 g9 f9 a9 b9
        exact k h9 g9 (r1.trans f9) a9 b9
    · refine ax_lconst f92_55 ?_
      refine ax_goto f92_56 rfl ?_
      refine ax_lastO f92_60 g1 (by omega) (by omega) rfl (fun h1 o1 r1 => ?_)
      refine ax_iinc (ls' := [_, _, _, _, _, _, _]) f92_61 rfl (Nat.le_of_ble_eq_true rfl) rfl ?_
      refine ax_goto f92_64 rfl ?_
      refine lp_92a (r1.at (by omega) o) n (r + 1) (by omega) (by omega) _ o1 ?_ ?_
      · intro j j1 j2
        by_cases e : j = r
        · rw [e, uZ_s, wB_0, if_pos (by omega)]; rfl
        · rw [uZ_n e]
          exact hg j j1 (by omega)
      · intro h9 g9 f9 a9 b9
        exact k h9 g9 (r1.trans f9) a9 b9
theorem lp_92b {d q p : Nat} {h : am_H} {Q : am_R → am_H → Prop} {R : Int → Int} {k0 v a b : Int} (o : h.1[q]? = some (.inr (7, [.ref (q + 1)]))) (hM : Mead h p R) (iw : ibt R 0 48 1 99) (hd : q + 1 < p ∨ p + 4 < q + 1) : ∀ (n : Nat) (r : Int) (S : Int → Int), r + n = b → 0 ≤ r → b ≤ 48 → sz S → ∀ g : Int → Int64, oL h (q + 1) 75 g → (∀ j, 0 ≤ j → j < 75 → g j = wB S j) →
    (∀ h' g', fr (fun x => x = q + 1) h h' → oL h' (q + 1) 75 g' → (∀ j, 0 ≤ j → j < 75 → g' j = wB (ssf R S r n) j) → am_X (d + 2) 92 94 [.ref q, .ref p, .int (iI k0), .int (iI v), .int (iI a), .int (iI b), .int (iI b)] [] h' Q) → am_X (d + 2) 92 71 [.ref q, .ref p, .int (iI k0), .int (iI v), .int (iI a), .int (iI b), .int (iI r)] [] h Q
  | 0, r, S, h1, h2, hb, z, g, g1, hg, k => by
    have h1 : r = b := by omega
    subst h1
    refine ax_iload f92_71 rfl ?_
    refine ax_iload f92_73 rfl ?_
    refine ax_icmp_ge f92_75 rfl ⟨by omega, by omega⟩ ⟨by omega, by omega⟩ (fun q75 => ?_) (fun q75 => absurd q75 (by omega))
    exact k h g fr_rf g1 hg
  | n + 1, r, S, h1, h2, hb, z, g, g1, hg, k => by
    refine ax_iload f92_71 rfl ?_
    refine ax_iload f92_73 rfl ?_
    refine ax_icmp_ge f92_75 rfl ⟨by omega, by omega⟩ ⟨by omega, by omega⟩ (fun q75 => absurd q75 (by omega)) (fun q75 => ?_)
    have hw := iw r (by omega) (by omega)
    rw [Int.zero_add] at hw
    refine ax_aload_n f92_78 rfl ?_
    refine ax_aload_n f92_79 rfl ?_
    refine ax_iload f92_80 rfl ?_
    refine ax_cvI (rest := [_]) f92_82 hM.1 rfl rfl rfl rfl rfl rfl rfl rfl (c_43 hM (by omega) (by omega)) ?_
    intro _ e_
    obtain rfl := e_.symm
    clear e_
    refine ax_cvV (rest := []) f92_85 o rfl rfl rfl rfl rfl rfl rfl rfl (c_93 o g1 z hg (by omega) (by omega)) ?_
    rintro h2_ ⟨⟨g2, a2, b2⟩, f2⟩
    refine ax_iinc (ls' := [_, _, _, _, _, _, _]) f92_88 rfl (Nat.le_of_ble_eq_true rfl) rfl ?_
    refine ax_goto f92_91 rfl ?_
    refine lp_92b (f2.at (by omega) o) (hM.fr f2 (fun x x1 x2 => by omega)) iw hd n (r + 1) _ (by omega) (by omega) hb (sz_a z (w := R r) (by omega)) _ a2 b2 ?_
    intro h9 g9 f9 a9 b9
    exact k h9 g9 (f2.trans f9) a9 b9
/-- the object of subset sums at q -/
def Subs (h : am_H) (q : Nat) : Prop := h.1[q]? = some (.inr (7, [.ref (q + 1)])) ∧ ∃ g, oL h (q + 1) 75 g
theorem Subs.mv {h h' : am_H} {q : Nat} {S : Nat → Prop} (a : Subs h q) (b : fr S h h') (h1 : ¬ S q) (h2 : ¬ S (q + 1)) : Subs h' q := by
  obtain ⟨o, g, g1⟩ := a
  exact ⟨b.at h1 o, g, g1.fr b h2⟩
theorem c_92 {h : am_H} {q p : Nat} {R : Int → Int} (hS : Subs h q) (hM : Mead h p R) (i : inv R) (hd : q + 1 < p ∨ p + 4 < q + 1) {k v : Int} (k1 : 0 ≤ k) (k2 : k < blk R) (hv : inI v) : am_X 2 92 0 (am_ent 92 [.ref q, .ref p, .int (iI k), .int (iI v)]) [] h (fun r h' => rI r (csm R (fro R k) (fro R (k + 1)) v) ∧ Subs h' q ∧ fr (fun x => x = q + 1) h h') := by
  show am_X 2 92 0 [.ref q, .ref p, .int (iI k), .int (iI v), am_u, am_u, am_u] [] h _
  obtain ⟨hv1, hv2⟩ := hv
  have hb12 := i.b12
  obtain ⟨o, g, g1⟩ := hS
  refine ax_aload_n f92_0 rfl ?_
  refine ax_iload_n f92_1 rfl ?_
  refine ax_cvI (rest := []) f92_2 hM.1 rfl rfl rfl rfl rfl rfl rfl rfl (c_50 hM i.ff k1 (by omega)) ?_
  intro _ e_
  obtain rfl := e_.symm
  clear e_
  refine ax_istore (ls' := [_, _, _, _, _, _, _]) f92_5 (Nat.le_of_ble_eq_true rfl) rfl ?_
  refine ax_aload_n f92_7 rfl ?_
  refine ax_iload_n f92_8 rfl ?_
  refine ax_iconst f92_9 ?_
  refine ax_iadd f92_10 ?_
  refine ax_cvI (rest := []) f92_11 hM.1 rfl rfl rfl rfl rfl rfl rfl rfl (c_50 hM i.ff (by omega) (by omega)) ?_
  intro _ e_
  obtain rfl := e_.symm
  clear e_
  refine ax_istore (ls' := [_, _, _, _, _, _, _]) f92_14 (Nat.le_of_ble_eq_true rfl) rfl ?_
  obtain ⟨b1, b2, b3⟩ := fro_lt i.ff k1 k2
  have b4 := (fro_sp i.ff k).1
  have b5 := (fro_sp i.ff (k + 1)).2.1
  have iw := i.1.1
  have hbk := bok_in iw (a := fro R k) (b := fro R (k + 1)) b4 (by omega) b5
  refine ax_iload_n f92_16 rfl ?_
  refine ax_if_lt f92_17 rfl ⟨by omega, by omega⟩ (fun q17 => ?_) (fun q17 => ?_)
  · refine ax_iconst f92_32 ?_
    refine ax_ireturn f92_33 rfl rfl ?_
    refine ⟨rI_of ?_, ⟨o, g, g1⟩, fr_rf⟩
    unfold csm
    rw [if_neg (by omega)]
  · refine ax_iload_n f92_20 rfl ?_
    refine ax_aload_n f92_21 rfl ?_
    refine ax_iload f92_22 rfl ?_
    refine ax_iload f92_24 rfl ?_
    refine ax_cvI (rest := [_]) f92_26 hM.1 rfl rfl rfl rfl rfl rfl rfl rfl (c_52 hM b4 (by omega) b5) ?_
    intro _ e_
    obtain rfl := e_.symm
    clear e_
    refine ax_icmp_le f92_29 rfl ⟨by omega, by omega⟩ ⟨by omega, by omega⟩ (fun q29 => ?_) (fun q29 => ?_)
    · refine ax_iconst f92_34 ?_
      refine ax_istore (ls' := [_, _, _, _, _, _, _]) f92_35 (Nat.le_of_ble_eq_true rfl) rfl ?_
      refine lp_92a o 75 0 (by omega) (by omega) g g1 (fun j j1 j2 => by omega) ?_
      intro h8 g8 f8 a8 b8
      have oo := f8.at (q := q) (by omega) o
      refine ax_iload f92_67 rfl ?_
      refine ax_istore (ls' := [_, _, _, _, _, _, _]) f92_69 (Nat.le_of_ble_eq_true rfl) rfl ?_
      refine lp_92b (d := 0) oo (hM.fr f8 (fun x x1 x2 => by omega)) iw hd (fro R (k + 1) - fro R k).toNat (fro R k) sb0 (by omega) b4 b5 sz_0 g8 a8 b8 ?_
      intro h9 g9 f9 a9 b9
      have oo := f9.at (q := q) (by omega) oo
      have q17 : 0 ≤ v := by omega
      refine ax_aload_n f92_94 rfl ?_
      refine ax_iload_n f92_95 rfl ?_
      refine ax_bipush f92_96 ?_
      refine ax_idiv f92_98 (by omega) (by omega) (by omega) (by omega) ?_
      refine ax_cvL (rest := []) f92_99 oo rfl rfl rfl rfl rfl rfl rfl rfl (c_94 oo a9 ⟨by omega, by omega⟩ (by omega)) ?_
      intro _ e_
      obtain rfl := e_.symm
      clear e_
      rw [if_pos (by omega), b9 (v / 64) (by omega) (by omega)]
      refine ax_iload_n f92_102 rfl ?_
      refine ax_bipush f92_103 ?_
      refine ax_irem f92_105 (by omega) (by omega) (by omega) (by omega) ?_
      refine ax_lushr f92_106 ?_
      refine ax_lconst f92_107 ?_
      refine ax_land f92_108 ?_
      rw [wB_bit q17]
      refine ax_lconst f92_109 ?_
      refine ax_lcmpz f92_110 ?_
      refine ax_if_ne f92_111 rfl (lcz_in _ _) (fun q111 => ?_) (fun q111 => ?_)
      · have hne : ¬ ssf R sb0 (fro R k) (fro R (k + 1) - fro R k).toNat v = 1 := fun e => by
          rw [if_pos e] at q111
          exact q111 (lcz_0.mpr rfl)
        have h0 : 0 = ssf R sb0 (fro R k) (fro R (k + 1) - fro R k).toNat v := by
          have := (sz_f (R := R) (fro R (k + 1) - fro R k).toNat sb0 (fro R k) sz_0 (fun j j1 j2 => by have := iw j (by omega) (by omega); rw [Int.zero_add] at this; omega) v).2
          omega
        refine ax_iconst f92_118 ?_
        refine ax_ireturn f92_119 rfl rfl ?_
        refine ⟨rI_of ?_, ⟨oo, _, a9⟩, f8.trans f9⟩
        unfold csm
        rw [if_pos (by omega)]
        exact h0
      · refine ax_iconst f92_114 ?_
        refine ax_goto f92_115 rfl ?_
        refine ax_ireturn f92_119 rfl rfl ?_
        refine ⟨rI_of ?_, ⟨oo, _, a9⟩, f8.trans f9⟩
        unfold csm
        rw [if_pos (by omega)]
        have e := lcz_0.mp (Decidable.not_not.mp q111)
        by_cases c : ssf R sb0 (fro R k) (fro R (k + 1) - fro R k).toNat v = 1
        · exact c.symm
        · rw [if_neg c] at e
          exact absurd e (by decide)
    · refine ax_iconst f92_32 ?_
      refine ax_ireturn f92_33 rfl rfl ?_
      refine ⟨rI_of ?_, ⟨o, g, g1⟩, fr_rf⟩
      unfold csm
      rw [if_neg (by omega)]
end SUB
