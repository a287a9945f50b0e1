/-! ===== the law's own numbers: its small methods ===== -/
section OWN
theorem ax_ldcI {d m pc : Nat} {ls st : List Value} {h : am_H} {Q : am_R → am_H → Prop} {i w : Nat} {x : Int32} {z : Int} (hf : am_tab m pc = some (.ldc i, 2, 0, 0, w, .int x)) (e : x = iI z) (k : am_X d m (pc + 2) ls (.int (iI z) :: st) h Q) : am_X d m pc ls st h Q := ax_ldc hf (e ▸ k)
theorem ax_nameJ {d m pc : Nat} {ls st : List Value} {h : am_H} {Q : am_R → am_H → Prop} {x : Int32} (k : ∀ y : Int32, y = x → am_X d m pc ls (.int y :: st) h Q) : am_X d m pc ls (.int x :: st) h Q := k x rfl
/-- what low makes of a number -/
def lwz (x : Int32) (n : Int) : Int := ((x.toBitVec.toNat % 2147483648 : Nat) : Int) % n
theorem lwz_in (x : Int32) {n : Int} (h : 0 < n) : 0 ≤ lwz x n ∧ lwz x n < n := ⟨Int.emod_nonneg _ (by omega), Int.emod_lt_of_pos _ h⟩
theorem iand_31 (x : Int32) : x &&& iI 2147483647 = iI ((x.toBitVec.toNat % 2147483648 : Nat) : Int) := by
  obtain ⟨n, hn, rfl⟩ := wb_of32 x
  have e : (nI n).toBitVec.toNat = n := by show (BitVec.ofNat 32 n).toNat = n; rw [BitVec.toNat_ofNat, Nat.mod_eq_of_lt hn]
  rw [e, iI_nat, show iI 2147483647 = nI (2 ^ 31 - 1) from by decide, fa_mask_]
theorem c_1 {h : am_H} {L : Nat} {xs : Nat → Int32} (hs : h.2.2 = (L, xs)) (hL : L ≤ 260) {k : Int} (h1 : 0 ≤ k) (h2 : k < 36) : am_X 0 1 0 (am_ent 1 [.retAddr 0, .int (iI k)]) [] h (fun r h' => (∃ x : Int32, r = .inl (some (.int x))) ∧ h' = h) := by
  show am_X 0 1 0 [.retAddr 0, .int (iI k)] [] h _
  have e1 : h.2.2.1 = L := by rw [hs]
  refine ax_iload_n f1_0 rfl ?_
  refine ax_aload_nS f1_1 rfl ?_
  refine ax_slen f1_2 ?_
  refine ax_icmp_ge f1_3 rfl ⟨by omega, by omega⟩ ⟨by omega, by omega⟩ (fun q3 => ?_) (fun q3 => ?_)
  · refine ax_ldcI (z := 668265263) f1_12 (by decide) ?_
    refine ax_iload_n f1_14 rfl ?_
    refine ax_iconst f1_15 ?_
    refine ax_iadd f1_16 ?_
    refine ax_imul f1_17 ?_
    refine ax_ireturn f1_18 rfl rfl ?_
    exact ⟨⟨_, rfl⟩, rfl⟩
  · refine ax_aload_nS f1_6 rfl ?_
    refine ax_iload_n f1_7 rfl ?_
    refine ax_sld f1_8 h1 (by omega) (by omega) ?_
    refine ax_goto f1_9 rfl ?_
    refine ax_ireturn f1_18 rfl rfl ?_
    exact ⟨⟨_, rfl⟩, rfl⟩
theorem c_2 {h : am_H} {x : Int32} {n : Int} (h1 : 0 < n) (h2 : n ≤ 99) : am_X 0 2 0 (am_ent 2 [.int x, .int (iI n)]) [] h (fun r h' => rI r (lwz x n) ∧ h' = h) := by
  show am_X 0 2 0 [.int x, .int (iI n)] [] h _
  refine ax_iload_n f2_0 rfl ?_
  refine ax_ldcI (z := 2147483647) f2_1 (by decide) ?_
  refine ax_iand f2_3 ?_
  rw [iand_31]
  have hx : x.toBitVec.toNat % 2147483648 < 2147483648 := Nat.mod_lt _ (by decide)
  refine ax_iload_n f2_4 rfl ?_
  refine ax_irem f2_5 (by omega) (by omega) (by omega) (by omega) ?_
  refine ax_ireturn f2_6 rfl rfl ?_
  exact ⟨rI_of rfl, rfl⟩
theorem lp_3 {d : Nat} {h : am_H} {q : Nat} {R : Int → Int} (a : oI h q 48 (fun j => R (144 + j))) : ∀ (n : Nat) (r : Int), r + n = 48 → 1 ≤ r → am_X d 3 4 [.ref q, .int (iI (1 + bat R (r - 1))), .int (iI r)] [] h (fun r h' => rI r (blk R) ∧ h' = h)
  | 0, r, h1, h2 => by
    have h1 : r = 48 := by omega
    subst h1
    refine ax_iload_n f3_4 rfl ?_
    refine ax_bipush f3_5 ?_
    refine ax_icmp_ge f3_7 rfl ⟨by omega, by omega⟩ ⟨by omega, by omega⟩ (fun q7 => ?_) (fun q7 => absurd q7 (by omega))
    refine ax_iload_n f3_22 rfl ?_
    refine ax_ireturn f3_23 rfl rfl ?_
    exact ⟨rI_of (by rw [show (48 : Int) - 1 = 47 by omega, bat_47]; omega), rfl⟩
  | n + 1, r, h1, h2 => by
    refine ax_iload_n f3_4 rfl ?_
    refine ax_bipush f3_5 ?_
    refine ax_icmp_ge f3_7 rfl ⟨by omega, by omega⟩ ⟨by omega, by omega⟩ (fun q7 => absurd q7 (by omega)) (fun q7 => ?_)
    refine ax_iload_n f3_10 rfl ?_
    refine ax_aload_n f3_11 rfl ?_
    refine ax_iload_n f3_12 rfl ?_
    refine ax_ialdO f3_13 (by decide) a (by omega) (by omega) rfl ?_
    refine ax_iadd f3_14 ?_
    refine ax_istore_n (ls' := [_, _, _]) f3_15 (Nat.le_of_ble_eq_true rfl) rfl ?_
    refine ax_iinc (ls' := [_, _, _]) f3_16 rfl (Nat.le_of_ble_eq_true rfl) rfl ?_
    refine ax_goto f3_19 rfl ?_
    have e := bat_s (R := R) (r := r - 1) (by omega)
    rw [show r - 1 + 1 = r by omega] at e
    have ih := lp_3 (d := d) (h := h) (q := q) (R := R) a n (r + 1) (by omega) (by omega)
    rw [show r + 1 - 1 = r by omega, e] at ih
    rw [Int.add_assoc]
    exact ih
theorem c_3 {h : am_H} {q : Nat} {R : Int → Int} (a : oI h q 48 (fun j => R (144 + j))) : am_X 0 3 0 (am_ent 3 [.ref q]) [] h (fun r h' => rI r (blk R) ∧ h' = h) := by
  show am_X 0 3 0 [.ref q, am_u, am_u] [] h _
  refine ax_iconst f3_0 ?_
  refine ax_istore_n (ls' := [_, _, _]) f3_1 (Nat.le_of_ble_eq_true rfl) rfl ?_
  refine ax_iconst f3_2 ?_
  refine ax_istore_n (ls' := [_, _, _]) f3_3 (Nat.le_of_ble_eq_true rfl) rfl ?_
  exact lp_3 a 47 1 (by omega) (by omega)
theorem fro_eq {R : Int → Int} (i : ffe R) {k r : Int} (h1 : 0 ≤ r) (h2 : r < 48) (h3 : k ≤ bat R r) (h4 : ∀ q, 0 ≤ q → q < r → bat R q < k) : fro R k = r := by
  obtain ⟨a1, a2, a3, a4⟩ := fro_sp i k
  by_cases c : fro R k < r
  · have := h4 _ a1 c
    have := a4 (by omega)
    omega
  · by_cases c2 : r < fro R k
    · have := a3 r h1 c2
      omega
    · omega
/-- the beginning of block k as the rows ahead of r tell it -/
def fnd (R : Int → Int) (k r : Int) : Int := if k ≤ bat R (r - 1) then fro R k else 48
theorem fnd_1 {R : Int → Int} (i : ffe R) {k : Int} (h : 0 ≤ k) : fnd R k 1 = if k = 0 then 0 else 48 := by
  unfold fnd
  rw [show (1 : Int) - 1 = 0 by omega, bat_0]
  split
  · rename_i c
    rw [fro_0 i c, if_pos (by omega)]
  · rw [if_neg (by omega)]
theorem fnd_s {R : Int → Int} (i : ffe R) {k r : Int} (h1 : 1 ≤ r) (h2 : r < 48) : fnd R k (r + 1) = if R (144 + r) = 1 ∧ bat R r = k then r else fnd R k r := by
  have e := bat_s (R := R) (r := r - 1) (by omega)
  rw [show r - 1 + 1 = r by omega] at e
  have f := i.1 r (by omega) h2
  unfold fnd
  rw [show r + 1 - 1 = r by omega]
  by_cases c : R (144 + r) = 1 ∧ bat R r = k
  · rw [if_pos c, if_pos (by omega)]
    refine fro_eq i (by omega) h2 (by omega) (fun q q1 q2 => ?_)
    have := bat_le i q1 (show q ≤ r - 1 by omega) (by omega)
    omega
  · rw [if_neg c]
    by_cases c2 : k ≤ bat R r
    · rw [if_pos c2, if_pos]
      rcases f with f | f
      · omega
      · have : ¬ bat R r = k := fun z => c ⟨f, z⟩
        omega
    · rw [if_neg c2, if_neg (by omega)]
theorem fnd_48 {R : Int → Int} (i : ffe R) {k : Int} : fnd R k 48 = fro R k := by
  unfold fnd
  rw [show (48 : Int) - 1 = 47 by omega, bat_47]
  split
  · rfl
  · exact (fro_end i (by omega)).symm
theorem lp_4 {d : Nat} {h : am_H} {q : Nat} {R : Int → Int} (a : oI h q 48 (fun j => R (144 + j))) (i : ffe R) {k : Int} (hk : 0 ≤ k ∧ k ≤ 48) : ∀ (n : Nat) (r : Int), r + n = 48 → 1 ≤ r → am_X d 4 16 [.ref q, .int (iI k), .int (iI (fnd R k r)), .int (iI (bat R (r - 1))), .int (iI r)] [] h (fun r h' => rI r (fro R k) ∧ h' = h)
  | 0, r, h1, h2 => by
    have h1 : r = 48 := by omega
    subst h1
    refine ax_iload f4_16 rfl ?_
    refine ax_bipush f4_18 ?_
    refine ax_icmp_ge f4_20 rfl ⟨by omega, by omega⟩ ⟨by omega, by omega⟩ (fun q20 => ?_) (fun q20 => absurd q20 (by omega))
    refine ax_iload_n f4_56 rfl ?_
    refine ax_ireturn f4_57 rfl rfl ?_
    exact ⟨rI_of (fnd_48 i), rfl⟩
  | n + 1, r, h1, h2 => by
    have e := bat_s (R := R) (r := r - 1) (by omega)
    rw [show r - 1 + 1 = r by omega] at e
    have f := i.1 r (by omega) (by omega)
    have g1 := bat_ge i (a := r) (by omega) (by omega)
    have g2 := bat_lb i (a := r) (by omega) (by omega)
    have g3 := bat_47 (R := R)
    have g4 : bat R 47 ≤ 47 := by
      have := sm_le (f := fun k => R (144 + k)) (c := 1) (n := 47) (a := 1) (fun j j1 j2 => by have := i.1 j (by omega) (by omega); omega)
      exact this
    refine ax_iload f4_16 rfl ?_
    refine ax_bipush f4_18 ?_
    refine ax_icmp_ge f4_20 rfl ⟨by omega, by omega⟩ ⟨by omega, by omega⟩ (fun q20 => absurd q20 (by omega)) (fun q20 => ?_)
    refine ax_iload_n f4_23 rfl ?_
    refine ax_aload_n f4_24 rfl ?_
    refine ax_iload f4_25 rfl ?_
    refine ax_ialdO f4_27 (by decide) a (by omega) (by omega) rfl ?_
    refine ax_iadd f4_28 ?_
    rw [← e]
    refine ax_istore_n (ls' := [_, _, _, _, _]) f4_29 (Nat.le_of_ble_eq_true rfl) rfl ?_
    refine ax_aload_n f4_30 rfl ?_
    refine ax_iload f4_31 rfl ?_
    refine ax_ialdO f4_33 (by decide) a (by omega) (by omega) rfl ?_
    refine ax_iconst f4_34 ?_
    refine ax_icmp_ne f4_35 rfl ⟨by omega, by omega⟩ ⟨by omega, by omega⟩ (fun q35 => ?_) (fun q35 => ?_)
    · refine ax_iload_n f4_48 rfl ?_
      refine ax_istore_n (ls' := [_, _, _, _, _]) f4_49 (Nat.le_of_ble_eq_true rfl) rfl ?_
      refine ax_iinc (ls' := [_, _, _, _, _]) f4_50 rfl (Nat.le_of_ble_eq_true rfl) rfl ?_
      refine ax_goto f4_53 rfl ?_
      have ih := lp_4 (d := d) a i hk n (r + 1) (by omega) (by omega)
      rw [show r + 1 - 1 = r by omega, fnd_s i (by omega) (by omega), if_neg (fun z => q35 z.1)] at ih
      exact ih
    · refine ax_iload_n f4_38 rfl ?_
      refine ax_iload_n f4_39 rfl ?_
      refine ax_icmp_ne f4_40 rfl ⟨by omega, by omega⟩ ⟨by omega, by omega⟩ (fun q40 => ?_) (fun q40 => ?_)
      · refine ax_iload_n f4_48 rfl ?_
        refine ax_istore_n (ls' := [_, _, _, _, _]) f4_49 (Nat.le_of_ble_eq_true rfl) rfl ?_
        refine ax_iinc (ls' := [_, _, _, _, _]) f4_50 rfl (Nat.le_of_ble_eq_true rfl) rfl ?_
        refine ax_goto f4_53 rfl ?_
        have ih := lp_4 (d := d) a i hk n (r + 1) (by omega) (by omega)
        rw [show r + 1 - 1 = r by omega, fnd_s i (by omega) (by omega), if_neg (fun z => q40 z.2)] at ih
        exact ih
      · refine ax_iload f4_43 rfl ?_
        refine ax_goto f4_45 rfl ?_
        refine ax_istore_n (ls' := [_, _, _, _, _]) f4_49 (Nat.le_of_ble_eq_true rfl) rfl ?_
        refine ax_iinc (ls' := [_, _, _, _, _]) f4_50 rfl (Nat.le_of_ble_eq_true rfl) rfl ?_
        refine ax_goto f4_53 rfl ?_
        have ih := lp_4 (d := d) a i hk n (r + 1) (by omega) (by omega)
        rw [show r + 1 - 1 = r by omega, fnd_s i (by omega) (by omega), if_pos ⟨by omega, by omega⟩] at ih
        exact ih
theorem c_4 {h : am_H} {q : Nat} {R : Int → Int} (a : oI h q 48 (fun j => R (144 + j))) (i : ffe R) {k : Int} (hk : 0 ≤ k ∧ k ≤ 48) : am_X 0 4 0 (am_ent 4 [.ref q, .int (iI k)]) [] h (fun r h' => rI r (fro R k) ∧ h' = h) := by
  show am_X 0 4 0 [.ref q, .int (iI k), am_u, am_u, am_u] [] h _
  refine ax_iload_n f4_0 rfl ?_
  refine ax_if_ne f4_1 rfl ⟨by omega, by omega⟩ (fun q1 => ?_) (fun q1 => ?_)
  · refine ax_bipush f4_8 ?_
    refine ax_istore_n (ls' := [_, _, _, _, _]) f4_10 (Nat.le_of_ble_eq_true rfl) rfl ?_
    refine ax_iconst f4_11 ?_
    refine ax_istore_n (ls' := [_, _, _, _, _]) f4_12 (Nat.le_of_ble_eq_true rfl) rfl ?_
    refine ax_iconst f4_13 ?_
    refine ax_istore (ls' := [_, _, _, _, _]) f4_14 (Nat.le_of_ble_eq_true rfl) rfl ?_
    have ih := lp_4 (d := 0) a i hk 47 1 (by omega) (by omega)
    rw [show (1 : Int) - 1 = 0 by omega, bat_0, fnd_1 i hk.1, if_neg q1] at ih
    exact ih
  · refine ax_iconst f4_4 ?_
    refine ax_goto f4_5 rfl ?_
    refine ax_istore_n (ls' := [_, _, _, _, _]) f4_10 (Nat.le_of_ble_eq_true rfl) rfl ?_
    refine ax_iconst f4_11 ?_
    refine ax_istore_n (ls' := [_, _, _, _, _]) f4_12 (Nat.le_of_ble_eq_true rfl) rfl ?_
    refine ax_iconst f4_13 ?_
    refine ax_istore (ls' := [_, _, _, _, _]) f4_14 (Nat.le_of_ble_eq_true rfl) rfl ?_
    have ih := lp_4 (d := 0) a i hk 47 1 (by omega) (by omega)
    rw [show (1 : Int) - 1 = 0 by omega, bat_0, fnd_1 i hk.1, if_pos (by omega)] at ih
    exact ih
theorem lp_5 {d : Nat} {h : am_H} {q : Nat} {g : Int → Int} (a : oI h q 48 g) {x y : Int} (hx : 0 ≤ x ∧ y ≤ 48) : ∀ (n : Nat) (r s : Int), r + n = y → 0 ≤ r → am_X d 5 5 [.ref q, .int (iI x), .int (iI y), .int (iI s), .int (iI r)] [] h (fun r' h' => rI r' (s + sm g r n) ∧ h' = h)
  | 0, r, s, h1, h2 => by
    have h1 : r = y := by omega
    subst h1
    refine ax_iload f5_5 rfl ?_
    refine ax_iload_n f5_7 rfl ?_
    refine ax_icmp_ge f5_8 rfl ⟨by omega, by omega⟩ ⟨by omega, by omega⟩ (fun q8 => ?_) (fun q8 => absurd q8 (by omega))
    refine ax_iload_n f5_24 rfl ?_
    refine ax_ireturn f5_25 rfl rfl ?_
    exact ⟨rI_of (by rw [sm_0]; omega), rfl⟩
  | n + 1, r, s, h1, h2 => by
    refine ax_iload f5_5 rfl ?_
    refine ax_iload_n f5_7 rfl ?_
    refine ax_icmp_ge f5_8 rfl ⟨by omega, by omega⟩ ⟨by omega, by omega⟩ (fun q8 => absurd q8 (by omega)) (fun q8 => ?_)
    refine ax_iload_n f5_11 rfl ?_
    refine ax_aload_n f5_12 rfl ?_
    refine ax_iload f5_13 rfl ?_
    refine ax_ialdO f5_15 (by decide) a (by omega) (by omega) rfl ?_
    refine ax_iadd f5_16 ?_
    refine ax_istore_n (ls' := [_, _, _, _, _]) f5_17 (Nat.le_of_ble_eq_true rfl) rfl ?_
    refine ax_iinc (ls' := [_, _, _, _, _]) f5_18 rfl (Nat.le_of_ble_eq_true rfl) rfl ?_
    refine ax_goto f5_21 rfl ?_
    have ih := lp_5 (d := d) a hx n (r + 1) (s + g r) (by omega) (by omega)
    rw [Int.add_assoc, ← sm_1] at ih
    exact ih
theorem c_5 {h : am_H} {q : Nat} {R : Int → Int} (a : oI h q 48 R) {x y : Int} (h1 : 0 ≤ x) (h2 : x ≤ y) (h3 : y ≤ 48) : am_X 0 5 0 (am_ent 5 [.ref q, .int (iI x), .int (iI y)]) [] h (fun r h' => rI r (bok R x y) ∧ h' = h) := by
  show am_X 0 5 0 [.ref q, .int (iI x), .int (iI y), am_u, am_u] [] h _
  refine ax_iconst f5_0 ?_
  refine ax_istore_n (ls' := [_, _, _, _, _]) f5_1 (Nat.le_of_ble_eq_true rfl) rfl ?_
  refine ax_iload_n f5_2 rfl ?_
  refine ax_istore (ls' := [_, _, _, _, _]) f5_3 (Nat.le_of_ble_eq_true rfl) rfl ?_
  have ih := lp_5 (d := 0) a (x := x) ⟨h1, h3⟩ (y - x).toNat x 0 (by omega) h1
  rw [Int.zero_add] at ih
  exact ih
/-- what is away of rows x to y -/
def gon (R : Int → Int) (x y : Int) : Int := sm (fun j => R j * R (48 + j)) x (y - x).toNat
theorem gon_n {R : Int → Int} (i : i01 R 48 48) : ∀ (n : Nat) (x : Int), 0 ≤ x → x + n ≤ 48 → sm (fun j => R j * R (48 + j)) x n = sm R x n - sm (fv R) x n
  | 0, x, _, _ => rfl
  | n + 1, x, h1, h2 => by
    have f := i x h1 (by omega)
    rw [sm_1, sm_1, sm_1, gon_n i n (x + 1) (by omega) (by omega)]
    unfold fv
    rcases f with f | f
    · rw [f, if_neg (by omega), Int.mul_zero]; omega
    · rw [f, if_pos rfl, Int.mul_one]; omega
theorem gon_e {R : Int → Int} (i : i01 R 48 48) {x y : Int} (h1 : 0 ≤ x) (h2 : x ≤ y) (h3 : y ≤ 48) : gon R x y = bok R x y - fld R x y := gon_n i _ x h1 (by omega)
theorem gon_0 {R : Int → Int} {x y : Int} (h : y ≤ x) : gon R x y = 0 := by
  unfold gon
  rw [show (y - x).toNat = 0 by omega]; rfl
theorem lp_6 {d : Nat} {h : am_H} {q p : Nat} {R : Int → Int} (a : oI h q 48 R) (b : oI h p 48 (fun j => R (48 + j))) {x y : Int} (hx : 0 ≤ x ∧ y ≤ 48) : ∀ (n : Nat) (r s : Int), r + n = y → 0 ≤ r → am_X d 6 6 [.ref q, .ref p, .int (iI x), .int (iI y), .int (iI s), .int (iI r)] [] h (fun r' h' => rI r' (s + sm (fun j => R j * R (48 + j)) r n) ∧ h' = h)
  | 0, r, s, h1, h2 => by
    have h1 : r = y := by omega
    subst h1
    refine ax_iload f6_6 rfl ?_
    refine ax_iload_n f6_8 rfl ?_
    refine ax_icmp_ge f6_9 rfl ⟨by omega, by omega⟩ ⟨by omega, by omega⟩ (fun q9 => ?_) (fun q9 => absurd q9 (by omega))
    refine ax_iload f6_32 rfl ?_
    refine ax_ireturn f6_34 rfl rfl ?_
    exact ⟨rI_of (by rw [sm_0]; omega), rfl⟩
  | n + 1, r, s, h1, h2 => by
    refine ax_iload f6_6 rfl ?_
    refine ax_iload_n f6_8 rfl ?_
    refine ax_icmp_ge f6_9 rfl ⟨by omega, by omega⟩ ⟨by omega, by omega⟩ (fun q9 => absurd q9 (by omega)) (fun q9 => ?_)
    refine ax_iload f6_12 rfl ?_
    refine ax_aload_n f6_14 rfl ?_
    refine ax_iload f6_15 rfl ?_
    refine ax_ialdO f6_17 (by decide) a (by omega) (by omega) rfl ?_
    refine ax_aload_n f6_18 rfl ?_
    refine ax_iload f6_19 rfl ?_
    refine ax_ialdO f6_21 (by decide) b (by omega) (by omega) rfl ?_
    refine ax_imul f6_22 ?_
    refine ax_iadd f6_23 ?_
    refine ax_istore (ls' := [_, _, _, _, _, _]) f6_24 (Nat.le_of_ble_eq_true rfl) rfl ?_
    refine ax_iinc (ls' := [_, _, _, _, _, _]) f6_26 rfl (Nat.le_of_ble_eq_true rfl) rfl ?_
    refine ax_goto f6_29 rfl ?_
    have ih := lp_6 (d := d) a b hx n (r + 1) (s + R r * R (48 + r)) (by omega) (by omega)
    rw [Int.add_assoc, ← sm_1 (fun j => R j * R (48 + j))] at ih
    exact ih
theorem c_6 {h : am_H} {q p : Nat} {R : Int → Int} (a : oI h q 48 R) (b : oI h p 48 (fun j => R (48 + j))) {x y : Int} (h1 : 0 ≤ x) (h4 : x ≤ 48) (h0 : 0 ≤ y) (h3 : y ≤ 48) : am_X 0 6 0 (am_ent 6 [.ref q, .ref p, .int (iI x), .int (iI y)]) [] h (fun r h' => rI r (gon R x y) ∧ h' = h) := by
  show am_X 0 6 0 [.ref q, .ref p, .int (iI x), .int (iI y), am_u, am_u] [] h _
  refine ax_iconst f6_0 ?_
  refine ax_istore (ls' := [_, _, _, _, _, _]) f6_1 (Nat.le_of_ble_eq_true rfl) rfl ?_
  refine ax_iload_n f6_3 rfl ?_
  refine ax_istore (ls' := [_, _, _, _, _, _]) f6_4 (Nat.le_of_ble_eq_true rfl) rfl ?_
  by_cases h2 : x ≤ y
  · have ih := lp_6 (d := 0) a b (x := x) ⟨h1, h3⟩ (y - x).toNat x 0 (by omega) h1
    rw [Int.zero_add] at ih
    exact ih
  · refine ax_iload f6_6 rfl ?_
    refine ax_iload_n f6_8 rfl ?_
    refine ax_icmp_ge f6_9 rfl ⟨by omega, by omega⟩ ⟨by omega, by omega⟩ (fun q9 => ?_) (fun q9 => absurd q9 (by omega))
    refine ax_iload f6_32 rfl ?_
    refine ax_ireturn f6_34 rfl rfl ?_
    exact ⟨rI_of (gon_0 (by omega)).symm, rfl⟩
theorem c_7 {h : am_H} {q p : Nat} {R : Int → Int} (a : oI h q 48 R) (l : oI h p 48 (fun j => R (96 + j))) {r0 w : Int} (h1 : 0 ≤ r0) (h2 : r0 < 48) (hw : w = 0 ∨ w = 1 ∨ w = 2) : am_X 0 7 0 (am_ent 7 [.ref q, .ref p, .int (iI r0), .int (iI w)]) [] h (fun r h' => rI r (vl R w r0) ∧ h' = h) := by
  show am_X 0 7 0 [.ref q, .ref p, .int (iI r0), .int (iI w)] [] h _
  refine ax_iload_n f7_0 rfl ?_
  refine ax_if_ne f7_1 rfl ⟨by omega, by omega⟩ (fun q1 => ?_) (fun q1 => ?_)
  · refine ax_iload_n f7_8 rfl ?_
    refine ax_iconst f7_9 ?_
    refine ax_icmp_ne f7_10 rfl ⟨by omega, by omega⟩ ⟨by omega, by omega⟩ (fun q10 => ?_) (fun q10 => ?_)
    · refine ax_aload_n f7_19 rfl ?_
      refine ax_iload_n f7_20 rfl ?_
      refine ax_ialdO f7_21 (by decide) l (by omega) (by omega) rfl ?_
      refine ax_iconst f7_22 ?_
      refine ax_iadd f7_23 ?_
      refine ax_ireturn f7_24 rfl rfl ?_
      refine ⟨rI_of ?_, rfl⟩
      unfold vl
      rw [if_neg q10, if_pos (by omega)]
    · refine ax_aload_n f7_13 rfl ?_
      refine ax_iload_n f7_14 rfl ?_
      refine ax_ialdO f7_15 (by decide) a (by omega) (by omega) rfl ?_
      refine ax_goto f7_16 rfl ?_
      refine ax_ireturn f7_24 rfl rfl ?_
      refine ⟨rI_of ?_, rfl⟩
      unfold vl
      rw [if_pos (by omega)]
  · refine ax_iconst f7_4 ?_
    refine ax_goto f7_5 rfl ?_
    refine ax_ireturn f7_24 rfl rfl ?_
    refine ⟨rI_of ?_, rfl⟩
    unfold vl
    rw [if_neg (by omega), if_neg (by omega)]
end OWN
