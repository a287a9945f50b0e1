/-! ===== the class's states of the meadow: what is asked of them ===== -/
theorem c_bits {h : am_H} {g : Int → Int} : am_X 0 231 0 (am_ent 231 [.long (lB g)]) [] h (fun r h' => rI r (sm (fun j => if g j = 1 then 1 else 0) 0 48) ∧ h' = h) :=
  bc_set g ▸ c_231 (bN_64 g)
theorem sm_01 {g : Int → Int} (h : ∀ j, 0 ≤ j → j < 48 → g j = 0 ∨ g j = 1) : sm (fun j => if g j = 1 then 1 else 0) 0 48 = sm g 0 48 := sm_cong fun j h1 h2 => by
  rcases h j h1 (by omega) with e | e <;> simp [e]
theorem c_bit01 {h : am_H} {g : Int → Int} (hg : ∀ j, 0 ≤ j → j < 48 → g j = 0 ∨ g j = 1) : am_X 0 231 0 (am_ent 231 [.long (lB g)]) [] h (fun r h' => rI r (sm g 0 48) ∧ h' = h) :=
  sm_01 hg ▸ c_bits
def Mfs (p : Nat) (R : Int → Int) : List Value := [.ref (p + 1), .ref (p + 2), .ref (p + 3), .ref (p + 4), .long (lB fun j => R (144 + j)), .long (lB fun j => R (48 + j)), .long (lB fun j => R (218 + j)), .int (iI (R 192)), .int (iI (R 269)), .int (iI (R 217)), .int (iI (R 267)), .int (iI (R 268))]
def Mead (h : am_H) (p : Nat) (R : Int → Int) : Prop := h.1[p]? = some (.inr (3, Mfs p R)) ∧ oI h (p + 1) 48 R ∧ oI h (p + 2) 48 (fun j => R (96 + j)) ∧ oI h (p + 3) 12 (fun j => R (205 + j)) ∧ oI h (p + 4) 12 (fun j => R (193 + j))
theorem Mead.fr {h h' : am_H} {p : Nat} {R : Int → Int} {S : Nat → Prop} (a : Mead h p R) (b : fr S h h') (hq : ∀ q, p ≤ q → q ≤ p + 4 → ¬ S q) : Mead h' p R :=
  ⟨b.at (hq p (by omega) (by omega)) a.1, a.2.1.fr b (hq _ (by omega) (by omega)), a.2.2.1.fr b (hq _ (by omega) (by omega)), a.2.2.2.1.fr b (hq _ (by omega) (by omega)), a.2.2.2.2.fr b (hq _ (by omega) (by omega))⟩
theorem Mfs_eq {p : Nat} {R R' : Int → Int} (h1 : ∀ j, 0 ≤ j → j < 48 → (R' (144 + j) = 1 ↔ R (144 + j) = 1)) (h2 : ∀ j, 0 ≤ j → j < 48 → (R' (48 + j) = 1 ↔ R (48 + j) = 1)) (h3 : ∀ j, 0 ≤ j → j < 48 → (R' (218 + j) = 1 ↔ R (218 + j) = 1)) (h4 : R' 192 = R 192) (h5 : R' 269 = R 269) (h6 : R' 217 = R 217) (h7 : R' 267 = R 267) (h8 : R' 268 = R 268) : Mfs p R' = Mfs p R := by
  unfold Mfs
  rw [lB_cong h1, lB_cong h2, lB_cong h3, h4, h5, h6, h7, h8]
theorem Mead.eq {h : am_H} {p : Nat} {R R' : Int → Int} (a : Mead h p R) (e : ∀ j, 0 ≤ j → j < 270 → j ≠ 266 → R' j = R j) : Mead h p R' := by
  refine ⟨?_, a.2.1.eq fun j h1 h2 => e j h1 (by omega) (by omega), a.2.2.1.eq fun j h1 h2 => e _ (by omega) (by omega) (by omega), a.2.2.2.1.eq fun j h1 h2 => e _ (by omega) (by omega) (by omega), a.2.2.2.2.eq fun j h1 h2 => e _ (by omega) (by omega) (by omega)⟩
  rw [Mfs_eq (R := R) (fun j h1 h2 => by rw [e _ (by omega) (by omega) (by omega)]) (fun j h1 h2 => by rw [e _ (by omega) (by omega) (by omega)]) (fun j h1 h2 => by rw [e _ (by omega) (by omega) (by omega)]) (e _ (by omega) (by omega) (by omega)) (e _ (by omega) (by omega) (by omega)) (e _ (by omega) (by omega) (by omega)) (e _ (by omega) (by omega) (by omega)) (e _ (by omega) (by omega) (by omega))]
  exact a.1
section GET
theorem c_141 {h : am_H} {g : Int → Int} {z : Int} (h1 : 0 ≤ z) (h2 : z < 48) : am_X 0 141 0 (am_ent 141 [.long (lB g), .int (iI z)]) [] h (fun r h' => rI r (if g z = 1 then 1 else 0) ∧ h' = h) := by
  show am_X 0 141 0 [.long (lB g), am_u, .int (iI z)] [] h _
  refine ax_lload_n f141_0 rfl ?_
  refine ax_iload_n f141_1 rfl ?_
  refine ax_lushr f141_2 ?_
  refine ax_lconst f141_3 ?_
  refine ax_land f141_4 ?_
  refine ax_l2i f141_5 ?_
  refine ax_ireturn f141_6 rfl rfl ?_
  refine ⟨rI_zof ?_, rfl⟩
  have e : iI z = nI z.toNat := by rw [← iI_nat, Int.toNat_of_nonneg h1]
  show (((lN (bN g 48)).toUInt64 >>> ((iI z).toInt64.toUInt64 &&& Int64.toUInt64 63)).toInt64 &&& 1).toInt32 = _
  rw [e, wb_bit (bN_64 g) (by omega), lN_i, bN_bit g (by omega), Int.toNat_of_nonneg h1]
  split <;> rfl
theorem c_bit {h : am_H} {g : Int → Int} {z : Int} (h1 : 0 ≤ z) (h2 : z < 48) (hg : g z = 0 ∨ g z = 1) : am_X 0 141 0 (am_ent 141 [.long (lB g), .int (iI z)]) [] h (fun r h' => rI r (g z) ∧ h' = h) := by
  have e : (if g z = 1 then 1 else 0 : Int) = g z := by rcases hg with e | e <;> simp [e]
  exact e ▸ c_141 h1 h2
theorem c_43 {h : am_H} {p : Nat} {R : Int → Int} (hM : Mead h p R) {z : Int} (h1 : 0 ≤ z) (h2 : z < 48) : am_X 1 43 0 (am_ent 43 [.ref p, .int (iI z)]) [] h (fun r h' => rI r (R z) ∧ h' = h) := by
  show am_X 1 43 0 [.ref p, .int (iI z)] [] h _
  obtain ⟨o, mw, ml, mi, ms⟩ := hM
  refine ax_iload_n f43_0 rfl ?_
  refine ax_csI f43_1 (Or.inr (Or.inl rfl)) rfl rfl rfl rfl rfl rfl (c_134 ⟨by omega, by omega⟩) ?_
  rintro _ rfl
  rw [b2i_t ⟨h1, h2⟩]
  refine ax_if_eq f43_4 rfl ⟨by omega, by omega⟩ (fun q4 => absurd q4 (by omega)) (fun q4 => ?_)
  refine ax_aload_n f43_7 rfl ?_
  refine ax_getf f43_8 (by assumption) rfl ?_
  refine ax_iload_n f43_11 rfl ?_
  refine ax_ialdO f43_12 (by decide) (by assumption) (by omega) (by omega) rfl ?_
  refine ax_goto f43_13 rfl ?_
  refine ax_ireturn f43_17 rfl rfl ?_
  exact ⟨rI_of rfl, rfl⟩
theorem c_44 {h : am_H} {p : Nat} {R : Int → Int} (hM : Mead h p R) {z : Int} (h1 : 0 ≤ z) (h2 : z < 48) : am_X 1 44 0 (am_ent 44 [.ref p, .int (iI z)]) [] h (fun r h' => rI r (R (96 + z)) ∧ h' = h) := by
  show am_X 1 44 0 [.ref p, .int (iI z)] [] h _
  obtain ⟨o, mw, ml, mi, ms⟩ := hM
  refine ax_iload_n f44_0 rfl ?_
  refine ax_csI f44_1 (Or.inr (Or.inl rfl)) rfl rfl rfl rfl rfl rfl (c_134 ⟨by omega, by omega⟩) ?_
  rintro _ rfl
  rw [b2i_t ⟨h1, h2⟩]
  refine ax_if_eq f44_4 rfl ⟨by omega, by omega⟩ (fun q4 => absurd q4 (by omega)) (fun q4 => ?_)
  refine ax_aload_n f44_7 rfl ?_
  refine ax_getf f44_8 (by assumption) rfl ?_
  refine ax_iload_n f44_11 rfl ?_
  refine ax_ialdO f44_12 (by decide) (by assumption) (by omega) (by omega) rfl ?_
  refine ax_goto f44_13 rfl ?_
  refine ax_ireturn f44_17 rfl rfl ?_
  exact ⟨rI_of rfl, rfl⟩
def vl (R : Int → Int) (w r : Int) : Int := if w = 1 then R r else if w = 2 then R (96 + r) + 1 else 1
theorem c_46 {h : am_H} {p : Nat} {R : Int → Int} (hM : Mead h p R) {z : Int} (h1 : 0 ≤ z) (h2 : z < 12) : am_X 0 46 0 (am_ent 46 [.ref p, .int (iI z)]) [] h (fun r h' => rI r (R (205 + z)) ∧ h' = h) := by
  show am_X 0 46 0 [.ref p, .int (iI z)] [] h _
  obtain ⟨o, mw, ml, mi, ms⟩ := hM
  refine ax_iload_n f46_0 rfl ?_
  refine ax_if_lt f46_1 rfl ⟨by omega, by omega⟩ (fun q1 => absurd q1 (by omega)) (fun q1 => ?_)
  refine ax_iload_n f46_4 rfl ?_
  refine ax_bipush f46_5 ?_
  refine ax_icmp_ge f46_7 rfl ⟨by omega, by omega⟩ ⟨by omega, by omega⟩ (fun q7 => absurd q7 (by omega)) (fun q7 => ?_)
  refine ax_aload_n f46_10 rfl ?_
  refine ax_getf f46_11 (by assumption) rfl ?_
  refine ax_iload_n f46_14 rfl ?_
  refine ax_ialdO f46_15 (by decide) (by assumption) (by omega) (by omega) rfl ?_
  refine ax_goto f46_16 rfl ?_
  refine ax_ireturn f46_20 rfl rfl ?_
  exact ⟨rI_of rfl, rfl⟩
theorem c_47 {h : am_H} {p : Nat} {R : Int → Int} (hM : Mead h p R) {z : Int} (h1 : 0 ≤ z) (h2 : z < 12) : am_X 0 47 0 (am_ent 47 [.ref p, .int (iI z)]) [] h (fun r h' => rI r (R (193 + z)) ∧ h' = h) := by
  show am_X 0 47 0 [.ref p, .int (iI z)] [] h _
  obtain ⟨o, mw, ml, mi, ms⟩ := hM
  refine ax_iload_n f47_0 rfl ?_
  refine ax_if_lt f47_1 rfl ⟨by omega, by omega⟩ (fun q1 => absurd q1 (by omega)) (fun q1 => ?_)
  refine ax_iload_n f47_4 rfl ?_
  refine ax_bipush f47_5 ?_
  refine ax_icmp_ge f47_7 rfl ⟨by omega, by omega⟩ ⟨by omega, by omega⟩ (fun q7 => absurd q7 (by omega)) (fun q7 => ?_)
  refine ax_aload_n f47_10 rfl ?_
  refine ax_getf f47_11 (by assumption) rfl ?_
  refine ax_iload_n f47_14 rfl ?_
  refine ax_ialdO f47_15 (by decide) (by assumption) (by omega) (by omega) rfl ?_
  refine ax_goto f47_16 rfl ?_
  refine ax_ireturn f47_20 rfl rfl ?_
  exact ⟨rI_of rfl, rfl⟩
theorem c_45_0 {h : am_H} {p : Nat} {R : Int → Int} (hM : Mead h p R) {z : Int} (h1 : 0 ≤ z) (h2 : z < 48) : am_X 2 45 0 (am_ent 45 [.ref p, .int (iI z), .int (iI 0)]) [] h (fun r h' => rI r (vl R 0 z) ∧ h' = h) := by
  show am_X 2 45 0 [.ref p, .int (iI z), .int (iI 0)] [] h _
  refine ax_iload_n f45_0 rfl ?_
  refine ax_lsw f45_1 ⟨by omega, by omega⟩ rfl rfl rfl ?_
  refine ax_iconst f45_42 ?_
  refine ax_ireturn f45_43 rfl rfl ?_
  exact ⟨rI_of (by simp [vl]), rfl⟩
theorem c_45_1 {h : am_H} {p : Nat} {R : Int → Int} (hM : Mead h p R) {z : Int} (h1 : 0 ≤ z) (h2 : z < 48) : am_X 2 45 0 (am_ent 45 [.ref p, .int (iI z), .int (iI 1)]) [] h (fun r h' => rI r (vl R 1 z) ∧ h' = h) := by
  show am_X 2 45 0 [.ref p, .int (iI z), .int (iI 1)] [] h _
  refine ax_iload_n f45_0 rfl ?_
  refine ax_lsw f45_1 ⟨by omega, by omega⟩ rfl rfl rfl ?_
  refine ax_aload_n f45_28 rfl ?_
  refine ax_iload_n f45_29 rfl ?_
  refine ax_cvI f45_30 hM.1 rfl rfl rfl rfl rfl rfl rfl rfl (c_43 hM h1 h2) ?_
  rintro _ rfl
  refine ax_ireturn f45_33 rfl rfl ?_
  exact ⟨rI_of (by simp [vl]), rfl⟩
theorem c_45_2 {h : am_H} {p : Nat} {R : Int → Int} (hM : Mead h p R) {z : Int} (h1 : 0 ≤ z) (h2 : z < 48) : am_X 2 45 0 (am_ent 45 [.ref p, .int (iI z), .int (iI 2)]) [] h (fun r h' => rI r (vl R 2 z) ∧ h' = h) := by
  show am_X 2 45 0 [.ref p, .int (iI z), .int (iI 2)] [] h _
  refine ax_iload_n f45_0 rfl ?_
  refine ax_lsw f45_1 ⟨by omega, by omega⟩ rfl rfl rfl ?_
  refine ax_aload_n f45_34 rfl ?_
  refine ax_iload_n f45_35 rfl ?_
  refine ax_cvI f45_36 hM.1 rfl rfl rfl rfl rfl rfl rfl rfl (c_44 hM h1 h2) ?_
  rintro _ rfl
  refine ax_iconst f45_39 ?_
  refine ax_iadd f45_40 ?_
  refine ax_ireturn f45_41 rfl rfl ?_
  exact ⟨rI_of (by simp [vl]), rfl⟩
theorem c_45 {h : am_H} {p : Nat} {R : Int → Int} (hM : Mead h p R) {z : Int} (h1 : 0 ≤ z) (h2 : z < 48) {y : Int} (hy : y = 0 ∨ y = 1 ∨ y = 2) : am_X 2 45 0 (am_ent 45 [.ref p, .int (iI z), .int (iI y)]) [] h (fun r h' => rI r (vl R y z) ∧ h' = h) := by
  rcases hy with rfl | rfl | rfl
  · exact c_45_0 hM h1 h2
  · exact c_45_1 hM h1 h2
  · exact c_45_2 hM h1 h2
theorem blk_set {R : Int → Int} (i : ffe R) : blk R = sm (fun j => R (144 + j)) 0 48 + 1 := by
  have e : sm (fun j => R (144 + j)) 0 48 = R (144 + 0) + sm (fun j => R (144 + j)) (0 + 1) 47 := rfl
  have f0 : R (144 + 0) = 0 := i.2
  rw [e, f0]
  unfold blk
  rw [show (0 : Int) + 1 = 1 from rfl]; omega
theorem c_48 {h : am_H} {p : Nat} {R : Int → Int} (hM : Mead h p R) (i : ffe R) : am_X 1 48 0 (am_ent 48 [.ref p]) [] h (fun r h' => rI r (blk R) ∧ h' = h) := by
  show am_X 1 48 0 [.ref p] [] h _
  obtain ⟨o, mw, ml, mi, ms⟩ := hM
  refine ax_aload_n f48_0 rfl ?_
  refine ax_getf f48_1 (by assumption) rfl ?_
  refine ax_csI f48_4 (Or.inl rfl) rfl rfl rfl rfl rfl rfl (c_bit01 (fun j h1 h2 => i.1 j h1 h2)) ?_
  rintro _ rfl
  refine ax_iconst f48_7 ?_
  refine ax_iadd f48_8 ?_
  refine ax_ireturn f48_9 rfl rfl ?_
  exact ⟨rI_of (blk_set i).symm, rfl⟩
theorem c_49 {h : am_H} {p : Nat} {R : Int → Int} (hM : Mead h p R) (i : ffe R) (i2 : blk R ≤ 12) {z : Int} (hz : inI z) : am_X 2 49 0 (am_ent 49 [.ref p, .int (iI z)]) [] h (fun r h' => rI r (b2i (0 ≤ z ∧ z < blk R)) ∧ h' = h) := by
  show am_X 2 49 0 [.ref p, .int (iI z)] [] h _
  obtain ⟨z1, z2⟩ := hz
  have b1 := blk_1 i
  refine ax_iload_n f49_0 rfl ?_
  refine ax_if_lt f49_1 rfl ⟨by omega, by omega⟩ (fun q1 => ?_) (fun q1 => ?_)
  · refine ax_iconst f49_16 ?_
    refine ax_ireturn f49_17 rfl rfl ?_
    exact ⟨rI_of (by simp only [b2i]; split <;> omega), rfl⟩
  · refine ax_iload_n f49_4 rfl ?_
    refine ax_aload_n f49_5 rfl ?_
    refine ax_cvI f49_6 hM.1 rfl rfl rfl rfl rfl rfl rfl rfl (c_48 hM i) ?_
    rintro _ rfl
    refine ax_icmp_ge f49_9 rfl ⟨by omega, by omega⟩ ⟨by omega, by omega⟩ (fun q9 => ?_) (fun q9 => ?_)
    · refine ax_iconst f49_16 ?_
      refine ax_ireturn f49_17 rfl rfl ?_
      exact ⟨rI_of (by simp only [b2i]; split <;> omega), rfl⟩
    · refine ax_iconst f49_12 ?_
      refine ax_goto f49_13 rfl ?_
      refine ax_ireturn f49_17 rfl rfl ?_
      exact ⟨rI_of (by simp only [b2i]; split <;> omega), rfl⟩
theorem frx_lo {R : Int → Int} (i : ffe R) {k : Int} (h : 0 < k) : fro R k = frx R k 1 47 := by
  show (if bat R 0 < k then frx R k (0 + 1) 47 else 0) = _
  rw [bat_0, if_pos h]; rfl
theorem lp_50 {d p : Nat} {h : am_H} {Q : am_R → am_H → Prop} {R : Int → Int} {kk : Int} (o : h.1[p]? = some (.inr (3, Mfs p R))) (i : ffe R) : ∀ (n : Nat) (r s : Int), r + n = 48 → 1 ≤ r → s = bat R (r - 1) → s < kk → kk ≤ 12 → (Q (.inl (some (.int (iI (frx R kk r n))))) h) → am_X (d + 1) 50 10 [.ref p, .int (iI kk), .int (iI s), .int (iI r)] [] h Q
  | 0, r, s, h1, h2, h3, h4, h5, k => by
    have k : Q (.inl (some (.int (iI r)))) h := k
    have h1 : r = 48 := by omega
    subst h1
    refine ax_iload_n f50_10 rfl ?_
    refine ax_bipush f50_11 ?_
    refine ax_icmp_ge f50_13 rfl ⟨by omega, by omega⟩ ⟨by omega, by omega⟩ (fun q13 => ?_) (fun q13 => absurd q13 (by omega))
    refine ax_bipush f50_40 ?_
    refine ax_ireturn f50_42 rfl rfl ?_
    exact k
  | n + 1, r, s, h1, h2, h3, h4, h5, k => by
    have hb : bat R r = s + R (144 + r) := by
      have := bat_s (R := R) (r := r - 1) (by omega)
      rwa [show r - 1 + 1 = r by omega, ← h3] at this
    have h01 := i.1 r (by omega) (by omega)
    have hs0 := bat_ge i (a := r - 1) (by omega) (by omega)
    rw [← h3] at hs0
    refine ax_iload_n f50_10 rfl ?_
    refine ax_bipush f50_11 ?_
    refine ax_icmp_ge f50_13 rfl ⟨by omega, by omega⟩ ⟨by omega, by omega⟩ (fun q13 => absurd q13 (by omega)) (fun q13 => ?_)
    refine ax_iload_n f50_16 rfl ?_
    refine ax_aload_n f50_17 rfl ?_
    refine ax_getf f50_18 o rfl ?_
    refine ax_iload_n f50_21 rfl ?_
    refine ax_csI f50_22 (Or.inr (Or.inl rfl)) rfl rfl rfl rfl rfl rfl (c_bit (by omega) (by omega) (i.1 _ (by omega) (by omega))) ?_
    rintro _ rfl
    refine ax_iadd f50_25 ?_
    refine ax_istore_n f50_26 (Nat.le_of_ble_eq_true rfl) rfl ?_
    refine ax_iload_n f50_27 rfl ?_
    refine ax_iload_n f50_28 rfl ?_
    refine ax_icmp_ne f50_29 rfl ⟨by omega, by omega⟩ ⟨by omega, by omega⟩ (fun q29 => ?_) (fun q29 => ?_)
    · refine ax_iinc f50_34 rfl (Nat.le_of_ble_eq_true rfl) rfl ?_
      refine ax_goto f50_37 rfl ?_
      refine lp_50 o i n (r + 1) (s + R (144 + r)) (by omega) (by omega) (by rw [show r + 1 - 1 = r by omega, hb]) (by omega) h5 ?_
      unfold frx at k
      rwa [if_pos (by omega)] at k
    · refine ax_iload_n f50_32 rfl ?_
      refine ax_ireturn f50_33 rfl rfl ?_
      unfold frx at k
      rwa [if_neg (by omega)] at k
theorem c_50 {h : am_H} {p : Nat} {R : Int → Int} (hM : Mead h p R) (i : ffe R) {z : Int} (h1 : 0 ≤ z) (h2 : z ≤ 12) : am_X 1 50 0 (am_ent 50 [.ref p, .int (iI z)]) [] h (fun r h' => rI r (fro R z) ∧ h' = h) := by
  show am_X 1 50 0 [.ref p, .int (iI z), am_u, am_u] [] h _
  refine ax_iload_n f50_0 rfl ?_
  refine ax_if_gt f50_1 rfl ⟨by omega, by omega⟩ (fun q1 => ?_) (fun q1 => ?_)
  · refine ax_iconst f50_6 ?_
    refine ax_istore_n f50_7 (Nat.le_of_ble_eq_true rfl) rfl ?_
    refine ax_iconst f50_8 ?_
    refine ax_istore_n f50_9 (Nat.le_of_ble_eq_true rfl) rfl ?_
    refine lp_50 (d := 0) hM.1 i 47 1 0 (by omega) (by omega) rfl (by omega) h2 ?_
    exact ⟨rI_of (frx_lo i (by omega)).symm, rfl⟩
  · refine ax_iconst f50_4 ?_
    refine ax_ireturn f50_5 rfl rfl ?_
    exact ⟨rI_of (fro_0 i (by omega)).symm, rfl⟩
theorem lp_52 {d p : Nat} {h : am_H} {Q : am_R → am_H → Prop} {R : Int → Int} {x1 x2 : Int32} {last : Int} (o : h.1[p]? = some (.inr (3, Mfs p R))) (arr : oI h (p + 1) 48 R) : ∀ (n : Nat) (b r : Int), r + n = last → 0 ≤ r → last ≤ 48 → (am_X (d + 1) 52 40 [.ref p, .int x1, .int x2, .int (iI (b + sm R r n)), .int (iI last), .int (iI last)] [] h Q) → am_X (d + 1) 52 17 [.ref p, .int x1, .int x2, .int (iI (b)), .int (iI last), .int (iI r)] [] h Q
  | 0, b, r, h1, h2, hl, k => by
    have h1 : r = last := by omega
    subst h1
    refine ax_iload f52_17 rfl ?_
    refine ax_iload f52_19 rfl ?_
    refine ax_icmp_ge f52_21 rfl ⟨by omega, by omega⟩ ⟨by omega, by omega⟩ (fun q21 => ?_) (fun q21 => absurd q21 (by omega))
    rwa [sm_0, Int.add_zero] at k
  | n + 1, b, r, h1, h2, hl, k => by
    refine ax_iload f52_17 rfl ?_
    refine ax_iload f52_19 rfl ?_
    refine ax_icmp_ge f52_21 rfl ⟨by omega, by omega⟩ ⟨by omega, by omega⟩ (fun q21 => absurd q21 (by omega)) (fun q21 => ?_)
    refine ax_iload_n f52_24 rfl ?_
    refine ax_aload_n f52_25 rfl ?_
    refine ax_getf f52_26 (by assumption) rfl ?_
    refine ax_iload f52_29 rfl ?_
    refine ax_ialdO f52_31 (by decide) (by assumption) (by omega) (by omega) rfl ?_
    refine ax_iadd f52_32 ?_
    refine ax_istore_n f52_33 (Nat.le_of_ble_eq_true rfl) rfl ?_
    refine ax_iinc f52_34 rfl (Nat.le_of_ble_eq_true rfl) rfl ?_
    refine ax_goto f52_37 rfl ?_
    refine lp_52 o arr n _ (r + 1) (by omega) (by omega) hl ?_
    rw [sm_1, ← Int.add_assoc] at k
    exact k
theorem lp_54 {d p : Nat} {h : am_H} {Q : am_R → am_H → Prop} {R : Int → Int} (o : h.1[p]? = some (.inr (3, Mfs p R))) (arr : oI h (p + 2) 48 (fun j => R (96 + j))) : ∀ (n : Nat) (b r : Int), r + n = 48 → 0 ≤ r → (am_X (d + 1) 54 25 [.ref p, .int (iI (b + sm (fun j => R (96 + j)) r n)), .int (iI 48)] [] h Q) → am_X (d + 1) 54 4 [.ref p, .int (iI (b)), .int (iI r)] [] h Q
  | 0, b, r, h1, h2, k => by
    have h1 : r = 48 := by omega
    subst h1
    refine ax_iload_n f54_4 rfl ?_
    refine ax_bipush f54_5 ?_
    refine ax_icmp_ge f54_7 rfl ⟨by omega, by omega⟩ ⟨by omega, by omega⟩ (fun q7 => ?_) (fun q7 => absurd q7 (by omega))
    rwa [sm_0, Int.add_zero] at k
  | n + 1, b, r, h1, h2, k => by
    refine ax_iload_n f54_4 rfl ?_
    refine ax_bipush f54_5 ?_
    refine ax_icmp_ge f54_7 rfl ⟨by omega, by omega⟩ ⟨by omega, by omega⟩ (fun q7 => absurd q7 (by omega)) (fun q7 => ?_)
    refine ax_iload_n f54_10 rfl ?_
    refine ax_aload_n f54_11 rfl ?_
    refine ax_getf f54_12 (by assumption) rfl ?_
    refine ax_iload_n f54_15 rfl ?_
    refine ax_ialdO f54_16 (by decide) (by assumption) (by omega) (by omega) rfl ?_
    refine ax_iadd f54_17 ?_
    refine ax_istore_n f54_18 (Nat.le_of_ble_eq_true rfl) rfl ?_
    refine ax_iinc f54_19 rfl (Nat.le_of_ble_eq_true rfl) rfl ?_
    refine ax_goto f54_22 rfl ?_
    refine lp_54 o arr n _ (r + 1) (by omega) (by omega) ?_
    rw [sm_1, ← Int.add_assoc] at k
    exact k
theorem lp_55 {d p : Nat} {h : am_H} {Q : am_R → am_H → Prop} {R : Int → Int} (o : h.1[p]? = some (.inr (3, Mfs p R))) (arr : oI h (p + 4) 12 (fun j => R (193 + j))) : ∀ (n : Nat) (b r : Int), r + n = 12 → 0 ≤ r → (am_X (d + 1) 55 25 [.ref p, .int (iI (b + sm (fun j => R (193 + j)) r n)), .int (iI 12)] [] h Q) → am_X (d + 1) 55 4 [.ref p, .int (iI (b)), .int (iI r)] [] h Q
  | 0, b, r, h1, h2, k => by
    have h1 : r = 12 := by omega
    subst h1
    refine ax_iload_n f55_4 rfl ?_
    refine ax_bipush f55_5 ?_
    refine ax_icmp_ge f55_7 rfl ⟨by omega, by omega⟩ ⟨by omega, by omega⟩ (fun q7 => ?_) (fun q7 => absurd q7 (by omega))
    rwa [sm_0, Int.add_zero] at k
  | n + 1, b, r, h1, h2, k => by
    refine ax_iload_n f55_4 rfl ?_
    refine ax_bipush f55_5 ?_
    refine ax_icmp_ge f55_7 rfl ⟨by omega, by omega⟩ ⟨by omega, by omega⟩ (fun q7 => absurd q7 (by omega)) (fun q7 => ?_)
    refine ax_iload_n f55_10 rfl ?_
    refine ax_aload_n f55_11 rfl ?_
    refine ax_getf f55_12 (by assumption) rfl ?_
    refine ax_iload_n f55_15 rfl ?_
    refine ax_ialdO f55_16 (by decide) (by assumption) (by omega) (by omega) rfl ?_
    refine ax_iadd f55_17 ?_
    refine ax_istore_n f55_18 (Nat.le_of_ble_eq_true rfl) rfl ?_
    refine ax_iinc f55_19 rfl (Nat.le_of_ble_eq_true rfl) rfl ?_
    refine ax_goto f55_22 rfl ?_
    refine lp_55 o arr n _ (r + 1) (by omega) (by omega) ?_
    rw [sm_1, ← Int.add_assoc] at k
    exact k
theorem lp_53 {d p : Nat} {h : am_H} {Q : am_R → am_H → Prop} {R : Int → Int} {x1 x2 : Int32} {last : Int} (o : h.1[p]? = some (.inr (3, Mfs p R))) (arr : oI h (p + 1) 48 R) (i : i01 R 48 48) : ∀ (n : Nat) (b r : Int), r + n = last → 0 ≤ r → last ≤ 48 → (am_X (d + 1) 53 52 [.ref p, .int x1, .int x2, .int (iI (b + sm (fv R) r n)), .int (iI last), .int (iI last)] [] h Q) → am_X (d + 1) 53 17 [.ref p, .int x1, .int x2, .int (iI (b)), .int (iI last), .int (iI r)] [] h Q
  | 0, b, r, h1, h2, hl, k => by
    have h1 : r = last := by omega
    subst h1
    refine ax_iload f53_17 rfl ?_
    refine ax_iload f53_19 rfl ?_
    refine ax_icmp_ge f53_21 rfl ⟨by omega, by omega⟩ ⟨by omega, by omega⟩ (fun q21 => ?_) (fun q21 => absurd q21 (by omega))
    rwa [sm_0, Int.add_zero] at k
  | n + 1, b, r, h1, h2, hl, k => by
    have h01 := i r (by omega) (by omega)
    refine ax_iload f53_17 rfl ?_
    refine ax_iload f53_19 rfl ?_
    refine ax_icmp_ge f53_21 rfl ⟨by omega, by omega⟩ ⟨by omega, by omega⟩ (fun q21 => absurd q21 (by omega)) (fun q21 => ?_)
    refine ax_aload_n f53_24 rfl ?_
    refine ax_getf f53_25 o rfl ?_
    refine ax_iload f53_28 rfl ?_
    refine ax_csI f53_30 (Or.inr (Or.inl rfl)) rfl rfl rfl rfl rfl rfl (c_bit (by omega) (by omega) (i _ (by omega) (by omega))) ?_
    rintro _ rfl
    refine ax_if_ne f53_33 rfl ⟨by omega, by omega⟩ (fun q33 => ?_) (fun q33 => ?_)
    · refine ax_iinc f53_46 rfl (Nat.le_of_ble_eq_true rfl) rfl ?_
      refine ax_goto f53_49 rfl ?_
      refine lp_53 o arr i n _ (r + 1) (by omega) (by omega) hl ?_
      rw [sm_1, ← Int.add_assoc] at k
      rw [fv] at k
      rwa [if_pos (by omega), Int.add_zero] at k
    · refine ax_iload_n f53_36 rfl ?_
      refine ax_aload_n f53_37 rfl ?_
      refine ax_getf f53_38 o rfl ?_
      refine ax_iload f53_41 rfl ?_
      refine ax_ialdO f53_43 (by decide) arr (by omega) (by omega) rfl ?_
      refine ax_iadd f53_44 ?_
      refine ax_istore_n f53_45 (Nat.le_of_ble_eq_true rfl) rfl ?_
      refine ax_iinc f53_46 rfl (Nat.le_of_ble_eq_true rfl) rfl ?_
      refine ax_goto f53_49 rfl ?_
      refine lp_53 o arr i n _ (r + 1) (by omega) (by omega) hl ?_
      rw [sm_1, ← Int.add_assoc] at k
      rw [fv] at k
      rwa [if_neg (by omega)] at k
theorem c_52 {h : am_H} {p : Nat} {R : Int → Int} (hM : Mead h p R) {a b : Int} (h1 : 0 ≤ a) (h2 : a ≤ b) (h3 : b ≤ 48) : am_X 1 52 0 (am_ent 52 [.ref p, .int (iI a), .int (iI b)]) [] h (fun r h' => rI r (bok R a b) ∧ h' = h) := by
  show am_X 1 52 0 [.ref p, .int (iI a), .int (iI b), am_u, am_u, am_u] [] h _
  refine ax_iconst f52_0 ?_
  refine ax_istore_n f52_1 (Nat.le_of_ble_eq_true rfl) rfl ?_
  refine ax_iload_n f52_2 rfl ?_
  refine ax_bipush f52_3 ?_
  refine ax_min f52_5 (Nat.le_of_ble_eq_true rfl) ⟨by omega, by omega⟩ ⟨by omega, by omega⟩ ?_
  rw [Int.min_eq_left h3]
  refine ax_istore f52_8 (Nat.le_of_ble_eq_true rfl) rfl ?_
  refine ax_iload_n f52_10 rfl ?_
  refine ax_iconst f52_11 ?_
  refine ax_max f52_12 (Nat.le_of_ble_eq_true rfl) ⟨by omega, by omega⟩ ⟨by omega, by omega⟩ ?_
  rw [Int.max_eq_left h1]
  refine ax_istore f52_15 (Nat.le_of_ble_eq_true rfl) rfl ?_
  refine lp_52 (d := 0) hM.1 hM.2.1 (b - a).toNat 0 a (by omega) (by omega) h3 ?_
  refine ax_iload_n f52_40 rfl ?_
  refine ax_ireturn f52_41 rfl rfl ?_
  exact ⟨rI_of (Int.zero_add _), rfl⟩
theorem c_53 {h : am_H} {p : Nat} {R : Int → Int} (hM : Mead h p R) (i : i01 R 48 48) {a b : Int} (h1 : 0 ≤ a) (h2 : a ≤ b) (h3 : b ≤ 48) : am_X 1 53 0 (am_ent 53 [.ref p, .int (iI a), .int (iI b)]) [] h (fun r h' => rI r (fld R a b) ∧ h' = h) := by
  show am_X 1 53 0 [.ref p, .int (iI a), .int (iI b), am_u, am_u, am_u] [] h _
  refine ax_iconst f53_0 ?_
  refine ax_istore_n f53_1 (Nat.le_of_ble_eq_true rfl) rfl ?_
  refine ax_iload_n f53_2 rfl ?_
  refine ax_bipush f53_3 ?_
  refine ax_min f53_5 (Nat.le_of_ble_eq_true rfl) ⟨by omega, by omega⟩ ⟨by omega, by omega⟩ ?_
  rw [Int.min_eq_left h3]
  refine ax_istore f53_8 (Nat.le_of_ble_eq_true rfl) rfl ?_
  refine ax_iload_n f53_10 rfl ?_
  refine ax_iconst f53_11 ?_
  refine ax_max f53_12 (Nat.le_of_ble_eq_true rfl) ⟨by omega, by omega⟩ ⟨by omega, by omega⟩ ?_
  rw [Int.max_eq_left h1]
  refine ax_istore f53_15 (Nat.le_of_ble_eq_true rfl) rfl ?_
  refine lp_53 (d := 0) hM.1 hM.2.1 i (b - a).toNat 0 a (by omega) (by omega) h3 ?_
  refine ax_iload_n f53_52 rfl ?_
  refine ax_ireturn f53_53 rfl rfl ?_
  exact ⟨rI_of (Int.zero_add _), rfl⟩
theorem c_54 {h : am_H} {p : Nat} {R : Int → Int} (hM : Mead h p R)  : am_X 1 54 0 (am_ent 54 [.ref p]) [] h (fun r h' => rI r (sm (fun j => R (96 + j)) 0 48) ∧ h' = h) := by
  show am_X 1 54 0 [.ref p, am_u, am_u] [] h _
  refine ax_iconst f54_0 ?_
  refine ax_istore_n f54_1 (Nat.le_of_ble_eq_true rfl) rfl ?_
  refine ax_iconst f54_2 ?_
  refine ax_istore_n f54_3 (Nat.le_of_ble_eq_true rfl) rfl ?_
  refine lp_54 (d := 0) hM.1 hM.2.2.1 48 0 0 (by omega) (by omega) ?_
  refine ax_iload_n f54_25 rfl ?_
  refine ax_ireturn f54_26 rfl rfl ?_
  exact ⟨rI_of (Int.zero_add _), rfl⟩
theorem c_55 {h : am_H} {p : Nat} {R : Int → Int} (hM : Mead h p R)  : am_X 1 55 0 (am_ent 55 [.ref p]) [] h (fun r h' => rI r (sm (fun j => R (193 + j)) 0 12) ∧ h' = h) := by
  show am_X 1 55 0 [.ref p, am_u, am_u] [] h _
  refine ax_iconst f55_0 ?_
  refine ax_istore_n f55_1 (Nat.le_of_ble_eq_true rfl) rfl ?_
  refine ax_iconst f55_2 ?_
  refine ax_istore_n f55_3 (Nat.le_of_ble_eq_true rfl) rfl ?_
  refine lp_55 (d := 0) hM.1 hM.2.2.2.2 12 0 0 (by omega) (by omega) ?_
  refine ax_iload_n f55_25 rfl ?_
  refine ax_ireturn f55_26 rfl rfl ?_
  exact ⟨rI_of (Int.zero_add _), rfl⟩
theorem lB_upto {z : Int} (h1 : 0 ≤ z) (h2 : z < 48) : (2 : Int64) <<< ((iI z).toInt64 &&& 63) - Int64.ofNat ((1 : Fin 2) : Nat) = lB (fun j => if j ≤ z then 1 else 0) := by
  have e : iI z = nI z.toNat := by rw [← iI_nat, Int.toNat_of_nonneg h1]
  have hp : 1 ≤ 2 ^ (z.toNat + 1) := Nat.two_pow_pos _
  have hb : 2 ^ (z.toNat + 1) ≤ 2 ^ 48 := Nat.pow_le_pow_right (by decide) (by omega)
  rw [e, show (2 : Int64) = lN 2 from rfl, wb_shl 2 (by omega), show Int64.ofNat ((1 : Fin 2) : Nat) = lN 1 from rfl, show 2 * 2 ^ z.toNat = 2 ^ (z.toNat + 1) by rw [Nat.pow_succ, Nat.mul_comm], lN_sub hp, lB_nat (by omega)]
  apply lB_congE
  intro j j1 j2
  rw [Nat.testBit_two_pow_sub_one]
  by_cases h : j ≤ z
  · rw [if_pos h, if_pos]; simp; omega
  · rw [if_neg h, if_neg]; simp; omega
theorem bat_set {R : Int → Int} (i : ffe R) {z : Int} (h1 : 0 ≤ z) (h2 : z < 48) : sm (fun j => if (if R (144 + j) = 1 then (if j ≤ z then 1 else 0) else 0 : Int) = 1 then 1 else 0) 0 48 = bat R z := by
  have e1 : (48 : Nat) = (z.toNat + 1) + (47 - z.toNat) := by omega
  rw [e1, sm_cat, sm_1]
  have e2 : sm (fun j => if (if R (144 + j) = 1 then (if j ≤ z then 1 else 0) else 0 : Int) = 1 then 1 else 0) (0 + ((z.toNat + 1 : Nat) : Int)) (47 - z.toNat) = 0 := by
    have a := sm_cong (f := fun j => if (if R (144 + j) = 1 then (if j ≤ z then 1 else 0) else 0 : Int) = 1 then 1 else 0) (g := fun _ => 0) (n := 47 - z.toNat) (a := 0 + ((z.toNat + 1 : Nat) : Int)) (fun j j1 j2 => by
      have hj : ¬ j ≤ z := by omega
      simp [hj])
    rw [a]
    have l1 := sm_le (f := fun _ => 0) (c := 0) (n := 47 - z.toNat) (a := 0 + ((z.toNat + 1 : Nat) : Int)) (fun _ _ _ => Int.le_refl _)
    have l2 := sm_ge (f := fun _ => 0) (c := 0) (n := 47 - z.toNat) (a := 0 + ((z.toNat + 1 : Nat) : Int)) (fun _ _ _ => Int.le_refl _)
    omega
  have e3 : sm (fun j => if (if R (144 + j) = 1 then (if j ≤ z then 1 else 0) else 0 : Int) = 1 then 1 else 0) (0 + 1) z.toNat = bat R z := sm_cong fun j j1 j2 => by
    have hj : j ≤ z := by omega
    rcases i.1 j (by omega) (by omega) with e | e <;> simp [e, hj]
  have f0 : R (144 + 0) = 0 := i.2
  rw [e2, e3, f0]; simp
theorem c_51 {h : am_H} {p : Nat} {R : Int → Int} (hM : Mead h p R) (i : ffe R) {z : Int} (h1 : 0 ≤ z) (h2 : z < 48) : am_X 1 51 0 (am_ent 51 [.ref p, .int (iI z)]) [] h (fun r h' => rI r (bat R z) ∧ h' = h) := by
  show am_X 1 51 0 [.ref p, .int (iI z), am_u, am_u] [] h _
  obtain ⟨o, mw, ml, mi, ms⟩ := hM
  refine ax_ldc2_w f51_0 ?_
  refine ax_iload_n f51_3 rfl ?_
  refine ax_lshl f51_4 ?_
  refine ax_lconst f51_5 ?_
  refine ax_lsub f51_6 ?_
  refine ax_lstore_n f51_7 (Nat.le_of_ble_eq_true rfl) rfl ?_
  refine ax_aload_n f51_8 rfl ?_
  refine ax_getf f51_9 (by assumption) rfl ?_
  refine ax_lload_n f51_12 rfl ?_
  refine ax_land f51_13 ?_
  have es : (fun j => R (144 + j)) = fun j => R (144 + j) := rfl
  rw [lB_upto h1 h2, lB_and]
  refine ax_csI f51_14 (Or.inl rfl) rfl rfl rfl rfl rfl rfl (c_bits) ?_
  rintro _ rfl
  refine ax_ireturn f51_17 rfl rfl ?_
  exact ⟨rI_of (bat_set i h1 h2), rfl⟩
theorem c_56 {h : am_H} {p : Nat} {R : Int → Int} (hM : Mead h p R) (i1 : R 192 = 0 ∨ R 192 = 1) (i2 : R 269 = 0 ∨ R 269 = 1) : am_X 0 56 0 (am_ent 56 [.ref p]) [] h (fun r h' => rI r (b2i (R 192 = 1 ∨ R 269 = 0)) ∧ h' = h) := by
  show am_X 0 56 0 [.ref p] [] h _
  obtain ⟨o, mw, ml, mi, ms⟩ := hM
  refine ax_aload_n f56_0 rfl ?_
  refine ax_getf f56_1 (by assumption) rfl ?_
  refine ax_if_ne f56_4 rfl ⟨by omega, by omega⟩ (fun q4 => ?_) (fun q4 => ?_)
  · refine ax_iconst f56_14 ?_
    refine ax_goto f56_15 rfl ?_
    refine ax_ireturn f56_19 rfl rfl ?_
    exact ⟨rI_of (by simp only [b2i]; split <;> omega), rfl⟩
  · refine ax_aload_n f56_7 rfl ?_
    refine ax_getf f56_8 (by assumption) rfl ?_
    refine ax_if_ne f56_11 rfl ⟨by omega, by omega⟩ (fun q11 => ?_) (fun q11 => ?_)
    · refine ax_iconst f56_18 ?_
      refine ax_ireturn f56_19 rfl rfl ?_
      exact ⟨rI_of (by simp only [b2i]; split <;> omega), rfl⟩
    · refine ax_iconst f56_14 ?_
      refine ax_goto f56_15 rfl ?_
      refine ax_ireturn f56_19 rfl rfl ?_
      exact ⟨rI_of (by simp only [b2i]; split <;> omega), rfl⟩
theorem c_57 {h : am_H} {p : Nat} {R : Int → Int} (hM : Mead h p R) (i : ffe R) (i2 : blk R ≤ 12) {z y : Int} (hz : inI z) (hy : y = 0 ∨ y = 1) : am_X 1 57 0 (am_ent 57 [.ref p, .int (iI z), .int (iI y)]) [] h (fun r h' => rI r (b2i ((1 ≤ z ∧ z < 48) ∧ (y = 0 ∨ R (144 + z) = 1 ∨ blk R ≤ 11))) ∧ h' = h) := by
  show am_X 1 57 0 [.ref p, .int (iI z), .int (iI y)] [] h _
  obtain ⟨o, mw, ml, mi, ms⟩ := hM
  refine ax_iload_n f57_0 rfl ?_
  refine ax_csI f57_1 (Or.inr (Or.inl rfl)) rfl rfl rfl rfl rfl rfl (c_135 hz) ?_
  rintro _ rfl
  have hbb := b2i_in (c := 1 ≤ z ∧ z < 48)
  refine ax_if_eq f57_4 rfl ⟨by omega, by omega⟩ (fun q4 => ?_) (fun q4 => ?_)
  · refine ax_iconst f57_39 ?_
    refine ax_ireturn f57_40 rfl rfl ?_
    have hz2 : ¬ (1 ≤ z ∧ z < 48) := fun x => by rw [b2i_t x] at q4; omega
    exact ⟨rI_of (by rw [b2i_f (fun x => hz2 x.1)]), rfl⟩
  · have hz2 : 1 ≤ z ∧ z < 48 := by
      by_cases x : 1 ≤ z ∧ z < 48
      · exact x
      · rw [b2i_f x] at q4; omega
    clear q4 hbb
    refine ax_iload_n f57_7 rfl ?_
    refine ax_if_eq f57_8 rfl ⟨by omega, by omega⟩ (fun q8 => ?_) (fun q8 => ?_)
    · refine ax_iconst f57_35 ?_
      refine ax_goto f57_36 rfl ?_
      refine ax_ireturn f57_40 rfl rfl ?_
      exact ⟨rI_of (by simp only [b2i]; split <;> omega), rfl⟩
    · refine ax_aload_n f57_11 rfl ?_
      refine ax_getf f57_12 (by assumption) rfl ?_
      refine ax_iload_n f57_15 rfl ?_
      refine ax_csI f57_16 (Or.inr (Or.inl rfl)) rfl rfl rfl rfl rfl rfl (c_bit (by omega) (by omega) (i.1 _ (by omega) (by omega))) ?_
      rintro _ rfl
      have h01 := i.1 z (by omega) (by omega)
      refine ax_iconst f57_19 ?_
      refine ax_icmp_eq f57_20 rfl ⟨by omega, by omega⟩ ⟨by omega, by omega⟩ (fun q20 => ?_) (fun q20 => ?_)
      · refine ax_iconst f57_35 ?_
        refine ax_goto f57_36 rfl ?_
        refine ax_ireturn f57_40 rfl rfl ?_
        exact ⟨rI_of (by simp only [b2i]; split <;> omega), rfl⟩
      · refine ax_aload_n f57_23 rfl ?_
        refine ax_getf f57_24 (by assumption) rfl ?_
        refine ax_csI f57_27 (Or.inl rfl) rfl rfl rfl rfl rfl rfl (c_bit01 (fun j h1 h2 => i.1 j h1 h2)) ?_
        rintro _ rfl
        have eb := blk_set i
        have eb1 := blk_1 i
        have eb2 : blk R ≤ 12 := i2
        refine ax_bipush f57_30 ?_
        refine ax_icmp_ge f57_32 rfl ⟨by omega, by omega⟩ ⟨by omega, by omega⟩ (fun q32 => ?_) (fun q32 => ?_)
        · refine ax_iconst f57_39 ?_
          refine ax_ireturn f57_40 rfl rfl ?_
          exact ⟨rI_of (by simp only [b2i]; split <;> omega), rfl⟩
        · refine ax_iconst f57_35 ?_
          refine ax_goto f57_36 rfl ?_
          refine ax_ireturn f57_40 rfl rfl ?_
          exact ⟨rI_of (by simp only [b2i]; split <;> omega), rfl⟩
end GET
