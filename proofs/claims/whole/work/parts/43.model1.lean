/-! ===== the reference: one object, a row of numbers; what only reads ===== -/
section MRD
abbrev Mo (h : am_H) (c th lk pa le sp fi se : Int) : Prop := h.1[120]? = some (.inr (10, [.ref 121, .ref 122, .int (iI c), .ref 123, .ref 124, .ref 125, .int (iI th), .int (iI lk), .ref 126, .ref 127, .ref 128, .ref 129, .int (iI pa), .ref 130, .int (iI le), .int (iI sp), .int (iI fi), .int (iI se), .ref 131, .ref 132]))
theorem b2i_iff {p q : Prop} [Decidable p] [Decidable q] (h : p ↔ q) : b2i p = b2i q := by
  unfold b2i
  by_cases hp : p
  · rw [if_pos hp, if_pos (h.mp hp)]
  · rw [if_neg hp, if_neg (fun z => hp (h.mpr z))]
theorem c_147 {h : am_H} {z : Int} (hz : inI z) : am_X 1 147 0 (am_ent 147 [.int (iI z)]) [] h (fun r h' => rI r (b2i (0 ≤ z ∧ z ≤ 47)) ∧ h' = h) := by
  show am_X 1 147 0 [.int (iI z)] [] h _
  refine ax_iload_n f147_0 rfl ?_
  refine ax_iconst f147_1 ?_
  refine ax_bipush f147_2 ?_
  refine ax_csI (rest := []) f147_4 (Or.inl rfl) rfl rfl rfl rfl rfl rfl (c_145 hz ⟨by decide, by decide⟩ ⟨by decide, by decide⟩) ?_
  intro _ e_
  obtain rfl := e_.symm
  clear e_
  refine ax_ireturn f147_7 rfl (nb1 b2i_in) ?_
  exact ⟨rI_of rfl, rfl⟩
theorem c_143 {h : am_H} {R : Int → Int} {c th lk pa le sp fi se : Int} (o : Mo h c th lk pa le sp fi se)  : am_X 0 143 0 (am_ent 143 [.ref 120]) [] h (fun r h' => rI r (th) ∧ h' = h) := by
  show am_X 0 143 0 [.ref 120] [] h _
  refine ax_aload_n f143_0 rfl ?_
  refine ax_getf f143_1 o rfl ?_
  refine ax_ireturn f143_4 rfl rfl ?_
  exact ⟨rI_of rfl, rfl⟩
theorem lp_151 {d : Nat} {h : am_H} {Q : am_R → am_H → Prop} {R : Int → Int} {c th lk pa le sp fi se : Int} (o : Mo h c th lk pa le sp fi se) (a1 : oI h 121 270 R) : ∀ (n : Nat) (m r : Int), r + n = 48 → 1 ≤ r → (am_X d 151 29 [.ref 120, .int (iI (m + sm (fun j => R (144 + j)) r n)), .int (iI 48)] [] h Q) → am_X d 151 4 [.ref 120, .int (iI m), .int (iI r)] [] h Q
  | 0, m, r, h1, h2, k => by
    have h1 : r = 48 := by omega
    subst h1
    refine ax_iload_n f151_4 rfl ?_
    refine ax_bipush f151_5 ?_
    refine ax_icmp_ge f151_7 rfl ⟨by omega, by omega⟩ ⟨by omega, by omega⟩ (fun q7 => ?_) (fun q7 => absurd q7 (by omega))
    rw [sm_0, Int.add_zero] at k; exact k
  | n + 1, m, r, h1, h2, k => by
    refine ax_iload_n f151_4 rfl ?_
    refine ax_bipush f151_5 ?_
    refine ax_icmp_ge f151_7 rfl ⟨by omega, by omega⟩ ⟨by omega, by omega⟩ (fun q7 => absurd q7 (by omega)) (fun q7 => ?_)
    refine ax_iload_n f151_10 rfl ?_
    refine ax_aload_n f151_11 rfl ?_
    refine ax_getf f151_12 o rfl ?_
    refine ax_sipush f151_15 ?_
    refine ax_iload_n f151_18 rfl ?_
    refine ax_iadd f151_19 ?_
    refine ax_ialdO f151_20 (by decide) a1 (by omega) (by omega) rfl ?_
    refine ax_iadd f151_21 ?_
    refine ax_istore_n (ls' := [_, _, _]) f151_22 (Nat.le_of_ble_eq_true rfl) rfl ?_
    refine ax_iinc (ls' := [_, _, _]) f151_23 rfl (Nat.le_of_ble_eq_true rfl) rfl ?_
    refine ax_goto f151_26 rfl ?_
    refine lp_151 o a1 n _ (r + 1) (by omega) (by omega) ?_
    rw [sm_1, ← Int.add_assoc] at k; exact k
theorem c_151 {h : am_H} {R : Int → Int} {c th lk pa le sp fi se : Int} (o : Mo h c th lk pa le sp fi se) (a1 : oI h 121 270 R)  : am_X 0 151 0 (am_ent 151 [.ref 120]) [] h (fun r h' => rI r (blk R) ∧ h' = h) := by
  show am_X 0 151 0 [.ref 120, am_u, am_u] [] h _
  refine ax_iconst f151_0 ?_
  refine ax_istore_n (ls' := [_, _, _]) f151_1 (Nat.le_of_ble_eq_true rfl) rfl ?_
  refine ax_iconst f151_2 ?_
  refine ax_istore_n (ls' := [_, _, _]) f151_3 (Nat.le_of_ble_eq_true rfl) rfl ?_
  refine lp_151 o a1 47 1 1 (by omega) (by omega) ?_
  refine ax_iload_n f151_29 rfl ?_
  refine ax_ireturn f151_30 rfl rfl ?_
  exact ⟨rI_of rfl, rfl⟩
theorem c_152 {h : am_H} {R : Int → Int} {c th lk pa le sp fi se : Int} (o : Mo h c th lk pa le sp fi se) (a1 : oI h 121 270 R) (i : ffe R) (i2 : blk R ≤ 12) {z : Int} (hz : inI z) : am_X 1 152 0 (am_ent 152 [.ref 120, .int (iI z)]) [] h (fun r h' => rI r (b2i (0 ≤ z ∧ z < blk R)) ∧ h' = h) := by
  show am_X 1 152 0 [.ref 120, .int (iI z)] [] h _
  have hb := blk_1 i
  refine ax_iload_n f152_0 rfl ?_
  refine ax_iconst f152_1 ?_
  refine ax_aload_n f152_2 rfl ?_
  refine ax_cvI (rest := [_, _]) f152_3 o rfl rfl rfl rfl rfl rfl rfl rfl (c_151 o a1) ?_
  intro _ e_
  obtain rfl := e_.symm
  clear e_
  refine ax_iconst f152_6 ?_
  refine ax_isub f152_7 ?_
  refine ax_csI (rest := []) f152_8 (Or.inl rfl) rfl rfl rfl rfl rfl rfl (c_145 hz ⟨by decide, by decide⟩ ⟨by omega, by omega⟩) ?_
  intro _ e_
  obtain rfl := e_.symm
  clear e_
  refine ax_ireturn f152_11 rfl (nb1 b2i_in) ?_
  exact ⟨rI_of (b2i_iff (by omega)), rfl⟩
theorem lp_153 {d : Nat} {h : am_H} {Q : am_R → am_H → Prop} {R : Int → Int} {c th lk pa le sp fi se : Int} (o : Mo h c th lk pa le sp fi se) (a1 : oI h 121 270 R) {z : Int} (hz : z < 48) : ∀ (n : Nat) (m r : Int), r + n = z + 1 → 1 ≤ r → (am_X d 153 28 [.ref 120, .int (iI z), .int (iI (m + sm (fun j => R (144 + j)) r n)), .int (iI (z + 1))] [] h Q) → am_X d 153 4 [.ref 120, .int (iI z), .int (iI m), .int (iI r)] [] h Q
  | 0, m, r, h1, h2, k => by
    have h1 : r = z + 1 := by omega
    subst h1
    refine ax_iload_n f153_4 rfl ?_
    refine ax_iload_n f153_5 rfl ?_
    refine ax_icmp_gt f153_6 rfl ⟨by omega, by omega⟩ ⟨by omega, by omega⟩ (fun q6 => ?_) (fun q6 => absurd q6 (by omega))
    rw [sm_0, Int.add_zero] at k; exact k
  | n + 1, m, r, h1, h2, k => by
    refine ax_iload_n f153_4 rfl ?_
    refine ax_iload_n f153_5 rfl ?_
    refine ax_icmp_gt f153_6 rfl ⟨by omega, by omega⟩ ⟨by omega, by omega⟩ (fun q6 => absurd q6 (by omega)) (fun q6 => ?_)
    refine ax_iload_n f153_9 rfl ?_
    refine ax_aload_n f153_10 rfl ?_
    refine ax_getf f153_11 o rfl ?_
    refine ax_sipush f153_14 ?_
    refine ax_iload_n f153_17 rfl ?_
    refine ax_iadd f153_18 ?_
    refine ax_ialdO f153_19 (by decide) a1 (by omega) (by omega) rfl ?_
    refine ax_iadd f153_20 ?_
    refine ax_istore_n (ls' := [_, _, _, _]) f153_21 (Nat.le_of_ble_eq_true rfl) rfl ?_
    refine ax_iinc (ls' := [_, _, _, _]) f153_22 rfl (Nat.le_of_ble_eq_true rfl) rfl ?_
    refine ax_goto f153_25 rfl ?_
    refine lp_153 o a1 hz n _ (r + 1) (by omega) (by omega) ?_
    rw [sm_1, ← Int.add_assoc] at k; exact k
theorem c_153 {h : am_H} {R : Int → Int} {c th lk pa le sp fi se : Int} (o : Mo h c th lk pa le sp fi se) (a1 : oI h 121 270 R) {z : Int} (h1 : 0 ≤ z) (h2 : z < 48) : am_X 0 153 0 (am_ent 153 [.ref 120, .int (iI z)]) [] h (fun r h' => rI r (bat R z) ∧ h' = h) := by
  show am_X 0 153 0 [.ref 120, .int (iI z), am_u, am_u] [] h _
  refine ax_iconst f153_0 ?_
  refine ax_istore_n (ls' := [_, _, _, _]) f153_1 (Nat.le_of_ble_eq_true rfl) rfl ?_
  refine ax_iconst f153_2 ?_
  refine ax_istore_n (ls' := [_, _, _, _]) f153_3 (Nat.le_of_ble_eq_true rfl) rfl ?_
  refine lp_153 o a1 h2 z.toNat 0 1 (by omega) (by omega) ?_
  refine ax_iload_n f153_28 rfl ?_
  refine ax_ireturn f153_29 rfl rfl ?_
  exact ⟨rI_of (Int.zero_add _), rfl⟩
theorem lp_154 {d : Nat} {h : am_H} {Q : am_R → am_H → Prop} {R : Int → Int} {c th lk pa le sp fi se : Int} (o : Mo h c th lk pa le sp fi se) (a1 : oI h 121 270 R) (i : ffe R) (i2 : blk R ≤ 12) {kk : Int} (hk : inI kk) : ∀ (n : Nat) (r : Int), r + n = 48 → 0 ≤ r → (Q (.inl (some (.int (iI (frx R kk r n))))) h) → am_X (d + 1) 154 2 [.ref 120, .int (iI kk), .int (iI r)] [] h Q
  | 0, r, h1, h2, k => by
    have h1 : r = 48 := by omega
    subst h1
    refine ax_iload_n f154_2 rfl ?_
    refine ax_bipush f154_3 ?_
    refine ax_icmp_ge f154_5 rfl ⟨by omega, by omega⟩ ⟨by omega, by omega⟩ (fun q5 => ?_) (fun q5 => absurd q5 (by omega))
    refine ax_iload_n f154_23 rfl ?_
    refine ax_ireturn f154_24 rfl rfl ?_
    exact k
  | n + 1, r, h1, h2, k => by
    obtain ⟨hk1, hk2⟩ := id hk
    refine ax_iload_n f154_2 rfl ?_
    refine ax_bipush f154_3 ?_
    refine ax_icmp_ge f154_5 rfl ⟨by omega, by omega⟩ ⟨by omega, by omega⟩ (fun q5 => absurd q5 (by omega)) (fun q5 => ?_)
    refine ax_aload_n f154_8 rfl ?_
    refine ax_iload_n f154_9 rfl ?_
    refine ax_cvI (rest := []) f154_10 o rfl rfl rfl rfl rfl rfl rfl rfl (c_153 o a1 h2 (by omega)) ?_
    intro _ e_
    obtain rfl := e_.symm
    clear e_
    have b1 := bat_ge i h2 (by omega : r < 48)
    have b2 := bat_lb i h2 (by omega : r < 48)
    refine ax_iload_n f154_13 rfl ?_
    refine ax_icmp_ge f154_14 rfl ⟨by omega, by omega⟩ ⟨by omega, by omega⟩ (fun q14 => ?_) (fun q14 => ?_)
    · refine ax_iload_n f154_23 rfl ?_
      refine ax_ireturn f154_24 rfl rfl ?_
      unfold frx at k
      rw [if_neg (by omega)] at k
      exact k
    · refine ax_iinc (ls' := [_, _, _]) f154_17 rfl (Nat.le_of_ble_eq_true rfl) rfl ?_
      refine ax_goto f154_20 rfl ?_
      refine lp_154 o a1 i i2 hk n (r + 1) (by omega) (by omega) ?_
      unfold frx at k
      rw [if_pos (by omega)] at k
      exact k
theorem c_154 {h : am_H} {R : Int → Int} {c th lk pa le sp fi se : Int} (o : Mo h c th lk pa le sp fi se) (a1 : oI h 121 270 R) (i : ffe R) (i2 : blk R ≤ 12) {z : Int} (hz : inI z) : am_X 1 154 0 (am_ent 154 [.ref 120, .int (iI z)]) [] h (fun r h' => rI r (fro R z) ∧ h' = h) := by
  show am_X 1 154 0 [.ref 120, .int (iI z), am_u] [] h _
  refine ax_iconst f154_0 ?_
  refine ax_istore_n (ls' := [_, _, _]) f154_1 (Nat.le_of_ble_eq_true rfl) rfl ?_
  exact lp_154 (d := 0) o a1 i i2 hz 48 0 (by omega) (by omega) ⟨rI_of rfl, rfl⟩
theorem lp_155 {d : Nat} {h : am_H} {Q : am_R → am_H → Prop} {R : Int → Int} {c th lk pa le sp fi se : Int} (o : Mo h c th lk pa le sp fi se) (a1 : oI h 121 270 R) {pp b : Int} {x2 : Int32} (hp : 0 ≤ pp ∧ pp + b ≤ 270) : ∀ (n : Nat) (m r : Int), r + n = b → 0 ≤ r → (am_X d 155 32 [.ref 120, .int (iI pp), .int x2, .int (iI b), .int (iI (m + sm (fun j => R (pp + j)) r n)), .int (iI b)] [] h Q) → am_X d 155 6 [.ref 120, .int (iI pp), .int x2, .int (iI b), .int (iI m), .int (iI r)] [] h Q
  | 0, m, r, h1, h2, k => by
    have h1 : r = b := by omega
    subst h1
    refine ax_iload f155_6 rfl ?_
    refine ax_iload_n f155_8 rfl ?_
    refine ax_icmp_ge f155_9 rfl ⟨by omega, by omega⟩ ⟨by omega, by omega⟩ (fun q9 => ?_) (fun q9 => absurd q9 (by omega))
    rw [sm_0, Int.add_zero] at k; exact k
  | n + 1, m, r, h1, h2, k => by
    refine ax_iload f155_6 rfl ?_
    refine ax_iload_n f155_8 rfl ?_
    refine ax_icmp_ge f155_9 rfl ⟨by omega, by omega⟩ ⟨by omega, by omega⟩ (fun q9 => absurd q9 (by omega)) (fun q9 => ?_)
    refine ax_iload f155_12 rfl ?_
    refine ax_aload_n f155_14 rfl ?_
    refine ax_getf f155_15 o rfl ?_
    refine ax_iload_n f155_18 rfl ?_
    refine ax_iload f155_19 rfl ?_
    refine ax_iadd f155_21 ?_
    refine ax_ialdO f155_22 (by decide) a1 (by omega) (by omega) rfl ?_
    refine ax_iadd f155_23 ?_
    refine ax_istore (ls' := [_, _, _, _, _, _]) f155_24 (Nat.le_of_ble_eq_true rfl) rfl ?_
    refine ax_iinc (ls' := [_, _, _, _, _, _]) f155_26 rfl (Nat.le_of_ble_eq_true rfl) rfl ?_
    refine ax_goto f155_29 rfl ?_
    refine lp_155 o a1 hp n _ (r + 1) (by omega) (by omega) ?_
    rw [sm_1, ← Int.add_assoc] at k; exact k
theorem c_155 {h : am_H} {R : Int → Int} {c th lk pa le sp fi se : Int} (o : Mo h c th lk pa le sp fi se) (a1 : oI h 121 270 R) {pp x y : Int} (h0 : 0 ≤ pp) (h1 : 0 ≤ x) (h2 : x ≤ y) (h3 : pp + y ≤ 270) : am_X 0 155 0 (am_ent 155 [.ref 120, .int (iI pp), .int (iI x), .int (iI y)]) [] h (fun r h' => rI r (sm (fun j => R (pp + j)) x (y - x).toNat) ∧ h' = h) := by
  show am_X 0 155 0 [.ref 120, .int (iI pp), .int (iI x), .int (iI y), am_u, am_u] [] h _
  refine ax_iconst f155_0 ?_
  refine ax_istore (ls' := [_, _, _, _, _, _]) f155_1 (Nat.le_of_ble_eq_true rfl) rfl ?_
  refine ax_iload_n f155_3 rfl ?_
  refine ax_istore (ls' := [_, _, _, _, _, _]) f155_4 (Nat.le_of_ble_eq_true rfl) rfl ?_
  refine lp_155 o a1 ⟨h0, h3⟩ (y - x).toNat 0 x (by omega) (by omega) ?_
  refine ax_iload f155_32 rfl ?_
  refine ax_ireturn f155_34 rfl rfl ?_
  exact ⟨rI_of (Int.zero_add _), rfl⟩
theorem c_156 {h : am_H} {R : Int → Int} {c th lk pa le sp fi se : Int} (o : Mo h c th lk pa le sp fi se) (a1 : oI h 121 270 R) {x y : Int} (h1 : 0 ≤ x) (h2 : x ≤ y) (h3 : y ≤ 48) : am_X 1 156 0 (am_ent 156 [.ref 120, .int (iI x), .int (iI y)]) [] h (fun r h' => rI r (bok R x y) ∧ h' = h) := by
  show am_X 1 156 0 [.ref 120, .int (iI x), .int (iI y)] [] h _
  refine ax_aload_n f156_0 rfl ?_
  refine ax_iconst f156_1 ?_
  refine ax_iload_n f156_2 rfl ?_
  refine ax_iload_n f156_3 rfl ?_
  refine ax_cvI (rest := []) f156_4 o rfl rfl rfl rfl rfl rfl rfl rfl (c_155 o a1 (by omega) h1 h2 (by omega)) ?_
  intro _ e_
  obtain rfl := e_.symm
  clear e_
  refine ax_ireturn f156_7 rfl rfl ?_
  exact ⟨rI_of (sm_cong fun j _ _ => by show R (0 + j) = R j; rw [Int.zero_add]), rfl⟩
theorem lp_157 {d : Nat} {h : am_H} {Q : am_R → am_H → Prop} {R : Int → Int} {c th lk pa le sp fi se : Int} (o : Mo h c th lk pa le sp fi se) (a1 : oI h 121 270 R) {b : Int} {x1 : Int32} (i : i01 R 48 48) (hp : b ≤ 48) : ∀ (n : Nat) (m r : Int), r + n = b → 0 ≤ r → (am_X d 157 47 [.ref 120, .int x1, .int (iI b), .int (iI (m + sm (fv R) r n)), .int (iI b)] [] h Q) → am_X d 157 5 [.ref 120, .int x1, .int (iI b), .int (iI m), .int (iI r)] [] h Q
  | 0, m, r, h1, h2, k => by
    have h1 : r = b := by omega
    subst h1
    refine ax_iload f157_5 rfl ?_
    refine ax_iload_n f157_7 rfl ?_
    refine ax_icmp_ge f157_8 rfl ⟨by omega, by omega⟩ ⟨by omega, by omega⟩ (fun q8 => ?_) (fun q8 => absurd q8 (by omega))
    rw [sm_0, Int.add_zero] at k; exact k
  | n + 1, m, r, h1, h2, k => by
    refine ax_iload f157_5 rfl ?_
    refine ax_iload_n f157_7 rfl ?_
    refine ax_icmp_ge f157_8 rfl ⟨by omega, by omega⟩ ⟨by omega, by omega⟩ (fun q8 => absurd q8 (by omega)) (fun q8 => ?_)
    refine ax_iload_n f157_11 rfl ?_
    refine ax_aload_n f157_12 rfl ?_
    refine ax_getf f157_13 o rfl ?_
    refine ax_bipush f157_16 ?_
    refine ax_iload f157_18 rfl ?_
    refine ax_iadd f157_20 ?_
    refine ax_ialdO f157_21 (by decide) a1 (by omega) (by omega) rfl ?_
    refine ax_iconst f157_22 ?_
    have hy := i r h2 (by omega)
    refine ax_icmp_ne f157_23 rfl ⟨by omega, by omega⟩ ⟨by omega, by omega⟩ (fun q23 => ?_) (fun q23 => ?_)
    · refine ax_aload_n f157_30 rfl ?_
      refine ax_getf f157_31 o rfl ?_
      refine ax_iconst f157_34 ?_
      refine ax_iload f157_35 rfl ?_
      refine ax_iadd f157_37 ?_
      rw [Int.zero_add]
      refine ax_ialdO f157_38 (by decide) a1 (by omega) (by omega) rfl ?_
      refine ax_iadd f157_39 ?_
      refine ax_istore_n (ls' := [_, _, _, _, _]) f157_40 (Nat.le_of_ble_eq_true rfl) rfl ?_
      refine ax_iinc (ls' := [_, _, _, _, _]) f157_41 rfl (Nat.le_of_ble_eq_true rfl) rfl ?_
      refine ax_goto f157_44 rfl ?_
      refine lp_157 o a1 i hp n _ (r + 1) (by omega) (by omega) ?_
      rw [sm_1, ← Int.add_assoc] at k
      have e : fv R r = R r := by unfold fv; rw [if_neg (by omega)]
      rw [e] at k; exact k
    · refine ax_iconst f157_26 ?_
      refine ax_goto f157_27 rfl ?_
      refine ax_iadd f157_39 ?_
      refine ax_istore_n (ls' := [_, _, _, _, _]) f157_40 (Nat.le_of_ble_eq_true rfl) rfl ?_
      refine ax_iinc (ls' := [_, _, _, _, _]) f157_41 rfl (Nat.le_of_ble_eq_true rfl) rfl ?_
      refine ax_goto f157_44 rfl ?_
      refine lp_157 o a1 i hp n _ (r + 1) (by omega) (by omega) ?_
      rw [sm_1, ← Int.add_assoc] at k
      have e : fv R r = 0 := by unfold fv; rw [if_pos (by omega)]
      rw [e] at k; exact k
theorem c_157 {h : am_H} {R : Int → Int} {c th lk pa le sp fi se : Int} (o : Mo h c th lk pa le sp fi se) (a1 : oI h 121 270 R) (i : i01 R 48 48) {x y : Int} (h1 : 0 ≤ x) (h2 : x ≤ y) (h3 : y ≤ 48) : am_X 0 157 0 (am_ent 157 [.ref 120, .int (iI x), .int (iI y)]) [] h (fun r h' => rI r (fld R x y) ∧ h' = h) := by
  show am_X 0 157 0 [.ref 120, .int (iI x), .int (iI y), am_u, am_u] [] h _
  refine ax_iconst f157_0 ?_
  refine ax_istore_n (ls' := [_, _, _, _, _]) f157_1 (Nat.le_of_ble_eq_true rfl) rfl ?_
  refine ax_iload_n f157_2 rfl ?_
  refine ax_istore (ls' := [_, _, _, _, _]) f157_3 (Nat.le_of_ble_eq_true rfl) rfl ?_
  refine lp_157 o a1 i h3 (y - x).toNat 0 x (by omega) (by omega) ?_
  refine ax_iload_n f157_47 rfl ?_
  refine ax_ireturn f157_48 rfl rfl ?_
  exact ⟨rI_of (Int.zero_add _), rfl⟩
theorem c_161 {h : am_H} {R : Int → Int} {c th lk pa le sp fi se : Int} (o : Mo h c th lk pa le sp fi se) (a1 : oI h 121 270 R) (i : ffe R) (i2 : blk R ≤ 12) {z y : Int} (h1 : 0 ≤ z) (h2 : z < 48) (hy : y = 0 ∨ y = 1) : am_X 1 161 0 (am_ent 161 [.ref 120, .int (iI z), .int (iI y)]) [] h (fun r h' => rI r (b2i (y = 0 ∨ R (144 + z) = 1 ∨ blk R ≤ 11)) ∧ h' = h) := by
  show am_X 1 161 0 [.ref 120, .int (iI z), .int (iI y)] [] h _
  have hb := blk_1 i
  have hf := i.1 z h1 h2
  refine ax_iload_n f161_0 rfl ?_
  refine ax_if_eq f161_1 rfl ⟨by omega, by omega⟩ (fun q1 => ?_) (fun q1 => ?_)
  · refine ax_iconst f161_27 ?_
    refine ax_goto f161_28 rfl ?_
    refine ax_ireturn f161_32 rfl rfl ?_
    exact ⟨rI_of (b2i_t (by omega)).symm, rfl⟩
  · refine ax_aload_n f161_4 rfl ?_
    refine ax_getf f161_5 o rfl ?_
    refine ax_sipush f161_8 ?_
    refine ax_iload_n f161_11 rfl ?_
    refine ax_iadd f161_12 ?_
    refine ax_ialdO f161_13 (by decide) a1 (by omega) (by omega) rfl ?_
    refine ax_iconst f161_14 ?_
    refine ax_icmp_eq f161_15 rfl ⟨by omega, by omega⟩ ⟨by omega, by omega⟩ (fun q15 => ?_) (fun q15 => ?_)
    · refine ax_iconst f161_27 ?_
      refine ax_goto f161_28 rfl ?_
      refine ax_ireturn f161_32 rfl rfl ?_
      exact ⟨rI_of (b2i_t (by omega)).symm, rfl⟩
    · refine ax_aload_n f161_18 rfl ?_
      refine ax_cvI (rest := []) f161_19 o rfl rfl rfl rfl rfl rfl rfl rfl (c_151 o a1) ?_
      intro _ e_
      obtain rfl := e_.symm
      clear e_
      refine ax_bipush f161_22 ?_
      refine ax_icmp_gt f161_24 rfl ⟨by omega, by omega⟩ ⟨by omega, by omega⟩ (fun q24 => ?_) (fun q24 => ?_)
      · refine ax_iconst f161_31 ?_
        refine ax_ireturn f161_32 rfl rfl ?_
        exact ⟨rI_of (b2i_f (by omega)).symm, rfl⟩
      · refine ax_iconst f161_27 ?_
        refine ax_goto f161_28 rfl ?_
        refine ax_ireturn f161_32 rfl rfl ?_
        exact ⟨rI_of (b2i_t (by omega)).symm, rfl⟩
theorem c_171 {h : am_H} {R : Int → Int} {c th lk pa le sp fi se : Int} (o : Mo h c th lk pa le sp fi se) (a1 : oI h 121 270 R) (i1 : R 192 = 0 ∨ R 192 = 1) (i2 : R 269 = 0 ∨ R 269 = 1) : am_X 0 171 0 (am_ent 171 [.ref 120]) [] h (fun r h' => rI r (b2i (R 192 = 1 ∨ R 269 = 0)) ∧ h' = h) := by
  show am_X 0 171 0 [.ref 120] [] h _
  refine ax_aload_n f171_0 rfl ?_
  refine ax_getf f171_1 o rfl ?_
  refine ax_sipush f171_4 ?_
  refine ax_ialdO f171_7 (by decide) a1 (by omega) (by omega) rfl ?_
  refine ax_if_eq f171_8 rfl ⟨by omega, by omega⟩ (fun q8 => ?_) (fun q8 => ?_)
  · refine ax_iconst f171_23 ?_
    refine ax_goto f171_24 rfl ?_
    refine ax_ireturn f171_28 rfl rfl ?_
    exact ⟨rI_of (b2i_t (by omega)).symm, rfl⟩
  · refine ax_aload_n f171_11 rfl ?_
    refine ax_getf f171_12 o rfl ?_
    refine ax_sipush f171_15 ?_
    refine ax_ialdO f171_18 (by decide) a1 (by omega) (by omega) rfl ?_
    refine ax_iconst f171_19 ?_
    refine ax_icmp_ne f171_20 rfl ⟨by omega, by omega⟩ ⟨by omega, by omega⟩ (fun q20 => ?_) (fun q20 => ?_)
    · refine ax_iconst f171_27 ?_
      refine ax_ireturn f171_28 rfl rfl ?_
      exact ⟨rI_of (b2i_f (by omega)).symm, rfl⟩
    · refine ax_iconst f171_23 ?_
      refine ax_goto f171_24 rfl ?_
      refine ax_ireturn f171_28 rfl rfl ?_
      exact ⟨rI_of (b2i_t (by omega)).symm, rfl⟩
theorem c_172 {h : am_H} {R : Int → Int} {c th lk pa le sp fi se : Int} (o : Mo h c th lk pa le sp fi se) (a1 : oI h 121 270 R) {z y : Int} (h1 : 0 ≤ z) (h2 : z < 48) (hw : y = 0 ∨ y = 1 ∨ y = 2) : am_X 0 172 0 (am_ent 172 [.ref 120, .int (iI z), .int (iI y)]) [] h (fun r h' => rI r (vl R y z) ∧ h' = h) := by
  show am_X 0 172 0 [.ref 120, .int (iI z), .int (iI y)] [] h _
  rcases hw with rfl | rfl | rfl
  · refine ax_iload_n f172_0 rfl ?_
    refine ax_if_ne f172_1 rfl ⟨by omega, by omega⟩ (fun q1 => absurd q1 (by omega)) (fun q1 => ?_)
    refine ax_iconst f172_4 ?_
    refine ax_goto f172_5 rfl ?_
    refine ax_ireturn f172_35 rfl rfl ?_
    exact ⟨rI_of (by unfold vl; rw [if_neg (by omega), if_neg (by omega)]), rfl⟩
  · refine ax_iload_n f172_0 rfl ?_
    refine ax_if_ne f172_1 rfl ⟨by omega, by omega⟩ (fun q1 => ?_) (fun q1 => absurd q1 (by omega))
    refine ax_iload_n f172_8 rfl ?_
    refine ax_iconst f172_9 ?_
    refine ax_icmp_ne f172_10 rfl ⟨by omega, by omega⟩ ⟨by omega, by omega⟩ (fun q10 => absurd q10 (by omega)) (fun q10 => ?_)
    refine ax_aload_n f172_13 rfl ?_
    refine ax_getf f172_14 o rfl ?_
    refine ax_iconst f172_17 ?_
    refine ax_iload_n f172_18 rfl ?_
    refine ax_iadd f172_19 ?_
    rw [Int.zero_add]
    refine ax_ialdO f172_20 (by decide) a1 (by omega) (by omega) rfl ?_
    refine ax_goto f172_21 rfl ?_
    refine ax_ireturn f172_35 rfl rfl ?_
    exact ⟨rI_of (by unfold vl; rw [if_pos rfl]), rfl⟩
  · refine ax_iload_n f172_0 rfl ?_
    refine ax_if_ne f172_1 rfl ⟨by omega, by omega⟩ (fun q1 => ?_) (fun q1 => absurd q1 (by omega))
    refine ax_iload_n f172_8 rfl ?_
    refine ax_iconst f172_9 ?_
    refine ax_icmp_ne f172_10 rfl ⟨by omega, by omega⟩ ⟨by omega, by omega⟩ (fun q10 => ?_) (fun q10 => absurd q10 (by omega))
    refine ax_aload_n f172_24 rfl ?_
    refine ax_getf f172_25 o rfl ?_
    refine ax_bipush f172_28 ?_
    refine ax_iload_n f172_30 rfl ?_
    refine ax_iadd f172_31 ?_
    refine ax_ialdO f172_32 (by decide) a1 (by omega) (by omega) rfl ?_
    refine ax_iconst f172_33 ?_
    refine ax_iadd f172_34 ?_
    refine ax_ireturn f172_35 rfl rfl ?_
    exact ⟨rI_of (by unfold vl; rw [if_neg (by omega), if_pos rfl]), rfl⟩
theorem lp_173 {d : Nat} {h : am_H} {Q : am_R → am_H → Prop} {R : Int → Int} {c th lk pa le sp fi se : Int} (o : Mo h c th lk pa le sp fi se) (a1 : oI h 121 270 R) {b w : Int} {x1 : Int32} (hw : w = 0 ∨ w = 1 ∨ w = 2) (hp : b ≤ 48) : ∀ (n : Nat) (m r : Int), r + n = b → 0 ≤ r → (am_X (d + 1) 173 30 [.ref 120, .int x1, .int (iI b), .int (iI w), .int (iI (m + sm (vl R w) r n)), .int (iI b)] [] h Q) → am_X (d + 1) 173 6 [.ref 120, .int x1, .int (iI b), .int (iI w), .int (iI m), .int (iI r)] [] h Q
  | 0, m, r, h1, h2, k => by
    have h1 : r = b := by omega
    subst h1
    refine ax_iload f173_6 rfl ?_
    refine ax_iload_n f173_8 rfl ?_
    refine ax_icmp_ge f173_9 rfl ⟨by omega, by omega⟩ ⟨by omega, by omega⟩ (fun q9 => ?_) (fun q9 => absurd q9 (by omega))
    rw [sm_0, Int.add_zero] at k; exact k
  | n + 1, m, r, h1, h2, k => by
    refine ax_iload f173_6 rfl ?_
    refine ax_iload_n f173_8 rfl ?_
    refine ax_icmp_ge f173_9 rfl ⟨by omega, by omega⟩ ⟨by omega, by omega⟩ (fun q9 => absurd q9 (by omega)) (fun q9 => ?_)
    refine ax_iload f173_12 rfl ?_
    refine ax_aload_n f173_14 rfl ?_
    refine ax_iload f173_15 rfl ?_
    refine ax_iload_n f173_17 rfl ?_
    refine ax_cvI (rest := [_]) f173_18 o rfl rfl rfl rfl rfl rfl rfl rfl (c_172 o a1 h2 (by omega) hw) ?_
    intro _ e_
    obtain rfl := e_.symm
    clear e_
    refine ax_iadd f173_21 ?_
    refine ax_istore (ls' := [_, _, _, _, _, _]) f173_22 (Nat.le_of_ble_eq_true rfl) rfl ?_
    refine ax_iinc (ls' := [_, _, _, _, _, _]) f173_24 rfl (Nat.le_of_ble_eq_true rfl) rfl ?_
    refine ax_goto f173_27 rfl ?_
    refine lp_173 o a1 hw hp n _ (r + 1) (by omega) (by omega) ?_
    rw [sm_1, ← Int.add_assoc] at k; exact k
theorem c_173 {h : am_H} {R : Int → Int} {c th lk pa le sp fi se : Int} (o : Mo h c th lk pa le sp fi se) (a1 : oI h 121 270 R) {x y w : Int} (hw : w = 0 ∨ w = 1 ∨ w = 2) (h1 : 0 ≤ x) (h2 : x ≤ y) (h3 : y ≤ 48) : am_X 1 173 0 (am_ent 173 [.ref 120, .int (iI x), .int (iI y), .int (iI w)]) [] h (fun r h' => rI r (sm (vl R w) x (y - x).toNat) ∧ h' = h) := by
  show am_X 1 173 0 [.ref 120, .int (iI x), .int (iI y), .int (iI w), am_u, am_u] [] h _
  refine ax_iconst f173_0 ?_
  refine ax_istore (ls' := [_, _, _, _, _, _]) f173_1 (Nat.le_of_ble_eq_true rfl) rfl ?_
  refine ax_iload_n f173_3 rfl ?_
  refine ax_istore (ls' := [_, _, _, _, _, _]) f173_4 (Nat.le_of_ble_eq_true rfl) rfl ?_
  refine lp_173 (d := 0) o a1 hw h3 (y - x).toNat 0 x (by omega) (by omega) ?_
  refine ax_iload f173_30 rfl ?_
  refine ax_ireturn f173_32 rfl rfl ?_
  exact ⟨rI_of (Int.zero_add _), rfl⟩
theorem pl_t {f : Int → Int} {all best near ah m off : Int} {n : Nat} (e : (if 2 * (ah + f (m - 1)) < all then all - 2 * (ah + f (m - 1)) else 2 * (ah + f (m - 1)) - all) = off) (h : off < near) : pl f all best near ah m (n + 1) = pl f all m off (ah + f (m - 1)) (m + 1) n := by
  show (if _ then _ else _) = _
  rw [e, if_pos h]
theorem pl_f {f : Int → Int} {all best near ah m off : Int} {n : Nat} (e : (if 2 * (ah + f (m - 1)) < all then all - 2 * (ah + f (m - 1)) else 2 * (ah + f (m - 1)) - all) = off) (h : ¬ off < near) : pl f all best near ah m (n + 1) = pl f all best near (ah + f (m - 1)) (m + 1) n := by
  show (if _ then _ else _) = _
  rw [e, if_neg h]
theorem lp_174 {d : Nat} {h : am_H} {Q : am_R → am_H → Prop} {R : Int → Int} {c th lk pa le sp fi se : Int} (o : Mo h c th lk pa le sp fi se) (a1 : oI h 121 270 R) {a b w all : Int} (hw : w = 0 ∨ w = 1 ∨ w = 2) (iv : ival (vl R w) 0 48) (hab : 0 ≤ a ∧ b ≤ 48 ∧ 0 ≤ all ∧ all ≤ 4800) : ∀ (n : Nat) (best near ah m : Int) {x9 : Value}, m + n = b → a < m → 0 ≤ near ∧ near ≤ 1000000 → 0 ≤ ah ∧ ah ≤ 100 * (m - 1 - a) → (Q (.inl (some (.int (iI (pl (vl R w) all best near ah m n))))) h) → am_X (d + 1) 174 26 [.ref 120, .int (iI a), .int (iI b), .int (iI w), .int (iI all), .int (iI best), .int (iI near), .int (iI ah), .int (iI m), x9] [] h Q
  | 0, best, near, ah, m, x9, h1, h2, h3, h4, k => by
    have h1 : m = b := by omega
    subst h1
    refine ax_iload f174_26 rfl ?_
    refine ax_iload_n f174_28 rfl ?_
    refine ax_icmp_ge f174_29 rfl ⟨by omega, by omega⟩ ⟨by omega, by omega⟩ (fun q29 => ?_) (fun q29 => absurd q29 (by omega))
    refine ax_iload f174_112 rfl ?_
    refine ax_ireturn f174_114 rfl rfl ?_
    exact k
  | n + 1, best, near, ah, m, x9, h1, h2, h3, h4, k => by
    refine ax_iload f174_26 rfl ?_
    refine ax_iload_n f174_28 rfl ?_
    refine ax_icmp_ge f174_29 rfl ⟨by omega, by omega⟩ ⟨by omega, by omega⟩ (fun q29 => absurd q29 (by omega)) (fun q29 => ?_)
    refine ax_iload f174_32 rfl ?_
    refine ax_aload_n f174_34 rfl ?_
    refine ax_iload f174_35 rfl ?_
    refine ax_iconst f174_37 ?_
    refine ax_isub f174_38 ?_
    refine ax_iload_n f174_39 rfl ?_
    refine ax_cvI (rest := [_]) f174_40 o rfl rfl rfl rfl rfl rfl rfl rfl (c_172 o a1 (by omega) (by omega) hw) ?_
    intro _ e_
    obtain rfl := e_.symm
    clear e_
    have hv := iv (m - 1) (by omega) (by omega)
    refine ax_iadd f174_43 ?_
    refine ax_istore (ls' := [_, _, _, _, _, _, _, _, _, _]) f174_44 (Nat.le_of_ble_eq_true rfl) rfl ?_
    refine ax_iconst f174_46 ?_
    refine ax_iload f174_47 rfl ?_
    refine ax_imul f174_49 ?_
    refine ax_iload f174_50 rfl ?_
    refine ax_icmp_ge f174_52 rfl ⟨by omega, by omega⟩ ⟨by omega, by omega⟩ (fun q52 => ?_) (fun q52 => ?_)
    · refine ax_iconst f174_65 ?_
      refine ax_iload f174_66 rfl ?_
      refine ax_imul f174_68 ?_
      refine ax_iload f174_69 rfl ?_
      refine ax_isub f174_71 ?_
      refine ax_istore (ls' := [_, _, _, _, _, _, _, _, _, _]) f174_72 (Nat.le_of_ble_eq_true rfl) rfl ?_
      refine ax_iload f174_74 rfl ?_
      refine ax_iload f174_76 rfl ?_
      refine ax_icmp_ge f174_78 rfl ⟨by omega, by omega⟩ ⟨by omega, by omega⟩ (fun q78 => ?_) (fun q78 => ?_)
      · refine ax_iload f174_86 rfl ?_
        refine ax_istore (ls' := [_, _, _, _, _, _, _, _, _, _]) f174_88 (Nat.le_of_ble_eq_true rfl) rfl ?_
        refine ax_iload f174_90 rfl ?_
        refine ax_iload f174_92 rfl ?_
        refine ax_icmp_ge f174_94 rfl ⟨by omega, by omega⟩ ⟨by omega, by omega⟩ (fun q94 => ?_) (fun q94 => absurd q94 (by omega))
        refine ax_iload f174_102 rfl ?_
        refine ax_istore (ls' := [_, _, _, _, _, _, _, _, _, _]) f174_104 (Nat.le_of_ble_eq_true rfl) rfl ?_
        refine ax_iinc (ls' := [_, _, _, _, _, _, _, _, _, _]) f174_106 rfl (Nat.le_of_ble_eq_true rfl) rfl ?_
        refine ax_goto f174_109 rfl ?_
        refine lp_174 o a1 hw iv hab n (best) (near) _ (m + 1) (by omega) (by omega) (by omega) (by omega) ?_
        rw [pl_f (if_neg (show ¬ 2 * (ah + vl R w (m - 1)) < all by omega)) (by omega)] at k
        exact k
      · refine ax_iload f174_81 rfl ?_
        refine ax_goto f174_83 rfl ?_
        refine ax_istore (ls' := [_, _, _, _, _, _, _, _, _, _]) f174_88 (Nat.le_of_ble_eq_true rfl) rfl ?_
        refine ax_iload f174_90 rfl ?_
        refine ax_iload f174_92 rfl ?_
        refine ax_icmp_ge f174_94 rfl ⟨by omega, by omega⟩ ⟨by omega, by omega⟩ (fun q94 => absurd q94 (by omega)) (fun q94 => ?_)
        refine ax_iload f174_97 rfl ?_
        refine ax_goto f174_99 rfl ?_
        refine ax_istore (ls' := [_, _, _, _, _, _, _, _, _, _]) f174_104 (Nat.le_of_ble_eq_true rfl) rfl ?_
        refine ax_iinc (ls' := [_, _, _, _, _, _, _, _, _, _]) f174_106 rfl (Nat.le_of_ble_eq_true rfl) rfl ?_
        refine ax_goto f174_109 rfl ?_
        refine lp_174 o a1 hw iv hab n (m) (2 * (ah + vl R w (m - 1)) - all) _ (m + 1) (by omega) (by omega) (by omega) (by omega) ?_
        rw [pl_t (if_neg (show ¬ 2 * (ah + vl R w (m - 1)) < all by omega)) (by omega)] at k
        exact k
    · refine ax_iload f174_55 rfl ?_
      refine ax_iconst f174_57 ?_
      refine ax_iload f174_58 rfl ?_
      refine ax_imul f174_60 ?_
      refine ax_isub f174_61 ?_
      refine ax_goto f174_62 rfl ?_
      refine ax_istore (ls' := [_, _, _, _, _, _, _, _, _, _]) f174_72 (Nat.le_of_ble_eq_true rfl) rfl ?_
      refine ax_iload f174_74 rfl ?_
      refine ax_iload f174_76 rfl ?_
      refine ax_icmp_ge f174_78 rfl ⟨by omega, by omega⟩ ⟨by omega, by omega⟩ (fun q78 => ?_) (fun q78 => ?_)
      · refine ax_iload f174_86 rfl ?_
        refine ax_istore (ls' := [_, _, _, _, _, _, _, _, _, _]) f174_88 (Nat.le_of_ble_eq_true rfl) rfl ?_
        refine ax_iload f174_90 rfl ?_
        refine ax_iload f174_92 rfl ?_
        refine ax_icmp_ge f174_94 rfl ⟨by omega, by omega⟩ ⟨by omega, by omega⟩ (fun q94 => ?_) (fun q94 => absurd q94 (by omega))
        refine ax_iload f174_102 rfl ?_
        refine ax_istore (ls' := [_, _, _, _, _, _, _, _, _, _]) f174_104 (Nat.le_of_ble_eq_true rfl) rfl ?_
        refine ax_iinc (ls' := [_, _, _, _, _, _, _, _, _, _]) f174_106 rfl (Nat.le_of_ble_eq_true rfl) rfl ?_
        refine ax_goto f174_109 rfl ?_
        refine lp_174 o a1 hw iv hab n (best) (near) _ (m + 1) (by omega) (by omega) (by omega) (by omega) ?_
        rw [pl_f (if_pos (show 2 * (ah + vl R w (m - 1)) < all by omega)) (by omega)] at k
        exact k
      · refine ax_iload f174_81 rfl ?_
        refine ax_goto f174_83 rfl ?_
        refine ax_istore (ls' := [_, _, _, _, _, _, _, _, _, _]) f174_88 (Nat.le_of_ble_eq_true rfl) rfl ?_
        refine ax_iload f174_90 rfl ?_
        refine ax_iload f174_92 rfl ?_
        refine ax_icmp_ge f174_94 rfl ⟨by omega, by omega⟩ ⟨by omega, by omega⟩ (fun q94 => absurd q94 (by omega)) (fun q94 => ?_)
        refine ax_iload f174_97 rfl ?_
        refine ax_goto f174_99 rfl ?_
        refine ax_istore (ls' := [_, _, _, _, _, _, _, _, _, _]) f174_104 (Nat.le_of_ble_eq_true rfl) rfl ?_
        refine ax_iinc (ls' := [_, _, _, _, _, _, _, _, _, _]) f174_106 rfl (Nat.le_of_ble_eq_true rfl) rfl ?_
        refine ax_goto f174_109 rfl ?_
        refine lp_174 o a1 hw iv hab n (m) (all - 2 * (ah + vl R w (m - 1))) _ (m + 1) (by omega) (by omega) (by omega) (by omega) ?_
        rw [pl_t (if_pos (show 2 * (ah + vl R w (m - 1)) < all by omega)) (by omega)] at k
        exact k
theorem c_174 {h : am_H} {R : Int → Int} {c th lk pa le sp fi se : Int} (o : Mo h c th lk pa le sp fi se) (a1 : oI h 121 270 R) {x y w : Int} (hw : w = 0 ∨ w = 1 ∨ w = 2) (iv : ival (vl R w) 0 48) (h1 : 0 ≤ x) (h2 : x < y) (h3 : y ≤ 48) : am_X 2 174 0 (am_ent 174 [.ref 120, .int (iI x), .int (iI y), .int (iI w)]) [] h (fun r h' => rI r (hlf (vl R w) x y) ∧ h' = h) := by
  show am_X 2 174 0 [.ref 120, .int (iI x), .int (iI y), .int (iI w), am_u, am_u, am_u, am_u, am_u, am_u] [] h _
  have hs := ival_in (f := vl R w) (a := x) (n := (y - x).toNat) (fun j j1 j2 => iv j (by omega) (by omega))
  refine ax_aload_n f174_0 rfl ?_
  refine ax_iload_n f174_1 rfl ?_
  refine ax_iload_n f174_2 rfl ?_
  refine ax_iload_n f174_3 rfl ?_
  refine ax_cvI (rest := []) f174_4 o rfl rfl rfl rfl rfl rfl rfl rfl (c_173 o a1 hw h1 (by omega) h3) ?_
  intro _ e_
  obtain rfl := e_.symm
  clear e_
  refine ax_istore (ls' := [_, _, _, _, _, _, _, _, _, _]) f174_7 (Nat.le_of_ble_eq_true rfl) rfl ?_
  refine ax_iload_n f174_9 rfl ?_
  refine ax_iconst f174_10 ?_
  refine ax_iadd f174_11 ?_
  refine ax_istore (ls' := [_, _, _, _, _, _, _, _, _, _]) f174_12 (Nat.le_of_ble_eq_true rfl) rfl ?_
  refine ax_ldc f174_14 ?_
  refine ax_istore (ls' := [_, _, _, _, _, _, _, _, _, _]) f174_16 (Nat.le_of_ble_eq_true rfl) rfl ?_
  refine ax_iconst f174_18 ?_
  refine ax_istore (ls' := [_, _, _, _, _, _, _, _, _, _]) f174_19 (Nat.le_of_ble_eq_true rfl) rfl ?_
  refine ax_iload_n f174_21 rfl ?_
  refine ax_iconst f174_22 ?_
  refine ax_iadd f174_23 ?_
  refine ax_istore (ls' := [_, _, _, _, _, _, _, _, _, _]) f174_24 (Nat.le_of_ble_eq_true rfl) rfl ?_
  exact lp_174 (d := 1) o a1 hw iv (by omega) (y - x - 1).toNat (x + 1) 1000000 0 (x + 1) (by omega) (by omega) (by omega) (by omega) ⟨rI_of rfl, rfl⟩
end MRD
