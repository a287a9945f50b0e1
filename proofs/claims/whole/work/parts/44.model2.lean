/-! ===== the reference: what writes into the row ===== -/
section MWR
theorem Mo.fr_o {h h' : am_H} {c th lk pa le sp fi se : Int} {q : Nat} (o : Mo h c th lk pa le sp fi se) (f : fr (fun x => x = q) h h') (hq : ¬ 120 = q := by decide) : Mo h' c th lk pa le sp fi se := f.at hq o
theorem lp_146 {d : Nat} {Q : am_R → am_H → Prop} {c th lk pa le sp fi se : Int} : ∀ {h : am_H} (o : Mo h c th lk pa le sp fi se) (n : Nat) (r : Int), r + n = 270 → 0 ≤ r → ∀ g : Int → Int, oI h 121 270 g → (∀ j, 0 ≤ j → j < r → g j = if j < 48 then 1 else 0) → (∀ h' : am_H, oI h' 121 270 (fun j => if j < 48 then 1 else 0) → fr (fun x => x = 121) h h' → am_X d 146 32 [.ref 120, .int (iI 270)] [] h' Q) → am_X d 146 2 [.ref 120, .int (iI r)] [] h Q
  | h, o, 0, r, h1, h2, g, a1, hg, k => by
    have h1 : r = 270 := by omega
    subst h1
    refine ax_iload_n f146_2 rfl ?_
    refine ax_sipush f146_3 ?_
    refine ax_icmp_ge f146_6 rfl ⟨by omega, by omega⟩ ⟨by omega, by omega⟩ (fun q6 => ?_) (fun q6 => absurd q6 (by omega))
    exact k h (a1.eq fun j j1 j2 => (hg j j1 (by omega)).symm) fr_rf
  | h, o, n + 1, r, h1, h2, g, a1, hg, k => by
    refine ax_iload_n f146_2 rfl ?_
    refine ax_sipush f146_3 ?_
    refine ax_icmp_ge f146_6 rfl ⟨by omega, by omega⟩ ⟨by omega, by omega⟩ (fun q6 => absurd q6 (by omega)) (fun q6 => ?_)
    refine ax_aload_n f146_9 rfl ?_
    refine ax_getf f146_10 o rfl ?_
    refine ax_iload_n f146_13 rfl ?_
    refine ax_iload_n f146_14 rfl ?_
    refine ax_bipush f146_15 ?_
    refine ax_icmp_ge f146_17 rfl ⟨by omega, by omega⟩ ⟨by omega, by omega⟩ (fun q17 => ?_) (fun q17 => ?_)
    · refine ax_iconst f146_24 ?_
      refine ax_iastO f146_25 a1 (by omega) (by omega) rfl (fun hp1 o1 r1 => ?_)
      refine ax_iinc (ls' := [_, _]) f146_26 rfl (Nat.le_of_ble_eq_true rfl) rfl ?_
      refine ax_goto f146_29 rfl ?_
      refine lp_146 (o.fr_o r1) n (r + 1) (by omega) (by omega) _ o1 ?_ ?_
      · intro j j1 j2
        unfold uZ
        split
        · rename_i e; subst e; rw [if_neg (by omega)]
        · exact hg j j1 (by omega)
      · intro h9 a9 f9
        exact k h9 a9 (r1.trans f9)
    · refine ax_iconst f146_20 ?_
      refine ax_goto f146_21 rfl ?_
      refine ax_iastO f146_25 a1 (by omega) (by omega) rfl (fun hp1 o1 r1 => ?_)
      refine ax_iinc (ls' := [_, _]) f146_26 rfl (Nat.le_of_ble_eq_true rfl) rfl ?_
      refine ax_goto f146_29 rfl ?_
      refine lp_146 (o.fr_o r1) n (r + 1) (by omega) (by omega) _ o1 ?_ ?_
      · intro j j1 j2
        unfold uZ
        split
        · rename_i e; subst e; rw [if_pos (by omega)]
        · exact hg j j1 (by omega)
      · intro h9 a9 f9
        exact k h9 a9 (r1.trans f9)
theorem c_146 {h : am_H} {R : Int → Int} {c th lk pa le sp fi se : Int} (o : Mo h c th lk pa le sp fi se) (a1 : oI h 121 270 R)  : am_X 0 146 0 (am_ent 146 [.ref 120]) [] h (fun r h' => rV r ∧ oI h' 121 270 (beg) ∧ fr (fun x => x = 121) h h') := by
  show am_X 0 146 0 [.ref 120, am_u] [] h _
  have F : fr (fun x => x = 121) h h := fr_rf
  refine ax_iconst f146_0 ?_
  refine ax_istore_n (ls' := [_, _]) f146_1 (Nat.le_of_ble_eq_true rfl) rfl ?_
  refine lp_146 o 270 0 (by omega) (by omega) _ a1 (fun j j1 j2 => by omega) ?_
  intro h9 a9 f9
  have o := f9.at (q := 120) (by omega) o
  have a1 := a9
  have F := F.trans f9
  refine ax_aload_n f146_32 rfl ?_
  refine ax_getf f146_33 o rfl ?_
  refine ax_sipush f146_36 ?_
  refine ax_iconst f146_39 ?_
  refine ax_iastO f146_40 a1 (by omega) (by omega) rfl (fun hp11 o11 r11 => ?_)
  have o : Mo hp11 _ _ _ _ _ _ _ _ := r11.at (q := 120) (by omega) o
  have a1 := o11
  have F := F.trans (r11.mono fun x e => by omega)
  refine ax_return f146_41 rfl ?_
  refine ⟨rfl, a1.eq fun j j1 j2 => ?_, F⟩
  dsimp only [beg, uZ]
  repeat' split
  all_goals first | rfl | omega
def fgk (R : Int → Int) (k j : Int) : Int := if j = 192 ∨ (193 ≤ j ∧ j < 193 + k) ∨ (205 ≤ j ∧ j < 205 + k) then 0 else R j
theorem fgk_0 (R : Int → Int) (j : Int) : uZ R 192 0 j = fgk R 0 j := by
  unfold uZ fgk
  split <;> split <;> first | rfl | omega
theorem fgk_s (R : Int → Int) {k : Int} (h : 0 ≤ k) (h2 : k < 12) (j : Int) : uZ (uZ (fgk R k) (193 + k) 0) (205 + k) 0 j = fgk R (k + 1) j := by
  unfold uZ fgk
  repeat' split
  all_goals first | rfl | omega
theorem fgk_12 (R : Int → Int) (j : Int) : fgk R 12 j = frg R j := by
  unfold fgk frg
  split <;> split <;> first | rfl | omega
theorem lp_160 {d : Nat} {Q : am_R → am_H → Prop} {R : Int → Int} {c th lk pa le sp fi se : Int} : ∀ {h : am_H} (o : Mo h c th lk pa le sp fi se) (n : Nat) (r : Int), r + n = 12 → 0 ≤ r → oI h 121 270 (fgk R r) → (∀ h' : am_H, oI h' 121 270 (frg R) → fr (fun x => x = 121) h h' → am_X d 160 45 [.ref 120, .int (iI 12)] [] h' Q) → am_X d 160 11 [.ref 120, .int (iI r)] [] h Q
  | h, o, 0, r, h1, h2, a1, k => by
    have h1 : r = 12 := by omega
    subst h1
    refine ax_iload_n f160_11 rfl ?_
    refine ax_bipush f160_12 ?_
    refine ax_icmp_gt f160_14 rfl ⟨by omega, by omega⟩ ⟨by omega, by omega⟩ (fun q14 => ?_) (fun q14 => absurd q14 (by omega))
    exact k h (a1.eq fun j j1 j2 => (fgk_12 R j).symm) fr_rf
  | h, o, n + 1, r, h1, h2, a1, k => by
    refine ax_iload_n f160_11 rfl ?_
    refine ax_bipush f160_12 ?_
    refine ax_icmp_gt f160_14 rfl ⟨by omega, by omega⟩ ⟨by omega, by omega⟩ (fun q14 => absurd q14 (by omega)) (fun q14 => ?_)
    refine ax_aload_n f160_17 rfl ?_
    refine ax_getf f160_18 o rfl ?_
    refine ax_sipush f160_21 ?_
    refine ax_iload_n f160_24 rfl ?_
    refine ax_iadd f160_25 ?_
    refine ax_iconst f160_26 ?_
    refine ax_iastO f160_27 a1 (by omega) (by omega) rfl (fun hp1 o1 r1 => ?_)
    have o : Mo hp1 _ _ _ _ _ _ _ _ := r1.at (q := 120) (by omega) o
    have a1 := o1
    refine ax_aload_n f160_28 rfl ?_
    refine ax_getf f160_29 o rfl ?_
    refine ax_sipush f160_32 ?_
    refine ax_iload_n f160_35 rfl ?_
    refine ax_iadd f160_36 ?_
    refine ax_iconst f160_37 ?_
    refine ax_iastO f160_38 a1 (by omega) (by omega) rfl (fun hp2 o2 r2 => ?_)
    have o : Mo hp2 _ _ _ _ _ _ _ _ := r2.at (q := 120) (by omega) o
    have a1 := o2
    refine ax_iinc (ls' := [_, _]) f160_39 rfl (Nat.le_of_ble_eq_true rfl) rfl ?_
    refine ax_goto f160_42 rfl ?_
    refine lp_160 o n (r + 1) (by omega) (by omega) (a1.eq fun j j1 j2 => (fgk_s R h2 (by omega) j).symm) ?_
    intro h9 a9 f9
    exact k h9 a9 ((r1.trans r2).trans f9)
theorem c_160 {h : am_H} {R : Int → Int} {c th lk pa le sp fi se : Int} (o : Mo h c th lk pa le sp fi se) (a1 : oI h 121 270 R)  : am_X 0 160 0 (am_ent 160 [.ref 120]) [] h (fun r h' => rV r ∧ oI h' 121 270 (frg R) ∧ fr (fun x => x = 121) h h') := by
  show am_X 0 160 0 [.ref 120, am_u] [] h _
  have F : fr (fun x => x = 121) h h := fr_rf
  refine ax_aload_n f160_0 rfl ?_
  refine ax_getf f160_1 o rfl ?_
  refine ax_sipush f160_4 ?_
  refine ax_iconst f160_7 ?_
  refine ax_iastO f160_8 a1 (by omega) (by omega) rfl (fun hp1 o1 r1 => ?_)
  have o : Mo hp1 _ _ _ _ _ _ _ _ := r1.at (q := 120) (by omega) o
  have a1 := o1
  have F := F.trans (r1.mono fun x e => by omega)
  refine ax_iconst f160_9 ?_
  refine ax_istore_n (ls' := [_, _]) f160_10 (Nat.le_of_ble_eq_true rfl) rfl ?_
  refine lp_160 o 12 0 (by omega) (by omega) (a1.eq fun j j1 j2 => (fgk_0 R j).symm) ?_
  intro h9 a9 f9
  refine ax_return f160_45 rfl ?_
  exact ⟨rfl, a9, F.trans f9⟩
theorem c_158 {h : am_H} {R : Int → Int} {c th lk pa le sp fi se : Int} (o : Mo h c th lk pa le sp fi se) (a1 : oI h 121 270 R) {z v : Int} (hz : inI z) (hv : inI v) : am_X 2 158 0 (am_ent 158 [.ref 120, .int (iI z), .int (iI v)]) [] h (fun r h' => rI r (b2i ((0 ≤ z ∧ z < 48) ∧ (1 ≤ v ∧ v ≤ 99))) ∧ oI h' 121 270 (aWe R z v) ∧ fr (fun x => x = 121) h h') := by
  show am_X 2 158 0 [.ref 120, .int (iI z), .int (iI v)] [] h _
  have F : fr (fun x => x = 121) h h := fr_rf
  by_cases c0 : 0 ≤ z ∧ z ≤ 47
  · by_cases c1 : 1 ≤ v ∧ v ≤ 99
    · refine ax_iload_n f158_0 rfl ?_
      refine ax_csI (rest := []) f158_1 (Or.inl rfl) rfl rfl rfl rfl rfl rfl (c_147 hz) ?_
      intro _ e_
      obtain rfl := e_.symm
      clear e_
      refine ax_nmI (b2i_t c0) ?_
      refine ax_if_eq f158_4 rfl ⟨by omega, by omega⟩ (fun q4 => absurd q4 (by omega)) (fun q4 => ?_)
      refine ax_iload_n f158_7 rfl ?_
      refine ax_iconst f158_8 ?_
      refine ax_bipush f158_9 ?_
      refine ax_csI (rest := []) f158_11 (Or.inl rfl) rfl rfl rfl rfl rfl rfl (c_145 hv ⟨by decide, by decide⟩ ⟨by decide, by decide⟩) ?_
      intro _ e_
      obtain rfl := e_.symm
      clear e_
      refine ax_nmI (b2i_t c1) ?_
      refine ax_if_ne f158_14 rfl ⟨by omega, by omega⟩ (fun q14 => ?_) (fun q14 => absurd q14 (by omega))
      refine ax_aload_n f158_19 rfl ?_
      refine ax_getf f158_20 o rfl ?_
      refine ax_iconst f158_23 ?_
      refine ax_iload_n f158_24 rfl ?_
      refine ax_iadd f158_25 ?_
      rw [Int.zero_add]
      refine ax_iload_n f158_26 rfl ?_
      refine ax_iastO f158_27 a1 (by omega) (by omega) rfl (fun hp1 o1 r1 => ?_)
      have o : Mo hp1 _ _ _ _ _ _ _ _ := r1.at (q := 120) (by omega) o
      have a1 := o1
      have F := F.trans (r1.mono fun x e => by omega)
      refine ax_iconst f158_28 ?_
      refine ax_ireturn f158_29 rfl rfl ?_
      exact ⟨rI_of (b2i_t (by omega)).symm, by unfold aWe; rw [if_pos (by omega)]; exact a1, F⟩
    · refine ax_iload_n f158_0 rfl ?_
      refine ax_csI (rest := []) f158_1 (Or.inl rfl) rfl rfl rfl rfl rfl rfl (c_147 hz) ?_
      intro _ e_
      obtain rfl := e_.symm
      clear e_
      refine ax_nmI (b2i_t c0) ?_
      refine ax_if_eq f158_4 rfl ⟨by omega, by omega⟩ (fun q4 => absurd q4 (by omega)) (fun q4 => ?_)
      refine ax_iload_n f158_7 rfl ?_
      refine ax_iconst f158_8 ?_
      refine ax_bipush f158_9 ?_
      refine ax_csI (rest := []) f158_11 (Or.inl rfl) rfl rfl rfl rfl rfl rfl (c_145 hv ⟨by decide, by decide⟩ ⟨by decide, by decide⟩) ?_
      intro _ e_
      obtain rfl := e_.symm
      clear e_
      refine ax_nmI (b2i_f c1) ?_
      refine ax_if_ne f158_14 rfl ⟨by omega, by omega⟩ (fun q14 => absurd q14 (by omega)) (fun q14 => ?_)
      refine ax_iconst f158_17 ?_
      refine ax_ireturn f158_18 rfl rfl ?_
      exact ⟨rI_of (b2i_f (by omega)).symm, by unfold aWe; rw [if_neg (by omega)]; exact a1, F⟩
  · refine ax_iload_n f158_0 rfl ?_
    refine ax_csI (rest := []) f158_1 (Or.inl rfl) rfl rfl rfl rfl rfl rfl (c_147 hz) ?_
    intro _ e_
    obtain rfl := e_.symm
    clear e_
    refine ax_nmI (b2i_f c0) ?_
    refine ax_if_eq f158_4 rfl ⟨by omega, by omega⟩ (fun q4 => ?_) (fun q4 => absurd q4 (by omega))
    refine ax_iconst f158_17 ?_
    refine ax_ireturn f158_18 rfl rfl ?_
    exact ⟨rI_of (b2i_f (by omega)).symm, by unfold aWe; rw [if_neg (by omega)]; exact a1, F⟩
theorem c_159 {h : am_H} {R : Int → Int} {c th lk pa le sp fi se : Int} (o : Mo h c th lk pa le sp fi se) (a1 : oI h 121 270 R) {z y : Int} (hz : inI z) (hy : y = 0 ∨ y = 1) : am_X 2 159 0 (am_ent 159 [.ref 120, .int (iI z), .int (iI y)]) [] h (fun r h' => rI r (b2i (0 ≤ z ∧ z < 48)) ∧ oI h' 121 270 (aAw R z y) ∧ fr (fun x => x = 121) h h') := by
  show am_X 2 159 0 [.ref 120, .int (iI z), .int (iI y)] [] h _
  have F : fr (fun x => x = 121) h h := fr_rf
  by_cases c0 : 0 ≤ z ∧ z ≤ 47
  · rcases hy with rfl | rfl
    · refine ax_iload_n f159_0 rfl ?_
      refine ax_csI (rest := []) f159_1 (Or.inl rfl) rfl rfl rfl rfl rfl rfl (c_147 hz) ?_
      intro _ e_
      obtain rfl := e_.symm
      clear e_
      refine ax_nmI (b2i_t c0) ?_
      refine ax_if_ne f159_4 rfl ⟨by omega, by omega⟩ (fun q4 => ?_) (fun q4 => absurd q4 (by omega))
      refine ax_aload_n f159_9 rfl ?_
      refine ax_getf f159_10 o rfl ?_
      refine ax_bipush f159_13 ?_
      refine ax_iload_n f159_15 rfl ?_
      refine ax_iadd f159_16 ?_
      refine ax_iload_n f159_17 rfl ?_
      refine ax_if_eq f159_18 rfl ⟨by omega, by omega⟩ (fun q18 => ?_) (fun q18 => absurd q18 (by omega))
      refine ax_iconst f159_25 ?_
      refine ax_iastO f159_26 a1 (by omega) (by omega) rfl (fun hp1 o1 r1 => ?_)
      have o : Mo hp1 _ _ _ _ _ _ _ _ := r1.at (q := 120) (by omega) o
      have a1 := o1
      have F := F.trans (r1.mono fun x e => by omega)
      refine ax_iconst f159_27 ?_
      refine ax_ireturn f159_28 rfl rfl ?_
      exact ⟨rI_of (b2i_t (by omega)).symm, by unfold aAw; rw [if_pos (by omega)]; exact a1, F⟩
    · refine ax_iload_n f159_0 rfl ?_
      refine ax_csI (rest := []) f159_1 (Or.inl rfl) rfl rfl rfl rfl rfl rfl (c_147 hz) ?_
      intro _ e_
      obtain rfl := e_.symm
      clear e_
      refine ax_nmI (b2i_t c0) ?_
      refine ax_if_ne f159_4 rfl ⟨by omega, by omega⟩ (fun q4 => ?_) (fun q4 => absurd q4 (by omega))
      refine ax_aload_n f159_9 rfl ?_
      refine ax_getf f159_10 o rfl ?_
      refine ax_bipush f159_13 ?_
      refine ax_iload_n f159_15 rfl ?_
      refine ax_iadd f159_16 ?_
      refine ax_iload_n f159_17 rfl ?_
      refine ax_if_eq f159_18 rfl ⟨by omega, by omega⟩ (fun q18 => absurd q18 (by omega)) (fun q18 => ?_)
      refine ax_iconst f159_21 ?_
      refine ax_goto f159_22 rfl ?_
      refine ax_iastO f159_26 a1 (by omega) (by omega) rfl (fun hp1 o1 r1 => ?_)
      have o : Mo hp1 _ _ _ _ _ _ _ _ := r1.at (q := 120) (by omega) o
      have a1 := o1
      have F := F.trans (r1.mono fun x e => by omega)
      refine ax_iconst f159_27 ?_
      refine ax_ireturn f159_28 rfl rfl ?_
      exact ⟨rI_of (b2i_t (by omega)).symm, by unfold aAw; rw [if_pos (by omega)]; exact a1, F⟩
  · refine ax_iload_n f159_0 rfl ?_
    refine ax_csI (rest := []) f159_1 (Or.inl rfl) rfl rfl rfl rfl rfl rfl (c_147 hz) ?_
    intro _ e_
    obtain rfl := e_.symm
    clear e_
    refine ax_nmI (b2i_f c0) ?_
    refine ax_if_ne f159_4 rfl ⟨by omega, by omega⟩ (fun q4 => absurd q4 (by omega)) (fun q4 => ?_)
    refine ax_iconst f159_7 ?_
    refine ax_ireturn f159_8 rfl rfl ?_
    exact ⟨rI_of (b2i_f (by omega)).symm, by unfold aAw; rw [if_neg (by omega)]; exact a1, F⟩
theorem c_162 {h : am_H} {R : Int → Int} {c th lk pa le sp fi se : Int} (o : Mo h c th lk pa le sp fi se) (a1 : oI h 121 270 R) (i : ffe R) (i2 : blk R ≤ 12) {z y : Int} (hz : inI z) (hy : y = 0 ∨ y = 1) : am_X 2 162 0 (am_ent 162 [.ref 120, .int (iI z), .int (iI y)]) [] h (fun r h' => rI r (b2i ((1 ≤ z ∧ z < 48) ∧ (y = 0 ∨ R (144 + z) = 1 ∨ blk R ≤ 11))) ∧ oI h' 121 270 (aFe R z y) ∧ fr (fun x => x = 121) h h') := by
  show am_X 2 162 0 [.ref 120, .int (iI z), .int (iI y), am_u] [] h _
  have F : fr (fun x => x = 121) h h := fr_rf
  by_cases c0 : 1 ≤ z ∧ z ≤ 47
  · have hfz := i.1 z (by omega) (by omega)
    by_cases c1 : y = 0 ∨ R (144 + z) = 1 ∨ blk R ≤ 11
    · rcases hy with rfl | rfl
      · refine ax_iload_n f162_0 rfl ?_
        refine ax_iconst f162_1 ?_
        refine ax_bipush f162_2 ?_
        refine ax_csI (rest := []) f162_4 (Or.inl rfl) rfl rfl rfl rfl rfl rfl (c_145 hz ⟨by decide, by decide⟩ ⟨by decide, by decide⟩) ?_
        intro _ e_
        obtain rfl := e_.symm
        clear e_
        refine ax_nmI (b2i_t c0) ?_
        refine ax_if_eq f162_7 rfl ⟨by omega, by omega⟩ (fun q7 => absurd q7 (by omega)) (fun q7 => ?_)
        refine ax_aload_n f162_10 rfl ?_
        refine ax_iload_n f162_11 rfl ?_
        refine ax_iload_n f162_12 rfl ?_
        refine ax_cvI (rest := []) f162_13 o rfl rfl rfl rfl rfl rfl rfl rfl (c_161 o a1 i i2 (by omega) (by omega) (by omega)) ?_
        intro _ e_
        obtain rfl := e_.symm
        clear e_
        refine ax_nmI (b2i_t c1) ?_
        refine ax_if_ne f162_16 rfl ⟨by omega, by omega⟩ (fun q16 => ?_) (fun q16 => absurd q16 (by omega))
        refine ax_iload_n f162_21 rfl ?_
        refine ax_if_eq f162_22 rfl ⟨by omega, by omega⟩ (fun q22 => ?_) (fun q22 => absurd q22 (by omega))
        refine ax_iconst f162_29 ?_
        refine ax_istore_n (ls' := [_, _, _, _]) f162_30 (Nat.le_of_ble_eq_true rfl) rfl ?_
        refine ax_aload_n f162_31 rfl ?_
        refine ax_getf f162_32 o rfl ?_
        refine ax_sipush f162_35 ?_
        refine ax_iload_n f162_38 rfl ?_
        refine ax_iadd f162_39 ?_
        refine ax_ialdO f162_40 (by decide) a1 (by omega) (by omega) rfl ?_
        refine ax_iload_n f162_41 rfl ?_
        refine ax_icmp_eq f162_42 rfl ⟨by omega, by omega⟩ ⟨by omega, by omega⟩ (fun q42 => ?_) (fun q42 => ?_)
        · refine ax_iconst f162_60 ?_
          refine ax_ireturn f162_61 rfl rfl ?_
          refine ⟨rI_of (b2i_t (by omega)).symm, ?_, F⟩
          unfold aFe
          rw [if_pos (by omega)]
          unfold sfe
          rw [if_pos q42]
          exact a1
        · refine ax_aload_n f162_45 rfl ?_
          refine ax_getf f162_46 o rfl ?_
          refine ax_sipush f162_49 ?_
          refine ax_iload_n f162_52 rfl ?_
          refine ax_iadd f162_53 ?_
          refine ax_iload_n f162_54 rfl ?_
          refine ax_iastO f162_55 a1 (by omega) (by omega) rfl (fun hp21 o21 r21 => ?_)
          have o : Mo hp21 _ _ _ _ _ _ _ _ := r21.at (q := 120) (by omega) o
          have a1 := o21
          have F := F.trans (r21.mono fun x e => by omega)
          refine ax_aload_n f162_56 rfl ?_
          refine ax_cvV (rest := []) f162_57 o rfl rfl rfl rfl rfl rfl rfl rfl (c_160 o a1) ?_
          rintro h9 ⟨a9, f9⟩
          have o : Mo _ _ _ _ _ _ _ _ _ := f9.at (q := 120) (by omega) o
          have a1 := a9
          have F := F.trans (f9.mono fun x e => by omega)
          refine ax_iconst f162_60 ?_
          refine ax_ireturn f162_61 rfl rfl ?_
          refine ⟨rI_of (b2i_t (by omega)).symm, ?_, F⟩
          unfold aFe
          rw [if_pos (by omega)]
          unfold sfe
          rw [if_neg q42]
          exact a1
      · refine ax_iload_n f162_0 rfl ?_
        refine ax_iconst f162_1 ?_
        refine ax_bipush f162_2 ?_
        refine ax_csI (rest := []) f162_4 (Or.inl rfl) rfl rfl rfl rfl rfl rfl (c_145 hz ⟨by decide, by decide⟩ ⟨by decide, by decide⟩) ?_
        intro _ e_
        obtain rfl := e_.symm
        clear e_
        refine ax_nmI (b2i_t c0) ?_
        refine ax_if_eq f162_7 rfl ⟨by omega, by omega⟩ (fun q7 => absurd q7 (by omega)) (fun q7 => ?_)
        refine ax_aload_n f162_10 rfl ?_
        refine ax_iload_n f162_11 rfl ?_
        refine ax_iload_n f162_12 rfl ?_
        refine ax_cvI (rest := []) f162_13 o rfl rfl rfl rfl rfl rfl rfl rfl (c_161 o a1 i i2 (by omega) (by omega) (by omega)) ?_
        intro _ e_
        obtain rfl := e_.symm
        clear e_
        refine ax_nmI (b2i_t c1) ?_
        refine ax_if_ne f162_16 rfl ⟨by omega, by omega⟩ (fun q16 => ?_) (fun q16 => absurd q16 (by omega))
        refine ax_iload_n f162_21 rfl ?_
        refine ax_if_eq f162_22 rfl ⟨by omega, by omega⟩ (fun q22 => absurd q22 (by omega)) (fun q22 => ?_)
        refine ax_iconst f162_25 ?_
        refine ax_goto f162_26 rfl ?_
        refine ax_istore_n (ls' := [_, _, _, _]) f162_30 (Nat.le_of_ble_eq_true rfl) rfl ?_
        refine ax_aload_n f162_31 rfl ?_
        refine ax_getf f162_32 o rfl ?_
        refine ax_sipush f162_35 ?_
        refine ax_iload_n f162_38 rfl ?_
        refine ax_iadd f162_39 ?_
        refine ax_ialdO f162_40 (by decide) a1 (by omega) (by omega) rfl ?_
        refine ax_iload_n f162_41 rfl ?_
        refine ax_icmp_eq f162_42 rfl ⟨by omega, by omega⟩ ⟨by omega, by omega⟩ (fun q42 => ?_) (fun q42 => ?_)
        · refine ax_iconst f162_60 ?_
          refine ax_ireturn f162_61 rfl rfl ?_
          refine ⟨rI_of (b2i_t (by omega)).symm, ?_, F⟩
          unfold aFe
          rw [if_pos (by omega)]
          unfold sfe
          rw [if_pos q42]
          exact a1
        · refine ax_aload_n f162_45 rfl ?_
          refine ax_getf f162_46 o rfl ?_
          refine ax_sipush f162_49 ?_
          refine ax_iload_n f162_52 rfl ?_
          refine ax_iadd f162_53 ?_
          refine ax_iload_n f162_54 rfl ?_
          refine ax_iastO f162_55 a1 (by omega) (by omega) rfl (fun hp21 o21 r21 => ?_)
          have o : Mo hp21 _ _ _ _ _ _ _ _ := r21.at (q := 120) (by omega) o
          have a1 := o21
          have F := F.trans (r21.mono fun x e => by omega)
          refine ax_aload_n f162_56 rfl ?_
          refine ax_cvV (rest := []) f162_57 o rfl rfl rfl rfl rfl rfl rfl rfl (c_160 o a1) ?_
          rintro h9 ⟨a9, f9⟩
          have o : Mo _ _ _ _ _ _ _ _ _ := f9.at (q := 120) (by omega) o
          have a1 := a9
          have F := F.trans (f9.mono fun x e => by omega)
          refine ax_iconst f162_60 ?_
          refine ax_ireturn f162_61 rfl rfl ?_
          refine ⟨rI_of (b2i_t (by omega)).symm, ?_, F⟩
          unfold aFe
          rw [if_pos (by omega)]
          unfold sfe
          rw [if_neg q42]
          exact a1
    · refine ax_iload_n f162_0 rfl ?_
      refine ax_iconst f162_1 ?_
      refine ax_bipush f162_2 ?_
      refine ax_csI (rest := []) f162_4 (Or.inl rfl) rfl rfl rfl rfl rfl rfl (c_145 hz ⟨by decide, by decide⟩ ⟨by decide, by decide⟩) ?_
      intro _ e_
      obtain rfl := e_.symm
      clear e_
      refine ax_nmI (b2i_t c0) ?_
      refine ax_if_eq f162_7 rfl ⟨by omega, by omega⟩ (fun q7 => absurd q7 (by omega)) (fun q7 => ?_)
      refine ax_aload_n f162_10 rfl ?_
      refine ax_iload_n f162_11 rfl ?_
      refine ax_iload_n f162_12 rfl ?_
      refine ax_cvI (rest := []) f162_13 o rfl rfl rfl rfl rfl rfl rfl rfl (c_161 o a1 i i2 (by omega) (by omega) (by omega)) ?_
      intro _ e_
      obtain rfl := e_.symm
      clear e_
      refine ax_nmI (b2i_f c1) ?_
      refine ax_if_ne f162_16 rfl ⟨by omega, by omega⟩ (fun q16 => absurd q16 (by omega)) (fun q16 => ?_)
      refine ax_iconst f162_19 ?_
      refine ax_ireturn f162_20 rfl rfl ?_
      exact ⟨rI_of (b2i_f (by omega)).symm, by unfold aFe; rw [if_neg (by omega)]; exact a1, F⟩
  · refine ax_iload_n f162_0 rfl ?_
    refine ax_iconst f162_1 ?_
    refine ax_bipush f162_2 ?_
    refine ax_csI (rest := []) f162_4 (Or.inl rfl) rfl rfl rfl rfl rfl rfl (c_145 hz ⟨by decide, by decide⟩ ⟨by decide, by decide⟩) ?_
    intro _ e_
    obtain rfl := e_.symm
    clear e_
    refine ax_nmI (b2i_f c0) ?_
    refine ax_if_eq f162_7 rfl ⟨by omega, by omega⟩ (fun q7 => ?_) (fun q7 => absurd q7 (by omega))
    refine ax_iconst f162_19 ?_
    refine ax_ireturn f162_20 rfl rfl ?_
    exact ⟨rI_of (b2i_f (by omega)).symm, by unfold aFe; rw [if_neg (by omega)]; exact a1, F⟩
theorem c_163 {h : am_H} {R : Int → Int} {c th lk pa le sp fi se : Int} (o : Mo h c th lk pa le sp fi se) (a1 : oI h 121 270 R) (i : ffe R) (i2 : blk R ≤ 12) {z v : Int} (hz : inI z) (hv : inI v) : am_X 2 163 0 (am_ent 163 [.ref 120, .int (iI z), .int (iI v)]) [] h (fun r h' => rI r (b2i ((0 ≤ z ∧ z < blk R) ∧ (-2 ≤ v ∧ v ≤ 2))) ∧ oI h' 121 270 (aLi R z v) ∧ fr (fun x => x = 121) h h') := by
  show am_X 2 163 0 [.ref 120, .int (iI z), .int (iI v)] [] h _
  have F : fr (fun x => x = 121) h h := fr_rf
  by_cases c0 : 0 ≤ z ∧ z < blk R
  · by_cases c1 : -2 ≤ v ∧ v ≤ 2
    · refine ax_aload_n f163_0 rfl ?_
      refine ax_iload_n f163_1 rfl ?_
      refine ax_cvI (rest := []) f163_2 o rfl rfl rfl rfl rfl rfl rfl rfl (c_152 o a1 i i2 hz) ?_
      intro _ e_
      obtain rfl := e_.symm
      clear e_
      refine ax_nmI (b2i_t c0) ?_
      refine ax_if_eq f163_5 rfl ⟨by omega, by omega⟩ (fun q5 => absurd q5 (by omega)) (fun q5 => ?_)
      refine ax_iload_n f163_8 rfl ?_
      refine ax_bipush f163_9 ?_
      refine ax_iconst f163_11 ?_
      refine ax_csI (rest := []) f163_12 (Or.inl rfl) rfl rfl rfl rfl rfl rfl (c_145 hv ⟨by decide, by decide⟩ ⟨by decide, by decide⟩) ?_
      intro _ e_
      obtain rfl := e_.symm
      clear e_
      refine ax_nmI (b2i_t c1) ?_
      refine ax_if_ne f163_15 rfl ⟨by omega, by omega⟩ (fun q15 => ?_) (fun q15 => absurd q15 (by omega))
      refine ax_aload_n f163_20 rfl ?_
      refine ax_getf f163_21 o rfl ?_
      refine ax_sipush f163_24 ?_
      refine ax_iload_n f163_27 rfl ?_
      refine ax_iadd f163_28 ?_
      refine ax_iload_n f163_29 rfl ?_
      refine ax_iastO f163_30 a1 (by omega) (by omega) rfl (fun hp1 o1 r1 => ?_)
      have o : Mo hp1 _ _ _ _ _ _ _ _ := r1.at (q := 120) (by omega) o
      have a1 := o1
      have F := F.trans (r1.mono fun x e => by omega)
      refine ax_iconst f163_31 ?_
      refine ax_ireturn f163_32 rfl rfl ?_
      exact ⟨rI_of (b2i_t (by omega)).symm, by unfold aLi; rw [if_pos (by omega)]; exact a1, F⟩
    · refine ax_aload_n f163_0 rfl ?_
      refine ax_iload_n f163_1 rfl ?_
      refine ax_cvI (rest := []) f163_2 o rfl rfl rfl rfl rfl rfl rfl rfl (c_152 o a1 i i2 hz) ?_
      intro _ e_
      obtain rfl := e_.symm
      clear e_
      refine ax_nmI (b2i_t c0) ?_
      refine ax_if_eq f163_5 rfl ⟨by omega, by omega⟩ (fun q5 => absurd q5 (by omega)) (fun q5 => ?_)
      refine ax_iload_n f163_8 rfl ?_
      refine ax_bipush f163_9 ?_
      refine ax_iconst f163_11 ?_
      refine ax_csI (rest := []) f163_12 (Or.inl rfl) rfl rfl rfl rfl rfl rfl (c_145 hv ⟨by decide, by decide⟩ ⟨by decide, by decide⟩) ?_
      intro _ e_
      obtain rfl := e_.symm
      clear e_
      refine ax_nmI (b2i_f c1) ?_
      refine ax_if_ne f163_15 rfl ⟨by omega, by omega⟩ (fun q15 => absurd q15 (by omega)) (fun q15 => ?_)
      refine ax_iconst f163_18 ?_
      refine ax_ireturn f163_19 rfl rfl ?_
      exact ⟨rI_of (b2i_f (by omega)).symm, by unfold aLi; rw [if_neg (by omega)]; exact a1, F⟩
  · refine ax_aload_n f163_0 rfl ?_
    refine ax_iload_n f163_1 rfl ?_
    refine ax_cvI (rest := []) f163_2 o rfl rfl rfl rfl rfl rfl rfl rfl (c_152 o a1 i i2 hz) ?_
    intro _ e_
    obtain rfl := e_.symm
    clear e_
    refine ax_nmI (b2i_f c0) ?_
    refine ax_if_eq f163_5 rfl ⟨by omega, by omega⟩ (fun q5 => ?_) (fun q5 => absurd q5 (by omega))
    refine ax_iconst f163_18 ?_
    refine ax_ireturn f163_19 rfl rfl ?_
    exact ⟨rI_of (b2i_f (by omega)).symm, by unfold aLi; rw [if_neg (by omega)]; exact a1, F⟩
theorem lp_164 {d : Nat} {Q : am_R → am_H → Prop} {R : Int → Int} {c th lk pa le sp fi se : Int} (i : ffe R) (h01R : i01 R 48 48) (hw : blk R ≤ 12) : ∀ {h : am_H} (o : Mo h c th lk pa le sp fi se) (n : Nat) (r : Int), r + n = blk R → 0 ≤ r → oI h 121 270 (tls R r) → (∀ h' : am_H, oI h' 121 270 (tls R (blk R)) → fr (fun x => x = 121) h h' → am_X (d + 2) 164 62 [.ref 120, .int (iI (blk R))] [] h' Q) → am_X (d + 2) 164 11 [.ref 120, .int (iI r)] [] h Q
  | h, o, 0, r, h1, h2, a1, k => by
    have h1 : r = blk R := by omega
    refine ax_iload_n f164_11 rfl ?_
    refine ax_aload_n f164_12 rfl ?_
    refine ax_cvI (rest := [_]) f164_13 o rfl rfl rfl rfl rfl rfl rfl rfl (c_151 o a1) ?_
    intro _ e_
    obtain rfl := e_.symm
    clear e_
    rw [blk_cong (tls_fe R r (by omega))]
    refine ax_icmp_ge f164_16 rfl ⟨by omega, by omega⟩ ⟨by omega, by omega⟩ (fun q16 => ?_) (fun q16 => absurd q16 (by omega))
    rw [h1]; rw [h1] at a1; exact k h a1 fr_rf
  | h, o, n + 1, r, h1, h2, a1, k => by
    have hff : ffe (tls R r) := ⟨fun j j1 j2 => by rw [tls_fe R r (by omega) _ (by omega) (by omega)]; exact i.1 j j1 j2, by rw [tls_fe R r (by omega) _ (by omega) (by omega)]; exact i.2⟩
    have hb12 : blk (tls R r) ≤ 12 := by rw [blk_cong (tls_fe R r (by omega))]; exact hw
    have h01 : i01 (tls R r) 48 48 := fun j j1 j2 => by rw [tls_lo R r (by omega) _ (by omega)]; exact h01R j j1 j2
    have hb1 := (fro_sp i r).1
    have hb2 := (fro_sp i (r + 1)).2.1
    have hb3 := (fro_lt i h2 (by omega)).2.2
    have ha1 : 0 ≤ fro (tls R r) r := by rw [fro_cong (tls_fe R r (by omega))]; exact hb1
    have ha2 : fro (tls R r) r ≤ fro (tls R r) (r + 1) := by rw [fro_cong (tls_fe R r (by omega)), fro_cong (tls_fe R r (by omega))]; omega
    have ha3 : fro (tls R r) (r + 1) ≤ 48 := by rw [fro_cong (tls_fe R r (by omega))]; exact hb2
    refine ax_iload_n f164_11 rfl ?_
    refine ax_aload_n f164_12 rfl ?_
    refine ax_cvI (rest := [_]) f164_13 o rfl rfl rfl rfl rfl rfl rfl rfl (c_151 o a1) ?_
    intro _ e_
    obtain rfl := e_.symm
    clear e_
    rw [blk_cong (tls_fe R r (by omega))]
    refine ax_icmp_ge f164_16 rfl ⟨by omega, by omega⟩ ⟨by omega, by omega⟩ (fun q16 => absurd q16 (by omega)) (fun q16 => ?_)
    refine ax_aload_n f164_19 rfl ?_
    refine ax_getf f164_20 o rfl ?_
    refine ax_sipush f164_23 ?_
    refine ax_iload_n f164_26 rfl ?_
    refine ax_iadd f164_27 ?_
    refine ax_aload_n f164_28 rfl ?_
    refine ax_aload_n f164_29 rfl ?_
    refine ax_iload_n f164_30 rfl ?_
    refine ax_cvI (rest := [_, _, _]) f164_31 o rfl rfl rfl rfl rfl rfl rfl rfl (c_154 o a1 hff hb12 ⟨by omega, by omega⟩) ?_
    intro _ e_
    obtain rfl := e_.symm
    clear e_
    refine ax_aload_n f164_34 rfl ?_
    refine ax_iload_n f164_35 rfl ?_
    refine ax_iconst f164_36 ?_
    refine ax_iadd f164_37 ?_
    refine ax_cvI (rest := [_, _, _, _]) f164_38 o rfl rfl rfl rfl rfl rfl rfl rfl (c_154 o a1 hff hb12 ⟨by omega, by omega⟩) ?_
    intro _ e_
    obtain rfl := e_.symm
    clear e_
    refine ax_cvI (rest := [_, _]) f164_41 o rfl rfl rfl rfl rfl rfl rfl rfl (c_157 o a1 h01 ha1 ha2 ha3) ?_
    intro _ e_
    obtain rfl := e_.symm
    clear e_
    refine ax_aload_n f164_44 rfl ?_
    refine ax_getf f164_45 o rfl ?_
    refine ax_sipush f164_48 ?_
    refine ax_iload_n f164_51 rfl ?_
    refine ax_iadd f164_52 ?_
    refine ax_ialdO f164_53 (by decide) a1 (by omega) (by omega) rfl ?_
    refine ax_iadd f164_54 ?_
    refine ax_iastO f164_55 a1 (by omega) (by omega) rfl (fun hp2 o2 r2 => ?_)
    have o : Mo hp2 _ _ _ _ _ _ _ _ := r2.at (q := 120) (by omega) o
    have a1 := o2
    refine ax_iinc (ls' := [_, _]) f164_56 rfl (Nat.le_of_ble_eq_true rfl) rfl ?_
    refine ax_goto f164_59 rfl ?_
    have e : ∀ j, j ≠ 193 + r → tls R (r + 1) j = tls R r j := by
      intro j hj
      unfold tls
      split
      · rfl
      · split <;> split <;> first | rfl | omega
    refine lp_164 i h01R hw o n (r + 1) (by omega) (by omega) (a1.eq fun j j1 j2 => ?_) ?_
    · unfold uZ
      split
      · rename_i ej
        subst ej
        have e3 : tls R (r + 1) (193 + r) = fld R (fro R r) (fro R (r + 1)) + R (205 + r) := by
          unfold tls
          rw [if_neg (by omega), if_pos (by omega), show 193 + r - 193 = r by omega]
        have e4 : tls R r (205 + r) = R (205 + r) := by
          unfold tls
          rw [if_neg (by omega), if_neg (by omega)]
        rw [e3, e4, fro_cong (tls_fe R r (by omega)), fro_cong (tls_fe R r (by omega)), fld_cong (R := R) (fun x x1 x2 => tls_lo R r (by omega) x (by omega)) hb1 hb2]
      · rename_i ej
        exact e j ej
    · intro h9 a9 f9
      exact k h9 a9 (r2.trans f9)
theorem c_164 {h : am_H} {R : Int → Int} {c th lk pa le sp fi se : Int} (o : Mo h c th lk pa le sp fi se) (a1 : oI h 121 270 R) (i : ffe R) (h01R : i01 R 48 48) (hw : blk R ≤ 12) : am_X 2 164 0 (am_ent 164 [.ref 120]) [] h (fun r h' => rV r ∧ oI h' 121 270 (tel R) ∧ fr (fun x => x = 121) h h') := by
  show am_X 2 164 0 [.ref 120, am_u] [] h _
  have F : fr (fun x => x = 121) h h := fr_rf
  have hb := blk_1 i
  refine ax_aload_n f164_0 rfl ?_
  refine ax_getf f164_1 o rfl ?_
  refine ax_sipush f164_4 ?_
  refine ax_iconst f164_7 ?_
  refine ax_iastO f164_8 a1 (by omega) (by omega) rfl (fun hp1 o1 r1 => ?_)
  have o : Mo hp1 _ _ _ _ _ _ _ _ := r1.at (q := 120) (by omega) o
  have a1 := o1
  have F := F.trans (r1.mono fun x e => by omega)
  refine ax_iconst f164_9 ?_
  refine ax_istore_n (ls' := [_, _]) f164_10 (Nat.le_of_ble_eq_true rfl) rfl ?_
  refine lp_164 (d := 0) i h01R hw o (blk R).toNat 0 (by omega) (by omega) (a1.eq fun j j1 j2 => tls_0 R j) ?_
  intro h9 a9 f9
  refine ax_return f164_62 rfl ?_
  exact ⟨rfl, a9, F.trans f9⟩
theorem c_165 {h : am_H} {R : Int → Int} {c th lk pa le sp fi se : Int} (o : Mo h c th lk pa le sp fi se) (a1 : oI h 121 270 R) {v : Int} (hv : inI v) : am_X 1 165 0 (am_ent 165 [.ref 120, .int (iI v)]) [] h (fun r h' => rI r (b2i (0 ≤ v ∧ v ≤ 1)) ∧ oI h' 121 270 (if 0 ≤ v ∧ v ≤ 1 then uZ R 269 v else R) ∧ fr (fun x => x = 121) h h') := by
  show am_X 1 165 0 [.ref 120, .int (iI v)] [] h _
  have F : fr (fun x => x = 121) h h := fr_rf
  by_cases c1 : 0 ≤ v ∧ v ≤ 1
  · refine ax_iload_n f165_0 rfl ?_
    refine ax_iconst f165_1 ?_
    refine ax_iconst f165_2 ?_
    refine ax_csI (rest := []) f165_3 (Or.inl rfl) rfl rfl rfl rfl rfl rfl (c_145 hv ⟨by decide, by decide⟩ ⟨by decide, by decide⟩) ?_
    intro _ e_
    obtain rfl := e_.symm
    clear e_
    refine ax_nmI (b2i_t c1) ?_
    refine ax_if_ne f165_6 rfl ⟨by omega, by omega⟩ (fun q6 => ?_) (fun q6 => absurd q6 (by omega))
    refine ax_aload_n f165_11 rfl ?_
    refine ax_getf f165_12 o rfl ?_
    refine ax_sipush f165_15 ?_
    refine ax_iload_n f165_18 rfl ?_
    refine ax_iastO f165_19 a1 (by omega) (by omega) rfl (fun hp1 o1 r1 => ?_)
    have o : Mo hp1 _ _ _ _ _ _ _ _ := r1.at (q := 120) (by omega) o
    have a1 := o1
    have F := F.trans (r1.mono fun x e => by omega)
    refine ax_iconst f165_20 ?_
    refine ax_ireturn f165_21 rfl rfl ?_
    exact ⟨rI_of (b2i_t (by omega)).symm, by rw [if_pos (by omega)]; exact a1, F⟩
  · refine ax_iload_n f165_0 rfl ?_
    refine ax_iconst f165_1 ?_
    refine ax_iconst f165_2 ?_
    refine ax_csI (rest := []) f165_3 (Or.inl rfl) rfl rfl rfl rfl rfl rfl (c_145 hv ⟨by decide, by decide⟩ ⟨by decide, by decide⟩) ?_
    intro _ e_
    obtain rfl := e_.symm
    clear e_
    refine ax_nmI (b2i_f c1) ?_
    refine ax_if_ne f165_6 rfl ⟨by omega, by omega⟩ (fun q6 => absurd q6 (by omega)) (fun q6 => ?_)
    refine ax_iconst f165_9 ?_
    refine ax_ireturn f165_10 rfl rfl ?_
    exact ⟨rI_of (b2i_f (by omega)).symm, by rw [if_neg (by omega)]; exact a1, F⟩
theorem lp_149 {d : Nat} {Q : am_R → am_H → Prop} {R : Int → Int} {c th lk pa le sp fi se : Int} : ∀ {h : am_H} (o : Mo h c th lk pa le sp fi se) (a1 : oI h 121 270 R) (n : Nat) (r : Int), r + n = 270 → 0 ≤ r → ∀ g : Int → Int, oI h 125 270 g → (∀ j, 0 ≤ j → j < r → g j = R j) → (∀ h' : am_H, oI h' 125 270 R → fr (fun x => x = 125) h h' → am_X d 149 27 [.ref 120, .int (iI 270)] [] h' Q) → am_X d 149 2 [.ref 120, .int (iI r)] [] h Q
  | h, o, a1, 0, r, h1, h2, g, a5, hg, k => by
    have h1 : r = 270 := by omega
    subst h1
    refine ax_iload_n f149_2 rfl ?_
    refine ax_sipush f149_3 ?_
    refine ax_icmp_ge f149_6 rfl ⟨by omega, by omega⟩ ⟨by omega, by omega⟩ (fun q6 => ?_) (fun q6 => absurd q6 (by omega))
    exact k h (a5.eq fun j j1 j2 => (hg j j1 (by omega)).symm) fr_rf
  | h, o, a1, n + 1, r, h1, h2, g, a5, hg, k => by
    refine ax_iload_n f149_2 rfl ?_
    refine ax_sipush f149_3 ?_
    refine ax_icmp_ge f149_6 rfl ⟨by omega, by omega⟩ ⟨by omega, by omega⟩ (fun q6 => absurd q6 (by omega)) (fun q6 => ?_)
    refine ax_aload_n f149_9 rfl ?_
    refine ax_getf f149_10 o rfl ?_
    refine ax_iload_n f149_13 rfl ?_
    refine ax_aload_n f149_14 rfl ?_
    refine ax_getf f149_15 o rfl ?_
    refine ax_iload_n f149_18 rfl ?_
    refine ax_ialdO f149_19 (by decide) a1 (by omega) (by omega) rfl ?_
    refine ax_iastO f149_20 a5 (by omega) (by omega) rfl (fun hp1 o1 r1 => ?_)
    have o : Mo hp1 _ _ _ _ _ _ _ _ := r1.at (q := 120) (by omega) o
    have a1 := a1.fr r1 (by omega)
    have a5 := o1
    refine ax_iinc (ls' := [_, _]) f149_21 rfl (Nat.le_of_ble_eq_true rfl) rfl ?_
    refine ax_goto f149_24 rfl ?_
    refine lp_149 o a1 n (r + 1) (by omega) (by omega) _ a5 ?_ ?_
    · intro j j1 j2
      unfold uZ
      split
      · rename_i e; rw [e]
      · exact hg j j1 (by omega)
    · intro h9 a9 f9
      exact k h9 a9 (r1.trans f9)
theorem c_149 {h : am_H} {R : Int → Int} {c th lk pa le sp fi se : Int} (o : Mo h c th lk pa le sp fi se) (a1 : oI h 121 270 R) {g : Int → Int} (a5 : oI h 125 270 g) : am_X 0 149 0 (am_ent 149 [.ref 120]) [] h (fun r h' => rV r ∧ oI h' 125 270 R ∧ fr (fun x => x = 125) h h') := by
  show am_X 0 149 0 [.ref 120, am_u] [] h _
  refine ax_iconst f149_0 ?_
  refine ax_istore_n (ls' := [_, _]) f149_1 (Nat.le_of_ble_eq_true rfl) rfl ?_
  refine lp_149 o a1 270 0 (by omega) (by omega) _ a5 (fun j j1 j2 => by omega) ?_
  intro h9 a9 f9
  refine ax_return f149_27 rfl ?_
  exact ⟨rfl, a9, f9⟩
theorem lp_150 {d : Nat} {Q : am_R → am_H → Prop} {R : Int → Int} {c th lk pa le sp fi se : Int} : ∀ {h : am_H} (o : Mo h c th lk pa le sp fi se) (a5 : oI h 125 270 R) (n : Nat) (r : Int), r + n = 270 → 0 ≤ r → ∀ g : Int → Int, oI h 121 270 g → (∀ j, 0 ≤ j → j < r → g j = R j) → (∀ h' : am_H, oI h' 121 270 R → fr (fun x => x = 121) h h' → am_X d 150 27 [.ref 120, .int (iI 270)] [] h' Q) → am_X d 150 2 [.ref 120, .int (iI r)] [] h Q
  | h, o, a5, 0, r, h1, h2, g, a1, hg, k => by
    have h1 : r = 270 := by omega
    subst h1
    refine ax_iload_n f150_2 rfl ?_
    refine ax_sipush f150_3 ?_
    refine ax_icmp_ge f150_6 rfl ⟨by omega, by omega⟩ ⟨by omega, by omega⟩ (fun q6 => ?_) (fun q6 => absurd q6 (by omega))
    exact k h (a1.eq fun j j1 j2 => (hg j j1 (by omega)).symm) fr_rf
  | h, o, a5, n + 1, r, h1, h2, g, a1, hg, k => by
    refine ax_iload_n f150_2 rfl ?_
    refine ax_sipush f150_3 ?_
    refine ax_icmp_ge f150_6 rfl ⟨by omega, by omega⟩ ⟨by omega, by omega⟩ (fun q6 => absurd q6 (by omega)) (fun q6 => ?_)
    refine ax_aload_n f150_9 rfl ?_
    refine ax_getf f150_10 o rfl ?_
    refine ax_iload_n f150_13 rfl ?_
    refine ax_aload_n f150_14 rfl ?_
    refine ax_getf f150_15 o rfl ?_
    refine ax_iload_n f150_18 rfl ?_
    refine ax_ialdO f150_19 (by decide) a5 (by omega) (by omega) rfl ?_
    refine ax_iastO f150_20 a1 (by omega) (by omega) rfl (fun hp1 o1 r1 => ?_)
    have o : Mo hp1 _ _ _ _ _ _ _ _ := r1.at (q := 120) (by omega) o
    have a1 := o1
    have a5 := a5.fr r1 (by omega)
    refine ax_iinc (ls' := [_, _]) f150_21 rfl (Nat.le_of_ble_eq_true rfl) rfl ?_
    refine ax_goto f150_24 rfl ?_
    refine lp_150 o a5 n (r + 1) (by omega) (by omega) _ a1 ?_ ?_
    · intro j j1 j2
      unfold uZ
      split
      · rename_i e; rw [e]
      · exact hg j j1 (by omega)
    · intro h9 a9 f9
      exact k h9 a9 (r1.trans f9)
theorem c_150 {h : am_H} {R : Int → Int} {c th lk pa le sp fi se : Int} (o : Mo h c th lk pa le sp fi se) (a5 : oI h 125 270 R) {g : Int → Int} (a1 : oI h 121 270 g) : am_X 0 150 0 (am_ent 150 [.ref 120]) [] h (fun r h' => rV r ∧ oI h' 121 270 R ∧ fr (fun x => x = 121) h h') := by
  show am_X 0 150 0 [.ref 120, am_u] [] h _
  refine ax_iconst f150_0 ?_
  refine ax_istore_n (ls' := [_, _]) f150_1 (Nat.le_of_ble_eq_true rfl) rfl ?_
  refine lp_150 o a5 270 0 (by omega) (by omega) _ a1 (fun j j1 j2 => by omega) ?_
  intro h9 a9 f9
  refine ax_return f150_27 rfl ?_
  exact ⟨rfl, a9, f9⟩
theorem lp_148a {d : Nat} {Q : am_R → am_H → Prop} {g0 : Int → Int} {c th lk pa le sp fi se : Int} : ∀ {h : am_H} (o : Mo h c th lk pa le sp fi se) (n : Nat) (r : Int), r + n = 3510 → 0 ≤ r → ∀ g : Int → Int, oI h 122 3780 g → (∀ j, 0 ≤ j → j < r → g j = g0 (j + 270)) → (∀ j, r ≤ j → g j = g0 j) → (∀ (h' : am_H) (g' : Int → Int), oI h' 122 3780 g' → (∀ j, 0 ≤ j → j < 3510 → g' j = g0 (j + 270)) → fr (fun x => x = 122) h h' → am_X d 148 40 [.ref 120, .int (iI 3510)] [] h' Q) → am_X d 148 11 [.ref 120, .int (iI r)] [] h Q
  | h, o, 0, r, h1, h2, g, a2, hg, hr, k => by
    have h1 : r = 3510 := by omega
    subst h1
    refine ax_iload_n f148_11 rfl ?_
    refine ax_sipush f148_12 ?_
    refine ax_icmp_ge f148_15 rfl ⟨by omega, by omega⟩ ⟨by omega, by omega⟩ (fun q15 => ?_) (fun q15 => absurd q15 (by omega))
    exact k h _ a2 hg fr_rf
  | h, o, n + 1, r, h1, h2, g, a2, hg, hr, k => by
    refine ax_iload_n f148_11 rfl ?_
    refine ax_sipush f148_12 ?_
    refine ax_icmp_ge f148_15 rfl ⟨by omega, by omega⟩ ⟨by omega, by omega⟩ (fun q15 => absurd q15 (by omega)) (fun q15 => ?_)
    refine ax_aload_n f148_18 rfl ?_
    refine ax_getf f148_19 o rfl ?_
    refine ax_iload_n f148_22 rfl ?_
    refine ax_aload_n f148_23 rfl ?_
    refine ax_getf f148_24 o rfl ?_
    refine ax_iload_n f148_27 rfl ?_
    refine ax_sipush f148_28 ?_
    refine ax_iadd f148_31 ?_
    refine ax_ialdO f148_32 (by decide) a2 (by omega) (by omega) rfl ?_
    refine ax_iastO f148_33 a2 (by omega) (by omega) rfl (fun hp1 o1 r1 => ?_)
    have o : Mo hp1 _ _ _ _ _ _ _ _ := r1.at (q := 120) (by omega) o
    have a2 := o1
    refine ax_iinc (ls' := [_, _]) f148_34 rfl (Nat.le_of_ble_eq_true rfl) rfl ?_
    refine ax_goto f148_37 rfl ?_
    refine lp_148a (g0 := g0) o n (r + 1) (by omega) (by omega) _ a2 ?_ ?_ ?_
    · intro j j1 j2
      unfold uZ
      split
      · rename_i e; rw [e, hr _ (by omega)]
      · exact hg j j1 (by omega)
    · intro j j1
      rw [uZ_n (by omega)]
      exact hr j (by omega)
    · intro h9 g9 a9 e9 f9
      exact k h9 g9 a9 e9 (r1.trans f9)
theorem lp_148b {d : Nat} {Q : am_R → am_H → Prop} {R g0 : Int → Int} {c th lk pa le sp fi se : Int} (hc : 0 ≤ c ∧ c ≤ 13) : ∀ {h : am_H} (o : Mo h c th lk pa le sp fi se) (a1 : oI h 121 270 R) (n : Nat) (r : Int), r + n = 270 → 0 ≤ r → ∀ g : Int → Int, oI h 122 3780 g → (∀ j, 0 ≤ j → j < r → g (270 * c + j) = R j) → (∀ j, j < 270 * c → g j = g0 j) → (∀ (h' : am_H) (g' : Int → Int), oI h' 122 3780 g' → (∀ j, 0 ≤ j → j < 270 → g' (270 * c + j) = R j) → (∀ j, j < 270 * c → g' j = g0 j) → fr (fun x => x = 122) h h' → am_X d 148 86 [.ref 120, .int (iI 270)] [] h' Q) → am_X d 148 52 [.ref 120, .int (iI r)] [] h Q
  | h, o, a1, 0, r, h1, h2, g, a2, hg, hr, k => by
    have h1 : r = 270 := by omega
    subst h1
    refine ax_iload_n f148_52 rfl ?_
    refine ax_sipush f148_53 ?_
    refine ax_icmp_ge f148_56 rfl ⟨by omega, by omega⟩ ⟨by omega, by omega⟩ (fun q56 => ?_) (fun q56 => absurd q56 (by omega))
    exact k h _ a2 hg hr fr_rf
  | h, o, a1, n + 1, r, h1, h2, g, a2, hg, hr, k => by
    refine ax_iload_n f148_52 rfl ?_
    refine ax_sipush f148_53 ?_
    refine ax_icmp_ge f148_56 rfl ⟨by omega, by omega⟩ ⟨by omega, by omega⟩ (fun q56 => absurd q56 (by omega)) (fun q56 => ?_)
    refine ax_aload_n f148_59 rfl ?_
    refine ax_getf f148_60 o rfl ?_
    refine ax_sipush f148_63 ?_
    refine ax_aload_n f148_66 rfl ?_
    refine ax_getf f148_67 o rfl ?_
    refine ax_imul f148_70 ?_
    refine ax_iload_n f148_71 rfl ?_
    refine ax_iadd f148_72 ?_
    refine ax_aload_n f148_73 rfl ?_
    refine ax_getf f148_74 o rfl ?_
    refine ax_iload_n f148_77 rfl ?_
    refine ax_ialdO f148_78 (by decide) a1 (by omega) (by omega) rfl ?_
    refine ax_iastO f148_79 a2 (by omega) (by omega) rfl (fun hp1 o1 r1 => ?_)
    have o : Mo hp1 _ _ _ _ _ _ _ _ := r1.at (q := 120) (by omega) o
    have a1 := a1.fr r1 (by omega)
    have a2 := o1
    refine ax_iinc (ls' := [_, _]) f148_80 rfl (Nat.le_of_ble_eq_true rfl) rfl ?_
    refine ax_goto f148_83 rfl ?_
    refine lp_148b (g0 := g0) hc o a1 n (r + 1) (by omega) (by omega) _ a2 ?_ ?_ ?_
    · intro j j1 j2
      unfold uZ
      split
      · rename_i e; rw [show j = r by omega]
      · exact hg j j1 (by omega)
    · intro j j1
      rw [uZ_n (by omega)]
      exact hr j (by omega)
    · intro h9 g9 a9 e9 e8 f9
      exact k h9 g9 a9 e9 e8 (r1.trans f9)
theorem c_148 {h : am_H} {R : Int → Int} {c th lk pa le sp fi se : Int} (o : Mo h c th lk pa le sp fi se) (a1 : oI h 121 270 R) {g : Int → Int} {S : Int → Int → Int} (a2 : oI h 122 3780 g) (hc : 0 ≤ c ∧ c ≤ 14) (hst : ∀ k j, 0 ≤ k → k < c → 0 ≤ j → j < 270 → g (270 * k + j) = S k j) : am_X 0 148 0 (am_ent 148 [.ref 120]) [] h (fun r h' => rV r ∧ Mo h' (min (c + 1) 14) th lk pa le sp fi se ∧ oI h' 121 270 R ∧ (∃ g', oI h' 122 3780 g' ∧ ∀ k j, 0 ≤ k → k < min (c + 1) 14 → 0 ≤ j → j < 270 → g' (270 * k + j) = rmS S c R k j) ∧ fr (fun x => x = 120 ∨ x = 122) h h') := by
  show am_X 0 148 0 [.ref 120, am_u] [] h _
  have F : fr (fun x => x = 120 ∨ x = 122) h h := fr_rf
  refine ax_aload_n f148_0 rfl ?_
  refine ax_getf f148_1 o rfl ?_
  refine ax_bipush f148_4 ?_
  refine ax_icmp_ne f148_6 rfl ⟨by omega, by omega⟩ ⟨by omega, by omega⟩ (fun q6 => ?_) (fun q6 => ?_)
  · refine ax_iconst f148_50 ?_
    refine ax_istore_n (ls' := [_, _]) f148_51 (Nat.le_of_ble_eq_true rfl) rfl ?_
    refine lp_148b (g0 := g) (c := c) (by omega) o a1 270 0 (by omega) (by omega) _ a2 (fun j j1 j2 => by omega) (fun j j1 => rfl) ?_
    intro h9 g9 a9 e9 e8 f9
    have o : Mo h9 _ _ _ _ _ _ _ _ := f9.at (q := 120) (by omega) o
    have a1 := a1.fr f9 (by omega)
    have a2 := a9
    have F := F.trans (f9.mono fun x e => by omega)
    refine ax_aload_n f148_86 rfl ?_
    refine ax_dup f148_87 rfl ?_
    refine ax_getf f148_88 o rfl ?_
    refine ax_iconst f148_91 ?_
    refine ax_iadd f148_92 ?_
    refine ax_putfO f148_93 o rfl rfl rfl rfl (fun hp31 o31 r31 => ?_)
    have o : Mo hp31 _ _ _ _ _ _ _ _ := o31
    have a1 := a1.fr r31 (by omega)
    have a2 := a2.fr r31 (by omega)
    have F := F.trans (r31.mono fun x e => by omega)
    refine ax_return f148_96 rfl ?_
    refine ⟨rfl, ?_, a1, ⟨_, a2, ?_⟩, F⟩
    · have e : c + 1 = min (c + 1) 14 := by omega
      rw [e] at o; exact o
    · intro k j k1 k2 j1 j2
      unfold rmS
      rw [if_neg q6]
      by_cases ek : k = c
      · rw [if_pos ek, ek]
        exact e9 j j1 j2
      · rw [if_neg ek, e8 _ (by omega)]
        exact hst k j k1 (by omega) j1 j2
  · refine ax_iconst f148_9 ?_
    refine ax_istore_n (ls' := [_, _]) f148_10 (Nat.le_of_ble_eq_true rfl) rfl ?_
    refine lp_148a (g0 := g) o 3510 0 (by omega) (by omega) _ a2 (fun j j1 j2 => by omega) (fun j j1 => rfl) ?_
    intro h7 g7 a7 g7e f7
    have o : Mo h7 _ _ _ _ _ _ _ _ := f7.at (q := 120) (by omega) o
    have a1 := a1.fr f7 (by omega)
    have a2 := a7
    have F := F.trans (f7.mono fun x e => by omega)
    refine ax_aload_n f148_40 rfl ?_
    refine ax_dup f148_41 rfl ?_
    refine ax_getf f148_42 o rfl ?_
    refine ax_iconst f148_45 ?_
    refine ax_isub f148_46 ?_
    refine ax_putfO f148_47 o rfl rfl rfl rfl (fun hp11 o11 r11 => ?_)
    have o : Mo hp11 _ _ _ _ _ _ _ _ := o11
    have a1 := a1.fr r11 (by omega)
    have a2 := a2.fr r11 (by omega)
    have F := F.trans (r11.mono fun x e => by omega)
    refine ax_iconst f148_50 ?_
    refine ax_istore_n (ls' := [_, _]) f148_51 (Nat.le_of_ble_eq_true rfl) rfl ?_
    refine lp_148b (g0 := g7) (c := c - 1) (by omega) o a1 270 0 (by omega) (by omega) _ a2 (fun j j1 j2 => by omega) (fun j j1 => rfl) ?_
    intro h9 g9 a9 e9 e8 f9
    have o : Mo h9 _ _ _ _ _ _ _ _ := f9.at (q := 120) (by omega) o
    have a1 := a1.fr f9 (by omega)
    have a2 := a9
    have F := F.trans (f9.mono fun x e => by omega)
    refine ax_aload_n f148_86 rfl ?_
    refine ax_dup f148_87 rfl ?_
    refine ax_getf f148_88 o rfl ?_
    refine ax_iconst f148_91 ?_
    refine ax_iadd f148_92 ?_
    refine ax_putfO f148_93 o rfl rfl rfl rfl (fun hp31 o31 r31 => ?_)
    have o : Mo hp31 _ _ _ _ _ _ _ _ := o31
    have a1 := a1.fr r31 (by omega)
    have a2 := a2.fr r31 (by omega)
    have F := F.trans (r31.mono fun x e => by omega)
    refine ax_return f148_96 rfl ?_
    refine ⟨rfl, ?_, a1, ⟨_, a2, ?_⟩, F⟩
    · have e : c - 1 + 1 = min (c + 1) 14 := by omega
      rw [e] at o; exact o
    · intro k j k1 k2 j1 j2
      unfold rmS
      rw [if_pos (show c = 14 by omega)]
      by_cases ek : k = 13
      · rw [if_pos ek, show 270 * k + j = 270 * (c - 1) + j by omega]
        exact e9 j j1 j2
      · rw [if_neg ek, e8 _ (by omega), g7e _ (by omega) (by omega), ← hst (k + 1) j (by omega) (by omega) j1 j2]
        congr 1; omega
end MWR
